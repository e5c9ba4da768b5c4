/-! a beginning, to its end -/
theorem Sim_zero3 {O : Nat → Prop} {M Mr : zMem} {w T c b r : Nat} (h : SimZ (fun q => q = r) O M w Mr T c b) (hr : r < 4) : SimZ (fun q => q = r) O M w (z_up (z_up (z_up Mr 24 0 0 (326 + r) 0) 24 0 0 (334 + r) 0) 24 0 0 (302 + r) 0) T c b := by
  obtain ⟨k1, k2, k3, k4, k5, k6⟩ := h.2.2.2.2.2.2.2.2 r hr
  have R : ∀ p, ¬ p = 326 + r → ¬ p = 334 + r → ¬ p = 302 + r → (z_up (z_up (z_up Mr 24 0 0 (326 + r) 0) 24 0 0 (334 + r) 0) 24 0 0 (302 + r) 0).1 24 0 0 p = Mr.1 24 0 0 p := fun p e1 e2 e3 => by rw [zn_upN e3, zn_upN e2, zn_upN e1]
  have R326 : (z_up (z_up (z_up Mr 24 0 0 (326 + r) 0) 24 0 0 (334 + r) 0) 24 0 0 (302 + r) 0).1 24 0 0 (326 + r) = 0 := by rw [zn_upN (by omega), zn_upN (by omega), zn_upS]
  refine Sim_rd h hr (fun a c d e => rfl) (fun p e => ?_) (R _ (by omega) (by omega) (by omega)) (fun t ht e => ?_) ⟨⟨fun k hk => ?_, fun k hk => ?_⟩, ?_, ?_, ?_, ?_, fun z => (z rfl).elim⟩ (Nat.le_refl _) (fun s _ _ z => z)
  · unfold P_own P_bd at e
    exact R p (by omega) (by omega) (by omega)
  · rw [R _ (by omega) (by omega) (by omega)]
    rcases h.2.2.2.2.2.1 t ht with y | ⟨s, s1, s2, s3, s4⟩
    · rw [y] at e
      exact (nm1 hr e).elim
    · have : s = r := (nI_eq (by omega) (by omega)).mp (s2.symm.trans e)
      subst this
      exact s3
  · have q1 : ∀ k, k < 12 → 262 ≤ rp_of k ∧ rp_of k < 323 ∧ (rp_of k - 262) % 4 = 0 ∧ ¬ rp_of k = 302 := by decide
    have q2 := q1 k hk
    rw [R _ (by omega) (by omega) (by omega)]
    exact k1.1 k hk
  · have q1 : ∀ k, k < 3 → 306 ≤ tp_of k ∧ tp_of k < 318 := by decide
    have q2 := q1 k hk
    rw [R _ (by omega) (by omega) (by omega)]
    exact k1.2 k hk
  · unfold S_rv at *
    rw [R (262 + r) (by omega) (by omega) (by omega), R (278 + r) (by omega) (by omega) (by omega), R (266 + r) (by omega) (by omega) (by omega), R (270 + r) (by omega) (by omega) (by omega), R (282 + r) (by omega) (by omega) (by omega), R (294 + r) (by omega) (by omega) (by omega), R (298 + r) (by omega) (by omega) (by omega), R326]
    exact ⟨k2.1, k2.2.1, k2.2.2.1, k2.2.2.2.1, k2.2.2.2.2.1, k2.2.2.2.2.2.1, k2.2.2.2.2.2.2.1, k2.2.2.2.2.2.2.2.1, 0, by omega, rfl⟩
  · unfold S_sum at *
    rw [R (310 + r) (by omega) (by omega) (by omega), R (314 + r) (by omega) (by omega) (by omega)]
    exact k3
  · obtain ⟨m, m1, m2, m3, m4⟩ := k4
    refine ⟨m, m1, (R _ (by omega) (by omega) (by omega)).trans m2, fun j hj => ?_, fun i j hi hj => ?_⟩
    · obtain ⟨a, t, t1, t2, t3⟩ := m3 j hj
      rw [R _ (by omega) (by omega) (by omega)]
      refine ⟨a, t, t1, t2, ?_⟩
      rw [R _ (by omega) (by omega) (by omega)]
      exact t3
    · rw [R _ (by omega) (by omega) (by omega), R _ (by omega) (by omega) (by omega)]
      exact m4 i j hi hj
  · obtain ⟨l, l1, l2, l3, l4⟩ := k5
    exact ⟨l, S_listW (by omega) l1 rfl (fun j _ => rfl) (R _ (by omega) (by omega) (by omega)) (fun p p1 p2 => R p (by unfold a_ln at p1; omega) (by unfold a_ln at p1; omega) (by unfold a_ln at p1; omega)), l2, l3, l4⟩
theorem Sim_tree0 {O : Nat → Prop} {M M2 Mr Mr2 : zMem} {w T c b r mo : Nat} {ro : List zX} (h : SimZ (fun q => q = r) O M w Mr T c b) (hr : r < 4) (hM : ∀ a c d, ¬ (c = 3 * r ∧ (a = 22 ∨ (a = 3 ∧ d = 1))) → M2.1 a w c d = M.1 a w c d) (hR : ∀ p, ¬ p = 326 + r → ¬ (814 + 2700 * r ≤ p ∧ p < 3514 + 2700 * r) → Mr2.1 24 0 0 p = Mr.1 24 0 0 p)
    (hB : S_back M2 w (3 * r) (Mr2.1 24 0 0) (a_rw r 0) (326 + r) ro) (ne : ¬ ro = []) (ch : x_ch 0 ro 65536) (len : ro.length ≤ 296) (a3 : M.1 3 w (3 * r + 1) 1 = 0) (f8 : ∀ k, k < 3 → M.1 8 w (2 * r + 1) k = 0) (r334 : Mr.1 24 0 0 (334 + r) = 0) (r302 : Mr.1 24 0 0 (302 + r) = 0) (r306 : Mr.1 24 0 0 (306 + r) = 0) (r310 : Mr.1 24 0 0 (310 + r) = 0) (r314 : Mr.1 24 0 0 (314 + r) = 0) (r278 : Mr.1 24 0 0 (278 + r) = 1) (r294 : Mr.1 24 0 0 (294 + r) = nI mo) (hmo : mo = 1 ∨ mo = 3)
    (due : mo = 1 → Mr.1 24 0 0 (354 + r) = nI (x_sum (fun x => x_qn (Mr.1 24 0 0) r (16 - x.1) x) ro)) : SimZ z_F O M2 w Mr2 T c b := by
  obtain ⟨k1, k2, k3, k4, k5, k6⟩ := h.2.2.2.2.2.2.2.2 r hr
  have R : ∀ p, ¬ p = 326 + r → p < 814 ∨ 11614 ≤ p → Mr2.1 24 0 0 p = Mr.1 24 0 0 p := fun p e1 e2 => hR p e1 (by omega)
  have cn : ∀ x, x_cn (Mr2.1 24 0 0) r x = x_cn (Mr.1 24 0 0) r x := x_cnE (fun t ht e => ⟨by rw [← R (550 + t) (by omega) (by omega)]; exact e, by unfold x_id; rw [R (478 + t) (by omega) (by omega)]⟩) (fun t ht e => by rw [R (550 + t) (by omega) (by omega)]; exact e)
  refine Sim_rd h hr (fun a c d e => hM a c d (by unfold C_own at e; omega)) (fun p e => hR p (by unfold P_own P_bd at e; omega) (by unfold P_own P_bd at e; omega)) (R _ (by omega) (by omega)) (fun t ht e => (R _ (by omega) (by omega)).trans r278) ⟨⟨fun k hk => ?_, fun k hk => ?_⟩, ?_, ?_, ?_, ?_, fun _ => ⟨fun z => ?_, fun _ z => ?_, fun _ _ => ⟨ro, [], hB, ⟨?_, ?_, fun j hj => absurd hj (Nat.not_lt_zero j)⟩, ne, ch, ?_, ?_, fun k hk => ?_, ?_, fun z1 z2 => ⟨0, 0, 0, ?_, ?_, ?_, ?_⟩⟩⟩⟩ (Nat.le_refl _) (fun s _ e z => (e z).elim)
  · have q1 : ∀ k, k < 12 → rp_of k < 323 := by decide
    have q2 := q1 k hk
    rw [hM _ _ _ (by omega), R _ (by omega) (by omega)]
    exact k1.1 k hk
  · have q1 : ∀ k, k < 3 → tp_of k < 318 := by decide
    have q2 := q1 k hk
    rw [hM _ _ _ (by omega), R _ (by omega) (by omega)]
    exact k1.2 k hk
  · unfold S_rv at *
    rw [R (262 + r) (by omega) (by omega), R (278 + r) (by omega) (by omega), R (266 + r) (by omega) (by omega), R (270 + r) (by omega) (by omega), R (282 + r) (by omega) (by omega), R (294 + r) (by omega) (by omega), R (298 + r) (by omega) (by omega)]
    exact ⟨k2.1, k2.2.1, k2.2.2.1, k2.2.2.2.1, k2.2.2.2.2.1, k2.2.2.2.2.2.1, k2.2.2.2.2.2.2.1, k2.2.2.2.2.2.2.2.1, ro.length, by omega, hB.2.1⟩
  · unfold S_sum at *
    rw [R (310 + r) (by omega) (by omega), R (314 + r) (by omega) (by omega)]
    exact k3
  · obtain ⟨m, m1, m2, m3, m4⟩ := k4
    refine ⟨m, m1, (R _ (by omega) (by omega)).trans m2, fun j hj => ?_, fun i j hi hj => ?_⟩
    · obtain ⟨a, t, t1, t2, t3⟩ := m3 j hj
      rw [hM _ _ _ (by omega), R _ (by omega) (by omega)]
      refine ⟨a, t, t1, t2, ?_⟩
      rw [R _ (by omega) (by omega)]
      exact t3
    · rw [R _ (by omega) (by omega), R _ (by omega) (by omega)]
      exact m4 i j hi hj
  · obtain ⟨l, l1, l2, l3, l4⟩ := k5
    exact ⟨l, S_listW (by omega) l1 (hM _ _ _ (by omega)) (fun j _ => hM _ _ _ (by omega)) (R _ (by omega) (by omega)) (fun p p1 p2 => R p (by unfold a_ln at p1; omega) (by unfold a_ln at p1; omega)), l2, l3, l4⟩
  · rw [R _ (by omega) (by omega), r278] at z
    exact absurd z (by decide)
  · rw [R _ (by omega) (by omega), r294] at z
    rcases z with z | z
    · have := (nI_eq (by omega) (by omega)).mp z
      omega
    · have := (nI_eq (by omega) (by omega)).mp z
      omega
  · rw [hM _ _ _ (by omega)]
    exact a3
  · rw [R _ (by omega) (by omega)]
    exact r334
  · have q := x_bnd (Mr2.1 24 0 0) r ro ch
    show 0 + ro.length + _ ≤ 488
    omega
  · rw [R _ (by omega) (by omega)]
    exact r306
  · rw [hM _ _ _ (by omega)]
    exact f8 k hk
  · rw [R _ (by omega) (by omega)]
    exact r302
  · rw [R _ (by omega) (by omega)]
    exact r310
  · rw [R _ (by omega) (by omega)]
    exact r306
  · rw [R _ (by omega) (by omega)]
    exact r314
  · rw [R _ (by omega) (by omega), r294] at z1
    have m1 : mo = 1 := (nI_eq (b := 1) (by omega) (by decide)).mp z1
    rw [R _ (by omega) (by omega), due m1]
    congr 1
    show _ = 0 + 0 + 0 + _
    rw [Nat.zero_add]
    exact (x_sumE ro (fun x _ => x_qnE cn _ _)).symm
/-- a row of one prefix of none -/
theorem back_T {M Mr : zMem} {w r : Nat} (h : M.1 3 w (3 * r) 1 = 0) : S_back (m_pfxAdd M w (3 * r) 0) w (3 * r) ((n_begT Mr r).1 24 0 0) (a_rw r 0) (326 + r) [(0, 0, false)] := by
  have e : m_pfxAdd M w (3 * r) 0 = z_up (z_up M 22 w (3 * r) 0 0) 3 w (3 * r) 1 1 := by
    unfold m_pfxAdd
    rw [h, if_pos (by decide)]
    rfl
  rw [e]
  refine ⟨zn_upS, zn_upS, fun j hj => ?_⟩
  obtain rfl : j = 0 := by
    have : j < 1 := hj
    omega
  refine ⟨?_, ?_, ?_⟩
  · rw [zn_upO (by decide)]
    exact zn_upS
  · unfold n_begT
    rw [zn_upN (by unfold a_rw; omega), zn_upN (by omega), show a_rw r 0 + 3 * 0 = a_rw r 0 by omega, zn_upS]
    rfl
  · unfold n_begT
    rw [zn_upN (by unfold a_rw; omega), show a_rw r 0 + 3 * 0 + 1 = a_rw r 0 + 1 by omega, zn_upS]
    rfl
theorem rd_b3 {Mr : zMem} {r : Nat} (hr : r < 4) : ∀ n, n ≤ 900 → (∀ k, k < n → (z_it (f_b3 r) n Mr).1 24 0 0 (a_rw r 0 + 3 * k) = Mr.1 24 0 0 (a_ln r 0 + 3 * k) ∧ (z_it (f_b3 r) n Mr).1 24 0 0 (a_rw r 0 + 3 * k + 1) = Mr.1 24 0 0 (a_ln r 0 + 3 * k + 1)) ∧ ∀ p, ¬ (a_rw r 0 ≤ p ∧ p < a_rw r 0 + 3 * n) → (z_it (f_b3 r) n Mr).1 24 0 0 p = Mr.1 24 0 0 p
  | 0, _ => ⟨fun k hk => by omega, fun p _ => rfl⟩
  | n + 1, hn => by
    obtain ⟨i1, i2⟩ := rd_b3 (Mr := Mr) hr n (by omega)
    have eR : a_rw r n = a_rw r 0 + 3 * n := by unfold a_rw; omega
    have eL : a_ln r n = a_ln r 0 + 3 * n := by unfold a_ln; omega
    have g0 : a_rw r 0 = 814 + 2700 * r := by unfold a_rw; omega
    have g1 : a_ln r 0 = 11614 + 2700 * r := by unfold a_ln; omega
    rw [z_itS, f_b3, eR, eL, i2 _ (by omega), i2 _ (by omega)]
    refine ⟨fun k hk => ?_, fun p hp => ?_⟩
    · by_cases c : k = n
      · subst c
        exact ⟨(zn_upN (by omega)).trans zn_upS, zn_upS⟩
      · rw [zn_upN (by omega), zn_upN (by omega), zn_upN (by omega), zn_upN (by omega)]
        exact i1 k (by omega)
    · rw [zn_upN (by omega), zn_upN (by omega)]
      exact i2 p (by omega)
/-- prefixes turned round -/
theorem rd_back {M : zMem} {w i j n : Nat} (hij : ¬ j = i) (hn : n ≤ 512) (h : M.1 3 w j 1 = nI n) : ∀ k, k ≤ n → (z_it (f_pfxBack w i j n) k (m_pfxClear M w i)).1 3 w i 1 = nI k ∧ (∀ a c d, ¬ (c = i ∧ (a = 22 ∨ (a = 3 ∧ d = 1))) → (z_it (f_pfxBack w i j n) k (m_pfxClear M w i)).1 a w c d = M.1 a w c d) ∧ ∀ q, q < k → (z_it (f_pfxBack w i j n) k (m_pfxClear M w i)).1 22 w i q = M.1 22 w j (n - 1 - q) &&& -16777217
  | 0, _ => ⟨zn_upS, fun a c d e => by
    show (z_up M 3 w i 1 0).1 a w c d = _
    rw [z_up1, if_neg (by omega)], fun q hq => by omega⟩
  | k + 1, hk => by
    obtain ⟨i1, i2, i3⟩ := rd_back hij hn h k (by omega)
    rw [z_itS, f_pfxBack]
    generalize z_it (f_pfxBack w i j n) k (m_pfxClear M w i) = N at *
    have ej : N.1 3 w j 1 = nI n := (i2 3 j 1 (by omega)).trans h
    have at1 : r_pfxAt N w j (nI (n - 1 - k)) = M.1 22 w j (n - 1 - k) := (at_in ej hn (by omega)).trans (i2 _ _ _ (by omega))
    unfold m_pfxAdd
    rw [at1, i1, if_pos (show nI k < 512 from nI_lt (b := 512) (by omega) (by decide)), nI_clamp (by omega), nI_1]
    refine ⟨zn_upS, fun a c d e => ?_, fun q hq => ?_⟩
    · rw [z_up1, if_neg (by omega), z_up1, if_neg (by omega)]
      exact i2 a c d e
    · rw [zn_upO (by decide)]
      by_cases c : q = k
      · subst c
        exact zn_upS
      · rw [zn_upN c]
        exact i3 q (by omega)
theorem cd_off {x : zX} (h1 : x.1 ≤ 16) (h2 : x.2.1 < 65536) : x_cd x &&& -16777217 = x_cd (x.1, x.2.1, false) := by
  have key : ∀ n, n < 16777216 → ∀ e : Nat, e = 0 ∨ e = 16777216 → nI (n + e) &&& -16777217 = nI n := by
    intro n hn e he
    refine b_ext (fun i hi => ?_)
    have m : bt (-16777217) i = decide (¬ i = 24) := by
      have d : ∀ i, i < 32 → bt (-16777217) i = decide (¬ i = 24) := by decide
      exact d i hi
    have bn : ∀ k, bt (nI k) i = k.testBit i := fun k => by
      show (BitVec.ofNat 32 k).getLsbD i = _
      rw [BitVec.getLsbD_ofNat, decide_eq_true hi, Bool.true_and]
    rw [b_and, m, bn, bn]
    rcases he with rfl | rfl
    · rw [Nat.add_zero]
      by_cases c : i = 24
      · subst c
        rw [decide_eq_false (by omega), Bool.and_false]
        exact (Nat.testBit_lt_two_pow (Nat.lt_of_lt_of_le hn (by decide))).symm
      · rw [decide_eq_true c, Bool.and_true]
    · have e2 : n + 16777216 = 2 ^ 24 + n := by omega
      rw [e2]
      by_cases c : i = 24
      · subst c
        rw [decide_eq_false (by omega), Bool.and_false]
        exact (Nat.testBit_lt_two_pow (Nat.lt_of_lt_of_le hn (by decide))).symm
      · rw [decide_eq_true c, Bool.and_true]
        rcases Nat.lt_or_ge i 24 with l | l
        · exact Nat.testBit_two_pow_add_gt l n
        · have a1 : n.testBit i = false := Nat.testBit_lt_two_pow (Nat.lt_of_lt_of_le (show n < 2 ^ 24 from hn) (Nat.pow_le_pow_right (n := 2) (by decide) l))
          have a2 : (2 ^ 24 + n).testBit i = false := Nat.testBit_lt_two_pow (Nat.lt_of_lt_of_le (show 2 ^ 24 + n < 2 ^ 25 by omega) (Nat.pow_le_pow_right (n := 2) (by decide) (show 25 ≤ i by omega)))
          rw [a1, a2]
  have e0 : x_cd (x.1, x.2.1, false) = nI (x.2.1 + 65536 * x.1) := rfl
  rw [e0]
  unfold x_cd
  refine key (x.2.1 + 65536 * x.1) (by omega) _ ?_
  split
  · exact .inr rfl
  · exact .inl rfl
theorem back_L {M Mr : zMem} {w r : Nat} {l : List zX} (hl : S_list M w (3 * r + 2) (Mr.1 24 0 0) (a_ln r 0) (330 + r) l) (ch : x_ch 0 l 65536) (len : l.length ≤ 296) (hr : r < 4) : S_back (z_it (f_pfxBack w (3 * r) (3 * r + 2) l.length) l.length (m_pfxClear M w (3 * r))) w (3 * r) ((n_begL Mr r l.length).1 24 0 0) (a_rw r 0) (326 + r) l := by
  obtain ⟨a1, a2, a3⟩ := hl
  obtain ⟨b1, b2, b3⟩ := rd_back (w := w) (i := 3 * r) (j := 3 * r + 2) (n := l.length) (by omega) (by omega) a1 l.length (Nat.le_refl _)
  have g0 : a_rw r 0 = 814 + 2700 * r := by unfold a_rw; omega
  have g1 : a_ln r 0 = 11614 + 2700 * r := by unfold a_ln; omega
  obtain ⟨q1, q2⟩ := rd_b3 (Mr := Mr) hr l.length (by omega)
  refine ⟨b1, zn_upS, fun j hj => ?_⟩
  obtain ⟨c1, c2, c3, c4⟩ := a3 j hj
  obtain ⟨o1, o2, -⟩ := x_okm ch (Nat.le_refl _) (List.getElem_mem hj)
  refine ⟨?_, ?_, ?_⟩
  · rw [b3 _ (by omega), show l.length - 1 - (l.length - 1 - j) = j by omega, c1]
    exact cd_off o1 o2
  · unfold n_begL
    rw [zn_upN (by omega), (q1 j hj).1]
    exact c2
  · unfold n_begL
    rw [zn_upN (by omega), (q1 j hj).2]
    exact c3
