/-! a tag read -/
theorem reads_lt {M : zMem} {w r t m : Nat} {R : Nat → Int32} (h : S_reads M w R r) (hm : R (306 + r) = nI m) (ht : t < 24) (hb : R (550 + t) = nI r) (hm2 : m ≤ 24) : m < 24 ∧ ∀ i, i < m → ¬ R (358 + 24 * r + i) = nI t := by
  obtain ⟨m2, m3, m4, m5, m6⟩ := h
  have : m2 = m := (nI_eq (by omega) (by omega)).mp (m4.symm.trans hm)
  subst this
  have no : ∀ i, i < m2 → ¬ R (358 + 24 * r + i) = nI t := fun i hi e => by
    obtain ⟨_, u, u1, u2, u3⟩ := m5 i hi
    have : u = t := (nI_eq (by omega) (by omega)).mp (u2.symm.trans e)
    subst this
    exact u3 hb
  refine ⟨Classical.byContradiction (fun z => ?_), no⟩
  have e24 : m2 = 24 := by omega
  subst e24
  let f : Nat → Nat := fun i => (R (358 + 24 * r + i)).toNatClampNeg
  have fe : ∀ i, i < 24 → f i < 24 ∧ R (358 + 24 * r + i) = nI (f i) := fun i hi => by
    obtain ⟨_, u, u1, u2, u3⟩ := m5 i hi
    have : f i = u := by
      show (R (358 + 24 * r + i)).toNatClampNeg = u
      rw [u2, nI_clamp (by omega)]
    rw [this]
    exact ⟨u1, u2⟩
  obtain ⟨i, hi, e⟩ := fb_onto (n := 24) (f := f) (fun i hi => (fe i hi).1) (fun i j hij hj e => m6 i j hij hj (by rw [(fe i (by omega)).2, (fe j hj).2, e])) ht
  exact no i hi (by rw [(fe i hi).2, e])
def m_rdd (M : zMem) (w r t : Nat) : zMem := m_tallyAdd (m_note (m_release (z_up (z_up M 7 w t 6 (M.1 7 w t 6 + 1)) 7 w t 7 (nI r)) w t) w r (nI t)) w (2 * r) 1
def n_rdd (Mr : zMem) (r t m : Nat) : zMem := z_up (z_up (z_up (z_up (n_isFree Mr t) 24 0 0 (598 + t) ((n_isFree Mr t).1 24 0 0 (598 + t) + 1)) 24 0 0 (622 + t) (nI r)) 24 0 0 (358 + 24 * r + m) (nI t)) 24 0 0 (306 + r) (nI (m + 1))
theorem rdd_M {M : zMem} {w r t m a c d : Nat} (hm : M.1 8 w (2 * r) 1 = nI m) (hm2 : m < 24) : (m_rdd M w r t).1 a w c d = if a = 8 ∧ c = 2 * r ∧ d = 1 then nI (m + 1) else if a = 23 ∧ c = r ∧ d = m then nI t else if a = 7 ∧ c = t ∧ (d = 4 ∨ d = 5) then -1 else if a = 7 ∧ c = t ∧ d = 7 then nI r else if a = 7 ∧ c = t ∧ d = 6 then M.1 7 w t 6 + 1 else M.1 a w c d := by
  unfold m_rdd m_tallyAdd
  rw [if_neg (by decide), if_pos rfl]
  have e8 : ∀ N : zMem, (m_release (z_up (z_up N 7 w t 6 (N.1 7 w t 6 + 1)) 7 w t 7 (nI r)) w t).1 8 w (2 * r) 1 = N.1 8 w (2 * r) 1 := fun N => by
    unfold m_release
    rw [zn_upO (by decide), zn_upO (by decide), zn_upO (by decide), zn_upO (by decide)]
  have en : m_note (m_release (z_up (z_up M 7 w t 6 (M.1 7 w t 6 + 1)) 7 w t 7 (nI r)) w t) w r (nI t) = z_up (m_release (z_up (z_up M 7 w t 6 (M.1 7 w t 6 + 1)) 7 w t 7 (nI r)) w t) 23 w r m (nI t) := by
    unfold m_note
    rw [e8, hm, if_neg (fun z => z.elim (nI_pos (by omega)) (nI_ge (b := 24) (by omega) (by omega))), nI_clamp (by omega)]
  rw [en]
  by_cases p1 : a = 8 ∧ c = 2 * r ∧ d = 1
  · rw [if_pos p1]
    obtain ⟨rfl, rfl, rfl⟩ := p1
    rw [zn_upS, zn_upO (by decide), e8, hm]
    exact nI_1 m
  rw [if_neg p1, z_up1, if_neg (by omega)]
  by_cases p2 : a = 23 ∧ c = r ∧ d = m
  · rw [if_pos p2]
    obtain ⟨rfl, rfl, rfl⟩ := p2
    exact zn_upS
  rw [if_neg p2, z_up1, if_neg (by omega)]
  unfold m_release
  by_cases p3 : a = 7 ∧ c = t ∧ (d = 4 ∨ d = 5)
  · rw [if_pos p3]
    obtain ⟨rfl, rfl, p3⟩ := p3
    rcases p3 with rfl | rfl
    · rw [zn_upN (by decide), zn_upS]
    · rw [zn_upS]
  rw [if_neg p3, z_up1, if_neg (by omega), z_up1, if_neg (by omega)]
  by_cases p4 : a = 7 ∧ c = t ∧ d = 7
  · rw [if_pos p4]
    obtain ⟨rfl, rfl, rfl⟩ := p4
    exact zn_upS
  rw [if_neg p4, z_up1, if_neg (by omega)]
  by_cases p5 : a = 7 ∧ c = t ∧ d = 6
  · rw [if_pos p5]
    obtain ⟨rfl, rfl, rfl⟩ := p5
    exact zn_upS
  rw [if_neg p5, z_up1, if_neg (by omega)]
theorem rdd_R {Mr : zMem} {r t m p : Nat} (hr : r < 4) (ht : t < 24) (hm : m < 24) : (n_rdd Mr r t m).1 24 0 0 p = if p = 306 + r then nI (m + 1) else if p = 358 + 24 * r + m then nI t else if p = 622 + t then nI r else if p = 598 + t then Mr.1 24 0 0 (598 + t) + 1 else if p = 550 + t ∨ p = 574 + t then -1 else Mr.1 24 0 0 p := by
  have ef : ∀ p, ¬ p = 550 + t → ¬ p = 574 + t → (n_isFree Mr t).1 24 0 0 p = Mr.1 24 0 0 p := fun p h1 h2 => by
    unfold n_isFree
    rw [zn_upN h2, zn_upN h1]
  unfold n_rdd
  by_cases p1 : p = 306 + r
  · rw [if_pos p1, p1, zn_upS]
  rw [if_neg p1, zn_upN p1]
  by_cases p2 : p = 358 + 24 * r + m
  · rw [if_pos p2, p2, zn_upS]
  rw [if_neg p2, zn_upN p2]
  by_cases p3 : p = 622 + t
  · rw [if_pos p3, p3, zn_upS]
  rw [if_neg p3, zn_upN p3]
  by_cases p4 : p = 598 + t
  · rw [if_pos p4, p4, zn_upS, ef _ (by omega) (by omega)]
  rw [if_neg p4, zn_upN p4]
  by_cases p5 : p = 550 + t ∨ p = 574 + t
  · rw [if_pos p5]
    unfold n_isFree
    rcases p5 with p5 | p5
    · rw [p5, zn_upN (by omega), zn_upS]
    · rw [p5, zn_upS]
  · rw [if_neg p5, ef p (by omega) (by omega)]
theorem Sim_rdd {O : Nat → Prop} {M Mr : zMem} {w T c b r t m : Nat} (h : SimZ (fun q => q = r) O M w Mr T c b) (hr : r < 4) (ht : t < 24) (hb : Mr.1 24 0 0 (550 + t) = nI r) (hm : Mr.1 24 0 0 (306 + r) = nI m) (hm2 : m ≤ 24) : SimZ (fun q => q = r) O (m_rdd M w r t) w (n_rdd Mr r t m) T c b := by
  have hin := (Sim_bsy h hr t ht hb).2.1
  obtain ⟨h1, h2, h3, h4, h5, h6, h7, h8, h9⟩ := h
  obtain ⟨k1, k2, k3, k4, k5, k6⟩ := h9 r hr
  obtain ⟨mlt, mno⟩ := reads_lt k4 hm ht hb hm2
  have m8 : M.1 8 w (2 * r) 1 = nI m := (k1.2 1 (by omega)).trans hm
  have C : ∀ a c d, (m_rdd M w r t).1 a w c d = if a = 8 ∧ c = 2 * r ∧ d = 1 then nI (m + 1) else if a = 23 ∧ c = r ∧ d = m then nI t else if a = 7 ∧ c = t ∧ (d = 4 ∨ d = 5) then -1 else if a = 7 ∧ c = t ∧ d = 7 then nI r else if a = 7 ∧ c = t ∧ d = 6 then M.1 7 w t 6 + 1 else M.1 a w c d := fun a c d => rdd_M m8 mlt
  have C0 : ∀ a c d, ¬ (a = 8 ∧ c = 2 * r ∧ d = 1) → ¬ (a = 23 ∧ c = r ∧ d = m) → ¬ (a = 7 ∧ c = t ∧ (d = 4 ∨ d = 5 ∨ d = 6 ∨ d = 7)) → (m_rdd M w r t).1 a w c d = M.1 a w c d := fun a c d e1 e2 e3 => by
    rw [C, if_neg e1, if_neg e2, if_neg (by omega), if_neg (by omega), if_neg (by omega)]
  have R : ∀ p, (n_rdd Mr r t m).1 24 0 0 p = if p = 306 + r then nI (m + 1) else if p = 358 + 24 * r + m then nI t else if p = 622 + t then nI r else if p = 598 + t then Mr.1 24 0 0 (598 + t) + 1 else if p = 550 + t ∨ p = 574 + t then -1 else Mr.1 24 0 0 p := fun p => rdd_R hr ht mlt
  have R0 : ∀ p, ¬ p = 306 + r → ¬ p = 358 + 24 * r + m → ¬ (p = 550 + t ∨ p = 574 + t ∨ p = 598 + t ∨ p = 622 + t) → (n_rdd Mr r t m).1 24 0 0 p = Mr.1 24 0 0 p := fun p e1 e2 e3 => by
    rw [R, if_neg e1, if_neg e2, if_neg (by omega), if_neg (by omega), if_neg (by omega)]
  have Rt : ∀ u, u < 24 → (n_rdd Mr r t m).1 24 0 0 (550 + u) = if u = t then -1 else Mr.1 24 0 0 (550 + u) := fun u hu => by
    by_cases e : u = t
    · subst e
      rw [R, if_neg (by omega), if_neg (by omega), if_neg (by omega), if_neg (by omega), if_pos (.inl rfl), if_pos rfl]
    · rw [R0 _ (by omega) (by omega) (by omega), if_neg e]
  have R306 : (n_rdd Mr r t m).1 24 0 0 (306 + r) = nI (m + 1) := by rw [R, if_pos rfl]
  have Rl : (n_rdd Mr r t m).1 24 0 0 (358 + 24 * r + m) = nI t := by rw [R, if_neg (by omega), if_pos rfl]
  refine ⟨S_wC h1 (fun k _ => C0 _ _ _ (by omega) (by omega) (by omega)) (fun p hp => R0 p (by omega) (by omega) (by omega)), S_jourW h2 (C0 _ _ _ (by omega) (by omega) (by omega)) (fun p _ => C0 _ _ _ (by omega) (by omega) (by omega)) (fun p hp => R0 p (by omega) (by omega) (by omega)), S_cntW h3 (fun k _ => C0 _ _ _ (by omega) (by omega) (by omega)) (fun k _ => R0 _ (by omega) (by omega) (by omega)), fun i hi => ?_, fun i hi o => S_okW (h5 i hi o) (R0 _ (by omega) (by omega) (by omega)) (fun s _ => R0 _ (by omega) (by omega) (by omega)) (R0 _ (by omega) (by omega) (by omega)) (R0 _ (by omega) (by omega) (by omega)) (R0 _ (by omega) (by omega) (by omega)), fun i hi => ?_, S_idsW h7 (fun i _ => ⟨R0 _ (by omega) (by omega) (by omega), R0 _ (by omega) (by omega) (by omega)⟩), ⟨(R0 19 (by omega) (by omega) (by omega)).trans h8.1, (R0 20 (by omega) (by omega) (by omega)).trans h8.2⟩, fun s hs => ?_⟩
  · by_cases e : i = t
    · subst e
      have u6 := S_upd (k := 6) (x := M.1 7 w i 6 + 1) hi (h4 i hi) hin (.inr (.inr (.inl rfl))) (fun z => by omega)
      have in6 : (z_up Mr 24 0 0 (454 + 24 * 6 + i) (M.1 7 w i 6 + 1)).1 24 0 0 (454 + i) = 1 := (zn_upN (by omega)).trans hin
      have u7 := S_upd (k := 7) (x := nI r) hi u6 in6 (.inr (.inr (.inr rfl))) (fun z => by omega)
      have q6 : M.1 7 w i 6 = Mr.1 24 0 0 (598 + i) := (T_in (h4 i hi) hin).2.2.1
      refine S_T45 u7 (fun k hk k4 k5 => ?_) (fun p hp p4 p5 => ?_) ?_ ?_ (fun _ => ?_) hi
      · rw [C, if_neg (by omega), if_neg (by omega), if_neg (by omega)]
        by_cases k7 : k = 7
        · subst k7
          rw [if_pos ⟨rfl, rfl, rfl⟩, zn_upS]
        · rw [if_neg (by omega), zn_upN k7]
          by_cases k6 : k = 6
          · subst k6
            rw [if_pos ⟨rfl, rfl, rfl⟩, zn_upS]
          · rw [if_neg (by omega), zn_upN k6]
      · unfold p_T at hp
        rw [R, if_neg (by omega), if_neg (by omega)]
        by_cases p7 : p = 622 + i
        · rw [if_pos p7, p7, show 454 + 24 * 7 + i = 622 + i by omega, zn_upS]
        · rw [if_neg p7, zn_upN (by omega)]
          by_cases p6 : p = 598 + i
          · rw [if_pos p6, p6, show 454 + 24 * 6 + i = 598 + i by omega, zn_upS, q6]
          · rw [if_neg p6, zn_upN (by omega), if_neg (by omega)]
      · rw [Rt i hi, if_pos rfl, C, if_neg (by omega), if_neg (by omega), if_pos ⟨rfl, rfl, .inl rfl⟩]
      · rw [C, if_neg (by omega), if_neg (by omega), if_pos ⟨rfl, rfl, .inr rfl⟩, R, if_neg (by omega), if_neg (by omega), if_neg (by omega), if_neg (by omega), if_pos (.inr rfl)]
      · rw [Rt i hi, if_pos rfl, R, if_neg (by omega), if_neg (by omega), if_neg (by omega), if_neg (by omega), if_pos (.inr rfl)]
        exact ⟨rfl, rfl⟩
    · exact S_TW hi (h4 i hi) (fun k _ => C0 _ _ _ (by omega) (by omega) (by omega)) (fun p hp => R0 p (by unfold p_T at hp; omega) (by unfold p_T at hp; omega) (by unfold p_T at hp; omega))
  · by_cases e : i = t
    · subst e
      refine .inl ?_
      rw [Rt i hi, if_pos rfl]
    · refine S_busyW (h6 i hi) ?_ (fun s _ => R0 _ (by omega) (by omega) (by omega)) (R0 _ (by omega) (by omega) (by omega))
      rw [Rt i hi, if_neg e]
  · by_cases e : s = r
    · subst e
      refine ⟨⟨fun k hk => ?_, fun k hk => ?_⟩, ?_, ?_, ⟨m + 1, by omega, R306, fun j hj => ?_, fun i j hi hj => ?_⟩, ?_, fun z => (z rfl).elim⟩
      · have q1 : ∀ k, k < 12 → 262 ≤ rp_of k ∧ rp_of k < 323 ∧ (rp_of k - 262) % 4 = 0 ∧ ¬ rp_of k = 306 := by decide
        have q2 := q1 k hk
        rw [C0 _ _ _ (by omega) (by omega) (by omega), R0 _ (by omega) (by omega) (by omega)]
        exact k1.1 k hk
      · by_cases kk : k = 1
        · subst kk
          have t1 : tp_of 1 + s = 306 + s := rfl
          rw [t1, R306, C, if_pos ⟨rfl, rfl, rfl⟩]
        · have q1 : ∀ k, k < 3 → ¬ k = 1 → 310 ≤ tp_of k ∧ tp_of k < 318 := by decide
          have q2 := q1 k hk kk
          rw [C0 _ _ _ (by omega) (by omega) (by omega), R0 _ (by omega) (by omega) (by omega)]
          exact k1.2 k hk
      · unfold S_rv at *
        rw [R0 (262 + s) (by omega) (by omega) (by omega), R0 (278 + s) (by omega) (by omega) (by omega), R0 (266 + s) (by omega) (by omega) (by omega), R0 (270 + s) (by omega) (by omega) (by omega), R0 (282 + s) (by omega) (by omega) (by omega), R0 (294 + s) (by omega) (by omega) (by omega), R0 (298 + s) (by omega) (by omega) (by omega), R0 (326 + s) (by omega) (by omega) (by omega)]
        exact k2
      · unfold S_sum at *
        rw [R0 (310 + s) (by omega) (by omega) (by omega), R0 (314 + s) (by omega) (by omega) (by omega)]
        exact k3
      · by_cases q : j = m
        · subst q
          rw [Rl, C, if_neg (by omega), if_pos ⟨rfl, rfl, rfl⟩]
          refine ⟨rfl, t, ht, rfl, ?_⟩
          rw [Rt t ht, if_pos rfl]
          exact nm1 hs
        · obtain ⟨m2, m3, m4, m5, m6⟩ := k4
          have : m2 = m := (nI_eq (by omega) (by omega)).mp (m4.symm.trans hm)
          subst this
          obtain ⟨a, u, u1, u2, u3⟩ := m5 j (by omega)
          rw [C0 _ _ _ (by omega) (by omega) (by omega), R0 _ (by omega) (by omega) (by omega)]
          refine ⟨a, u, u1, u2, ?_⟩
          rw [Rt u u1]
          split
          · exact nm1 hs
          · exact u3
      · obtain ⟨m2, m3, m4, m5, m6⟩ := k4
        have : m2 = m := (nI_eq (by omega) (by omega)).mp (m4.symm.trans hm)
        subst this
        rw [R0 (358 + 24 * s + i) (by omega) (by omega) (by omega)]
        by_cases q : j = m2
        · subst q
          rw [Rl]
          exact mno i (by omega)
        · rw [R0 (358 + 24 * s + j) (by omega) (by omega) (by omega)]
          exact m6 i j hi (by omega)
      · obtain ⟨l, l1, l2, l3, l4⟩ := k5
        exact ⟨l, S_listW (by omega) l1 (C0 _ _ _ (by omega) (by omega) (by omega)) (fun j _ => C0 _ _ _ (by omega) (by omega) (by omega)) (R0 _ (by omega) (by omega) (by omega)) (fun p p1 p2 => R0 p (by unfold a_ln at p1; omega) (by unfold a_ln at p1; omega) (by unfold a_ln at p1; omega)), l2, l3, l4⟩
    · refine S_RW hs id (h9 s hs) ⟨fun k hk => C0 _ _ _ (by omega) (by omega) (by omega), fun o k ho hk => C0 _ _ _ (by omega) (by omega) (by omega), fun o ho => C0 _ _ _ (by omega) (by omega) (by omega), fun o j ho hj => C0 _ _ _ (by omega) (by omega) (by omega), fun j hj => C0 _ _ _ (by omega) (by omega) (by omega)⟩ ⟨fun p hp => R0 p (by unfold P_own P_bd at hp; omega) (by unfold P_own P_bd at hp; omega) (by unfold P_own P_bd at hp; omega), fun u hu y => ?_, .inr ⟨R0 _ (by omega) (by omega) (by omega), fun u hu y => ?_⟩⟩ (Nat.le_refl _)
      · rw [Rt u hu] at y
        by_cases q : u = t
        · rw [if_pos q] at y
          exact (nm1 hs y).elim
        · rw [if_neg q] at y
          exact ⟨y, by unfold x_id; rw [R0 (478 + u) (by omega) (by omega) (by omega)]⟩
      · have q : ¬ u = t := fun z => by
          subst z
          exact e ((nI_eq (by omega) (by omega)).mp (y.symm.trans hb))
        rw [Rt u hu, if_neg q]
        exact y
