/-! over; slots dropped, counted down; QF stepped -/
theorem Sim_miss {Z O : Nat → Prop} {M Mr : zMem} {w T c b r : Nat} {v : Int32} (h : SimZ Z O M w Mr T c b) (hr : r < 4) (hZ : Z r) : SimZ Z O (z_up M 4 w r 11 v) w (z_up Mr 24 0 0 (322 + r) v) T c b := by
  obtain ⟨k1, k2, k3, k4, k5, k6⟩ := h.2.2.2.2.2.2.2.2 r hr
  have R : ∀ p, ¬ p = 322 + r → (z_up Mr 24 0 0 (322 + r) v).1 24 0 0 p = Mr.1 24 0 0 p := fun p hp => zn_upN hp
  have R0 : (z_up Mr 24 0 0 (322 + r) v).1 24 0 0 (322 + r) = v := zn_upS
  have C : ∀ a c d, ¬ (a = 4 ∧ c = r ∧ d = 11) → (z_up M 4 w r 11 v).1 a w c d = M.1 a w c d := fun a c d e => by rw [z_up1, if_neg (by omega)]
  refine Sim_rd h hr (fun a c d e => C a c d (by unfold C_own at e; omega)) (fun p e => R p (by unfold P_own P_bd at e; omega)) (R _ (by omega)) (fun t ht e => (R _ (by omega)).trans (Sim_bsy h hr t ht e).1) ⟨⟨fun k hk => ?_, fun k hk => ?_⟩, ?_, ?_, ?_, ?_, fun z => (z hZ).elim⟩ (Nat.le_refl _) (fun s _ _ z => z)
  · by_cases e : k = 11
    · subst e
      have t1 : rp_of 11 + r = 322 + r := rfl
      rw [t1, R0, zn_upS]
    · have q1 : ∀ k, k < 12 → ¬ k = 11 → 262 ≤ rp_of k ∧ rp_of k < 319 := by decide
      have q2 := q1 k hk e
      rw [C _ _ _ (by omega), R _ (by omega)]
      exact k1.1 k hk
  · have q1 : ∀ k, k < 3 → 306 ≤ tp_of k ∧ tp_of k < 318 := by decide
    have q2 := q1 k hk
    rw [C _ _ _ (by omega), R _ (by omega)]
    exact k1.2 k hk
  · unfold S_rv at *
    rw [R (262 + r) (by omega), R (278 + r) (by omega), R (266 + r) (by omega), R (270 + r) (by omega), R (282 + r) (by omega), R (294 + r) (by omega), R (298 + r) (by omega), R (326 + r) (by omega)]
    exact k2
  · unfold S_sum at *
    rw [R (310 + r) (by omega), R (314 + r) (by omega)]
    exact k3
  · obtain ⟨m, m1, m2, m3, m4⟩ := k4
    refine ⟨m, m1, (R _ (by omega)).trans m2, fun j hj => ?_, fun i j hi hj => ?_⟩
    · obtain ⟨a, t, t1, t2, t3⟩ := m3 j hj
      rw [C _ _ _ (by omega), R _ (by omega)]
      refine ⟨a, t, t1, t2, ?_⟩
      rw [R _ (by omega)]
      exact t3
    · rw [R _ (by omega), R _ (by omega)]
      exact m4 i j hi hj
  · obtain ⟨l, l1, l2, l3, l4⟩ := k5
    exact ⟨l, S_listW (by omega) l1 (C _ _ _ (by omega)) (fun j _ => C _ _ _ (by omega)) (R _ (by omega)) (fun p p1 p2 => R p (by unfold a_ln at p1; omega)), l2, l3, l4⟩
theorem Sim_over {O : Nat → Prop} {M Mr : zMem} {w T c b r : Nat} (h : SimZ (fun q => q = r) O M w Mr T c b) (hr : r < 4) (hc : c < 2147483000) : SimZ z_F O (m_finish M w r (nI r)) w (n_over Mr r c) T (c + 1) b := by
  have e0 : r_bc (r_tagsOf M w (nI r)) = r_ofIt Mr (nI r) 24 := e_tagsOf h.2.2.2.1 hr
  have s1 := Sim_cnt (k := 12) (x := r_ofIt Mr (nI r) 24) (Sim_miss (v := r_ofIt Mr (nI r) 24) h hr rfl) (by omega)
  have s2 := Sim_cnt (k := 5) (x := 1) (Sim_frees (Z2 := z_F) s1 hr (fun s _ ne z => (ne z).elim)) (by omega)
  have e1 : m_cnt (z_up M 4 w r 11 (r_ofIt Mr (nI r) 24)) w 12 (r_ofIt Mr (nI r) 24) = m_finish1 M w r (nI r) := by
    unfold m_finish1 m_cnt
    rw [e0, zn_upO (show ¬ 20 = 4 by decide)]
  rw [e1] at s2
  have e2 : m_cnt (m_fr (m_finish1 M w r (nI r)) w r) w 5 1 = m_finish3 M w r (nI r) := rfl
  rw [e2] at s2
  have e3 : n_counts (n_frees (n_counts (z_up Mr 24 0 0 (322 + r) (r_ofIt Mr (nI r) 24)) 12 (r_ofIt Mr (nI r) 24)) r) 5 1 = n_over2 Mr r := rfl
  rw [e3] at s2
  have e4 : (m_finish3 M w r (nI r)).1 8 w (2 * r) 1 = Mr.1 24 0 0 (306 + r) := by
    have q := (s2.2.2.2.2.2.2.2.2 r hr).1.2 1 (by omega)
    have t1 : tp_of 1 + r = 306 + r := rfl
    rw [t1] at q
    rw [q, zf_over2 (by omega) (by omega) (by omega) (by omega) (by omega)]
  unfold m_finish n_over
  rw [e4]
  exact Sim_log s2 hc
theorem Sim_drop {Z O : Nat → Prop} {M Mr : zMem} {w T c b r : Nat} {a : Nat → Bool} (h : SimZ Z O M w Mr T c b) (hr : r < 4) (ha : ∀ t, t < 24 → (a t = true ↔ (Mr.1 24 0 0 (550 + t) = nI r ∧ Mr.1 24 0 0 (694 + t) = 0 ∧ Mr.1 24 0 0 (574 + t) = 0))) : ∀ n, n ≤ 24 → SimZ Z O (z_it (f_drop w (z_mk a 24)) n M) w (z_it (f_mDrop r) n Mr) T c b ∧ ∀ p, p < 574 ∨ 574 + n ≤ p → (z_it (f_mDrop r) n Mr).1 24 0 0 p = Mr.1 24 0 0 p
  | 0, _ => ⟨h, fun p _ => rfl⟩
  | n + 1, hn => by
    obtain ⟨i1, i2⟩ := Sim_drop h hr ha n (by omega)
    rw [z_itS, z_itS]
    generalize z_it (f_drop w (z_mk a 24)) n M = M1 at *
    generalize z_it (f_mDrop r) n Mr = N1 at *
    unfold f_drop f_mDrop
    rw [z_mkB _ (by omega), i2 _ (by omega), i2 _ (by omega), i2 _ (by omega)]
    have key := ha n (by omega)
    by_cases e : a n = true
    · have k := key.mp e
      rw [if_pos e, if_pos rfl, if_pos k]
      refine ⟨Sim_slot i1 (by omega) ?_, fun p hp => ?_⟩
      · rw [i2 _ (by omega), k.1]
        exact fun z => nm1 hr z.symm
      · rw [zn_upN (by omega)]
        exact i2 p (by omega)
    · rw [if_neg e, if_neg (by decide), if_neg (fun z => e (key.mpr z))]
      exact ⟨i1, fun p hp => i2 p (by omega)⟩
theorem Sim_down {Z O : Nat → Prop} {M Mr : zMem} {w T c b r : Nat} {J : Int32} (h : SimZ Z O M w Mr T c b) (hr : r < 4) (hJ : ∀ t, t < 24 → Mr.1 24 0 0 (694 + t) = if bt J t = true then 1 else 0) : ∀ n, n ≤ 24 → SimZ Z O (z_it (f_down w (nI r) J) n M) w (z_it (f_mDown r) n Mr) T c b ∧ ∀ p, p < 574 ∨ 574 + n ≤ p → (z_it (f_mDown r) n Mr).1 24 0 0 p = Mr.1 24 0 0 p
  | 0, _ => ⟨h, fun p _ => rfl⟩
  | n + 1, hn => by
    obtain ⟨i1, i2⟩ := Sim_down h hr hJ n (by omega)
    obtain ⟨q4, q5, -⟩ := T_bs (i1.2.2.2.1 n (by omega))
    rw [z_itS, z_itS]
    generalize z_it (f_down w (nI r) J) n M = M1 at *
    generalize z_it (f_mDown r) n Mr = N1 at *
    unfold f_down f_mDown
    rw [z_bit J (by omega), q4, q5, i2 (694 + n) (by omega), hJ n (by omega)]
    have key : (N1.1 24 0 0 (550 + n) = nI r ∧ ¬ N1.1 24 0 0 (574 + n) ≤ 0 ∧ (if bt J n = true then (1 : Int32) else 0) = 0) ↔ (N1.1 24 0 0 (550 + n) = nI r ∧ (if bt J n = true then (1 : Int32) else 0) = 0 ∧ ¬ N1.1 24 0 0 (574 + n) ≤ 0) := ⟨fun z => ⟨z.1, z.2.2, z.2.1⟩, fun z => ⟨z.1, z.2.2, z.2.1⟩⟩
    by_cases e : N1.1 24 0 0 (550 + n) = nI r ∧ (if bt J n = true then (1 : Int32) else 0) = 0 ∧ ¬ N1.1 24 0 0 (574 + n) ≤ 0
    · rw [if_pos (key.mpr e), if_pos e]
      refine ⟨Sim_slot i1 (by omega) ?_, fun p hp => ?_⟩
      · rw [e.1]
        exact fun z => nm1 hr z.symm
      · rw [zn_upN (by omega)]
        exact i2 p (by omega)
    · rw [if_neg (fun z => e (key.mp z)), if_neg e]
      exact ⟨i1, fun p hp => i2 p (by omega)⟩
theorem Sim_qf {Z O : Nat → Prop} {M Mr : zMem} {w T c b r x : Nat} (h : SimZ Z O M w Mr T c b) (hr : r < 4) (hx : x ≤ 64) : SimZ Z O (z_up M 4 w r 2 (nI x)) w (z_up Mr 24 0 0 (266 + r) (nI x)) T c b := by
  obtain ⟨k1, k2, k3, k4, k5, k6⟩ := h.2.2.2.2.2.2.2.2 r hr
  have R : ∀ p, ¬ p = 266 + r → (z_up Mr 24 0 0 (266 + r) (nI x)).1 24 0 0 p = Mr.1 24 0 0 p := fun p hp => zn_upN hp
  have R0 : (z_up Mr 24 0 0 (266 + r) (nI x)).1 24 0 0 (266 + r) = nI x := zn_upS
  refine Sim_head h hr (fun a c d e => ?_) (fun p hp => R p (by omega)) (fun k hk => ?_) ⟨?_, fun z => ?_, ⟨x, hx, R0⟩, ?_⟩ (fun i hi o => ?_)
  · rw [z_up1, if_neg (by omega)]
  · by_cases e : k = 2
    · subst e
      have t1 : rp_of 2 + r = 266 + r := rfl
      rw [t1, R0, zn_upS]
    · have q1 : ∀ k, k < 12 → ¬ k = 2 → ¬ rp_of k = 266 := by decide
      have q2 := q1 k (by omega) e
      rw [zn_upN e, R _ (by omega)]
      exact k1.1 k (by omega)
  · rw [R _ (by omega)]
    exact k2.1
  · rw [R _ (by omega)]
    exact k2.2.2.1 z
  · rw [R _ (by omega)]
    exact k2.2.2.2.2.1
  · exact S_okW (h.2.2.2.2.1 i hi o) (R _ (by omega)) (fun s _ => R _ (by omega)) (R _ (by omega)) (R _ (by omega)) (R _ (by omega))
theorem qf_E {x y : Nat} (hx : x ≤ 64) (hy : y ≤ 8) : (if 0 < nI x - nI y then nI x - nI y else 0) = nI (x - y) ∧ (if nI x ≤ nI y then 0 else nI x - nI y) = nI (x - y) := by
  have d : ∀ x, x < 65 → ∀ y, y < 9 → (if 0 < nI x - nI y then nI x - nI y else 0) = nI (x - y) ∧ (if nI x ≤ nI y then 0 else nI x - nI y) = nI (x - y) := by decide +kernel
  exact d x (by omega) y (by omega)
theorem qf_C {x y : Nat} (hx : x ≤ 64) (hy : y ≤ 8) : (if nI x + nI y < 64 then nI x + nI y else 64) = nI (min 64 (x + y)) ∧ (if nI 64 ≤ nI x + nI y then nI 64 else nI x + nI y) = nI (min 64 (x + y)) := by
  have d : ∀ x, x < 65 → ∀ y, y < 9 → (if nI x + nI y < 64 then nI x + nI y else 64) = nI (min 64 (x + y)) ∧ (if nI 64 ≤ nI x + nI y then nI 64 else nI x + nI y) = nI (min 64 (x + y)) := by decide +kernel
  exact d x (by omega) y (by omega)
