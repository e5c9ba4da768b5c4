/-! one ask of a tree reader: numbers of tags, rows -/
theorem sz_half {D P : Nat} {e : Bool} (h : D < 16) : x_sz (D + 1, P, e) * 2 = 2 ^ (16 - D) := by
  show 2 ^ (16 - (D + 1)) * 2 = _
  rw [show 16 - D = 16 - (D + 1) + 1 by omega, Nat.pow_succ]
theorem cn_two {R : Nat → Int32} {r : Nat} {x : zX} (e e' : Bool) (h1 : x.1 < 16) (h2 : x.2.1 * x_sz x + x_sz x ≤ 65536) : x_cn R r (x.1 + 1, 2 * x.2.1, e) + x_cn R r (x.1 + 1, 2 * x.2.1 + 1, e') = x_cn R r x := by
  obtain ⟨D, P, f⟩ := x
  have s := sz_half (D := D) (P := 0) (e := true) h1
  have eS : x_sz (D, P, f) = 2 ^ (16 - D) := rfl
  rw [eS] at h2
  generalize hz : x_sz (D + 1, 0, true) = z at s
  have e1 : ∀ P e, x_sz (D + 1, P, e) = z := fun P e => hz
  have m1 : 2 * P * z = P * 2 ^ (16 - D) := by
    rw [← s, Nat.mul_comm 2 P, Nat.mul_assoc, Nat.mul_comm 2 z]
  have m2 : (2 * P + 1) * z = P * 2 ^ (16 - D) + z := by
    rw [Nat.add_mul, m1, Nat.one_mul]
  have c1 := x_rgC R r (D + 1, 2 * P, e) (by rw [e1]; show 2 * P * z + z ≤ 65536; simp only at h2; omega)
  have c2 := x_rgC R r (D + 1, 2 * P + 1, e') (by rw [e1]; show (2 * P + 1) * z + z ≤ 65536; simp only at h2; omega)
  have c3 := x_rgC R r (D, P, f) (by rw [eS]; exact h2)
  rw [e1] at c1 c2
  rw [eS] at c3
  simp only at c1 c2 c3 ⊢
  rw [c1, c2, c3, m1, m2, show P * 2 ^ (16 - D) + z + z = P * 2 ^ (16 - D) + 2 ^ (16 - D) by omega]
  exact x_rgA R r _ _ _ (by omega) (by omega)
theorem x_pot {a u v n : Nat} (h : u + v = n) (hn : 2 ≤ n) : a * (u / 2) + a * (v / 2) + 1 ≤ (a + 1) * (n / 2) := by
  have h1 : u / 2 + v / 2 ≤ n / 2 := by omega
  have h2 : a * (u / 2) + a * (v / 2) ≤ a * (n / 2) := by
    rw [← Nat.mul_add]
    exact Nat.mul_le_mul_left a h1
  rw [Nat.succ_mul]
  omega
theorem qn_1 {R : Nat → Int32} {r d : Nat} {x : zX} (h : x_cn R r x < 2) : x_qn R r d x = 1 := by
  cases d with
  | zero => rfl
  | succ d => rw [x_qn, if_pos h]
theorem qn_loc {R R2 : Nat → Int32} {r : Nat} (hid : ∀ t, t < 24 → x_id R2 t = x_id R t) : ∀ (d : Nat) (x : zX), x.1 + d = 16 → (∀ t, t < 24 → x_id R t / x_sz x = x.2.1 → (R2 (550 + t) = nI r ↔ R (550 + t) = nI r)) → x_qn R2 r d x = x_qn R r d x
  | 0, _, _, _ => rfl
  | d + 1, x, hx, h => by
    have ec : x_cn R2 r x = x_cn R r x := fb_ct_cong (fun t ht => by
      unfold x_in
      rw [hid t ht]
      by_cases c : x_id R t / x_sz x = x.2.1
      · have q := h t ht c
        by_cases c2 : R (550 + t) = nI r
        · rw [decide_eq_true c2, decide_eq_true (q.mpr c2)]
        · rw [decide_eq_false c2, decide_eq_false (fun z => c2 (q.mp z))]
      · rw [decide_eq_false c, Bool.and_false, Bool.and_false])
    have up : ∀ (e : Nat), e < 2 → ∀ t, x_id R t / x_sz (x.1 + 1, 2 * x.2.1 + e, false) = 2 * x.2.1 + e → x_id R t / x_sz x = x.2.1 := fun e he t z => by
      have s : x_sz (x.1 + 1, 2 * x.2.1 + e, false) * 2 = x_sz x := sz_half (by omega)
      rw [← s, ← Nat.div_div_eq_div_mul, z]
      omega
    have q0 := qn_loc hid d (x.1 + 1, 2 * x.2.1, false) (by show x.1 + 1 + d = 16; omega) (fun t ht z => h t ht (up 0 (by omega) t z))
    have q1 := qn_loc hid d (x.1 + 1, 2 * x.2.1 + 1, false) (by show x.1 + 1 + d = 16; omega) (fun t ht z => h t ht (up 1 (by omega) t z))
    rw [x_qn, x_qn, ec, q0, q1]
theorem qD2_at {G : zMem} {r d m q : Nat} {b p e : Int32} (hr : r < 4) (hm : 1 ≤ m) (hm2 : m < 890) (hd : d < 890) : (n_qD2 G r d m b p e).1 24 0 0 q = if q = 326 + r then nI (m - 1) else if a_rw r 0 ≤ q ∧ q < a_rw r 0 + 3 * (m - 1) then G.1 24 0 0 (q + 3) else if q = 334 + r then nI (d + 1) else if q = a_dn r d + 2 then e else if q = a_dn r d + 1 then p else if q = a_dn r d then b else G.1 24 0 0 q := by
  have eA : a_rw r 0 = 814 + 2700 * r := by unfold a_rw; omega
  have eD : a_dn r d = 22414 + 2700 * r + 3 * d := by unfold a_dn; omega
  unfold n_qD2 n_qD1
  by_cases c1 : q = 326 + r
  · rw [if_pos c1, c1, zn_upS]
  rw [if_neg c1, zn_upN c1, z_sh1]
  by_cases c2 : a_rw r 0 ≤ q ∧ q < a_rw r 0 + 3 * (m - 1)
  · rw [if_pos c2, if_pos c2, zn_upN (by omega), zn_upN (by omega), zn_upN (by omega), zn_upN (by omega)]
  rw [if_neg c2, if_neg c2]
  by_cases c3 : q = 334 + r
  · rw [if_pos c3, c3, zn_upS]
  rw [if_neg c3, zn_upN c3]
  by_cases c4 : q = a_dn r d + 2
  · rw [if_pos c4, c4, zn_upS]
  rw [if_neg c4, zn_upN c4]
  by_cases c5 : q = a_dn r d + 1
  · rw [if_pos c5, c5, zn_upS]
  rw [if_neg c5, zn_upN c5]
  by_cases c6 : q = a_dn r d
  · rw [if_pos c6, c6, zn_upS]
  rw [if_neg c6, zn_upN c6]
theorem qC2_at {G : zMem} {r m q : Nat} {b p : Int32} (hr : r < 4) (hm : 1 ≤ m) (hm2 : m < 890) : (n_qC2 G r m b p).1 24 0 0 q = if q = 326 + r then nI (m + 1) else if q = a_rw r 0 + 4 then nI 2 * p + nI 1 else if q = a_rw r 0 + 3 then b + 1 else if q = a_rw r 0 + 1 then nI 2 * p + nI 0 else if q = a_rw r 0 then b + 1 else if a_rw r 0 + 6 ≤ q ∧ q < a_rw r 0 + 3 * m + 3 then G.1 24 0 0 (q - 3) else G.1 24 0 0 q := by
  have eA : a_rw r 0 = 814 + 2700 * r := by unfold a_rw; omega
  have eA1 : a_rw r 1 = a_rw r 0 + 3 := by unfold a_rw; omega
  have eAm : a_rw r m = a_rw r 0 + 3 * m := by unfold a_rw; omega
  unfold n_qC2
  by_cases c1 : q = 326 + r
  · rw [if_pos c1, c1, zn_upS]
  rw [if_neg c1, zn_upN c1, z_itS, z_itS, z_it, f_q2, f_q2, eA1, eAm]
  by_cases c2 : q = a_rw r 0 + 4
  · rw [if_pos c2, c2, zn_upS]
  rw [if_neg c2, zn_upN (by omega)]
  by_cases c3 : q = a_rw r 0 + 3
  · rw [if_pos c3, c3, zn_upS]
  rw [if_neg c3, zn_upN (by omega)]
  by_cases c4 : q = a_rw r 0 + 1
  · rw [if_pos c4, c4, zn_upS]
  rw [if_neg c4, zn_upN (by omega)]
  by_cases c5 : q = a_rw r 0
  · rw [if_pos c5, c5, zn_upS]
  rw [if_neg c5, zn_upN (by omega), z_su1]
def m_aT2 (Mh : zMem) (w r : Nat) (p a : Int32) : zMem := m_aq (m_aq1 Mh w r p a) w r ((m_aq1 Mh w r p a).1 3 w (3 * r + 1) 1).toNatClampNeg (nI r)
theorem ask_T1 {Mh N : zMem} {w T c b r k : Nat} {x x2 : zX} {al ro : List zX} (st : SimZ (fun q => q = r) z_F Mh w N T c b) (hr : r < 4) (hc : c < 2147483000) (ht : N.1 24 0 0 (278 + r) = 1) (hm : N.1 24 0 0 (294 + r) = nI 1 ∨ N.1 24 0 0 (294 + r) = nI 3)
    (s0 : Mh.1 3 w (3 * r) 1 = nI ro.length) (rowC : ∀ j (h : j < ro.length), Mh.1 22 w (3 * r) (ro.length - 1 - j) = x_cd (ro[j].1, ro[j].2.1, false)) (n326 : N.1 24 0 0 (326 + r) = nI ro.length) (rowR : ∀ j (h : j < ro.length), N.1 24 0 0 (a_rw r 0 + 3 * j) = nI ro[j].1 ∧ N.1 24 0 0 (a_rw r 0 + 3 * j + 1) = nI ro[j].2.1)
    (lc : L_C Mh w (3 * r + 1) al) (n334 : N.1 24 0 0 (334 + r) = nI (al.length + 1)) (lr : L_R (N.1 24 0 0) (a_dn r 0) (al ++ [x2])) (ch : x_ch 0 ((al ++ [x2]) ++ ro) 65536) (len : al.length + 1 + ro.length + x_sum (fun x => (16 - x.1) * (x_cn (N.1 24 0 0) r x / 2)) ro ≤ 488) (r306 : N.1 24 0 0 (306 + r) = nI (x_ne (al ++ [x2])).length) (f8 : ∀ k, k < 3 → Mh.1 8 w (2 * r + 1) k = 0) (r302 : N.1 24 0 0 (302 + r) = 0)
    (due : N.1 24 0 0 (294 + r) = 1 → N.1 24 0 0 (350 + r) = 1 → ∃ e m c, N.1 24 0 0 (310 + r) = nI e ∧ N.1 24 0 0 (306 + r) = nI m ∧ N.1 24 0 0 (314 + r) = nI c ∧ N.1 24 0 0 (354 + r) = nI (e + m + c + x_sum (fun x => x_qn (N.1 24 0 0) r (16 - x.1) x) ro))
    (hx : x.1 ≤ 16 ∧ x.2.1 < 65536) (ex : x2 = (x.1, x.2.1, decide (k = 0))) (hk : k ≤ 1) :
    ∃ Ma N' c', c' ≤ c + 1 ∧ (∀ (h : Nat) (K : zK), K none Ma → z_call (h + 60) 53 [.inr (.inr (9, w, 0)), .inl (nI r), .inr (.inr (4, w, r)), .inl (x_cd (x.1, x.2.1, false)), .inl (nI k)] Mh K) ∧ (∀ (h : Nat) (K : zK) (v2 v3 v4 v5 v6 : zV), K none N' → z_run (z_nop k_X10_query) (z_call (h + 60)) K 193 [.inr (.inr (11, 0, 0)), .inl (nI r), v2, v3, v4, v5, v6] [] N) ∧ z_fcw w Mh Ma ∧ z_fr N N' ∧ SimZ z_F z_F Ma w N' T c' b ∧ kp r N N' ∧ Ma = m_aT2 Mh w r (x_cd (x.1, x.2.1, false)) (nI k) := by
  have hk1 : nI k ≤ 1 := nI_le (b := 1) hk (by decide)
  have e1 : m_aq1 Mh w r (x_cd (x.1, x.2.1, false)) (nI k) = m_pfxAdd Mh w (3 * r + 1) (x_cd x2) := by
    unfold m_aq1
    rw [if_pos (.inl hk1), ex]
    rcases (show k = 0 ∨ k = 1 by omega) with rfl | rfl
    · rw [if_pos (show nI 0 = 0 from rfl), kd_set hx.1 hx.2]
      rfl
    · rw [if_neg (show ¬ nI 1 = 0 by decide)]
      rfl
  have hlen : (al ++ [x2]).length = al.length + 1 := by
    rw [List.length_append]
    rfl
  have lc2 := lc_add (x := x2) lc (by omega)
  have off := z_off_add (w := w) (i := 3 * r + 1) (M := Mh) (x := x_cd x2)
  generalize eM4 : m_pfxAdd Mh w (3 * r + 1) (x_cd x2) = M4 at *
  have o : ∀ a cc d, ¬ ((a = 3 ∨ a = 22) ∧ cc = 3 * r + 1) → M4.1 a w cc d = Mh.1 a w cc d := fun a cc d e => off.1 a w cc d (fun z => e ⟨z.1, z.2.2⟩)
  have st4 : SimZ (fun q => q = r) z_F M4 w N T c b := Sim_stk st hr (fun a cc d e => o a cc d (fun z => e (.inr ⟨z.1, .inr z.2⟩))) (fun _ _ => rfl) ⟨ro.length, by omega, n326⟩
  obtain ⟨N', c', f1, f2, f3, f4, f5, f6, f7⟩ := tree_fin (al := al ++ [x2]) (ro := ro) st4 hr hc ht hm ⟨(o _ _ _ (by omega)).trans s0, n326, fun j hj => ⟨(o _ _ _ (by omega)).trans (rowC j hj), rowR j hj⟩⟩ ⟨lc2.1, by rw [hlen]; exact n334, fun j hj => ⟨lc2.2 j hj, lr_at _ _ lr j hj⟩⟩ ch (by rw [hlen]; exact len) r306 (fun k hk => (o _ _ _ (by omega)).trans (f8 k hk)) r302 due
  refine ⟨_, N', c', f1, fun h' K hK => ?_, f3, fw_tr (fw_off off) f4, f5, f6, f7, by
    unfold m_aT2
    rw [e1, lc2.1, nI_clamp (by omega)]⟩
  refine s_aq (h := h' + 55) (n := (al ++ [x2]).length) ?_ ?_ ?_ ?_ (by rw [hlen]; omega) ?_ ?_
  · rw [s0]
    exact nI_pos (by omega)
  · rw [lc.1]
    exact nI_pos (by omega)
  · have q : ∀ y, ¬ (m_pfxAdd Mh w (3 * r) y).1 3 w (3 * r) 1 < 0 := fun y => by
      rw [sz_add s0 (by omega)]
      exact nI_pos (by omega)
    exact q _
  · rw [e1]
    exact lc2.1
  · rw [e1]
    exact f2
  · rw [e1]
    exact hK
