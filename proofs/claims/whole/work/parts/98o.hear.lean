/-! what is heard: the log, the tallies -/
theorem logs_C {A B : zMem} {c : Nat} {r k n : Int32} (h : ∀ p, p = 0 ∨ (22 ≤ p ∧ p < 262) → A.1 24 0 0 p = B.1 24 0 0 p) : ∀ p, p = 4 ∨ (22 ≤ p ∧ p < 262) → (n_logs A c r k n).1 24 0 0 p = (n_logs B c r k n).1 24 0 0 p := by
  intro p hp
  unfold n_logs
  by_cases c6 : c < 60
  · rw [if_pos c6, if_pos c6]
    by_cases e : p = 4
    · subst e
      rw [zn_upS, zn_upS]
    · rw [zn_upN e, zn_upN e, rd_log1, rd_log1, h 0 (by omega), h p (by omega)]
  · rw [if_neg c6, if_neg c6]
    by_cases e : p = 4
    · subst e
      rw [zn_upS, zn_upS]
    · rw [zn_upN e, zn_upN e, rd_log1, rd_log1, z_sh1, z_sh1, z_sh1, z_sh1]
      have e0 : (if 22 ≤ 0 ∧ 0 < 22 + 236 then A.1 24 0 0 (0 + 4) else A.1 24 0 0 0) = (if 22 ≤ 0 ∧ 0 < 22 + 236 then B.1 24 0 0 (0 + 4) else B.1 24 0 0 0) := by
        rw [if_neg (by omega), if_neg (by omega)]
        exact h 0 (by omega)
      have e1 : (if 22 ≤ p ∧ p < 22 + 236 then A.1 24 0 0 (p + 4) else A.1 24 0 0 p) = (if 22 ≤ p ∧ p < 22 + 236 then B.1 24 0 0 (p + 4) else B.1 24 0 0 p) := by
        by_cases q : 22 ≤ p ∧ p < 22 + 236
        · rw [if_pos q, if_pos q]
          exact h _ (by omega)
        · rw [if_neg q, if_neg q]
          exact h _ (by omega)
      rw [e0, e1]
theorem cnt_at {M : zMem} {k p : Nat} {x : Int32} : (n_counts M k x).1 24 0 0 p = if p = 5 + k then (M.1 24 0 0 (5 + k)) + x else (M.1 24 0 0 (p)) := by
  unfold n_counts
  by_cases e : p = 5 + k
  · rw [if_pos e, e, zn_upS]
  · rw [if_neg e, zn_upN e]
theorem mcnt_at {M : zMem} {w k a c d : Nat} {x : Int32} : (m_cnt M w k x).1 a w c d = if a = 20 ∧ c = 0 ∧ d = k then M.1 20 w 0 k + x else M.1 a w c d := by
  unfold m_cnt
  simp only [z_up1, true_and]
/-- places that only a reader's stock looks at -/
def P_stk (r p : Nat) : Prop := p = 302 + r ∨ p = 326 + r ∨ p = 334 + r ∨ p = 338 + r ∨ p = 342 + r ∨ p = 346 + r ∨ p = 350 + r ∨ p = 354 + r ∨ (814 + 2700 * r ≤ p ∧ p < 3514 + 2700 * r) ∨ (22414 + 2700 * r ≤ p ∧ p < 25114 + 2700 * r)
def C_stk (r a c d : Nat) : Prop := (a = 8 ∧ c = 2 * r + 1) ∨ ((a = 3 ∨ a = 22) ∧ (c = 3 * r ∨ c = 3 * r + 1))
theorem Sim_bsy {Z O : Nat → Prop} {M Mr : zMem} {w T c b r : Nat} (h : SimZ Z O M w Mr T c b) (hr : r < 4) : ∀ t, t < 24 → Mr.1 24 0 0 (550 + t) = nI r → Mr.1 24 0 0 (278 + r) = 1 ∧ Mr.1 24 0 0 (454 + t) = 1 ∧ ¬ r_has (Mr.1 24 0 0 (502 + t)) (nI r) = 0 := fun t ht e => by
  rcases h.2.2.2.2.2.1 t ht with y | ⟨s, s1, s2, s3, s4⟩
  · rw [y] at e
    exact (nm1 hr e).elim
  · have : s = r := (nI_eq (by omega) (by omega)).mp (s2.symm.trans e)
    subst this
    refine ⟨s3, (S_01 (h.2.2.2.1 t ht)).2.resolve_left (fun z => ?_), s4⟩
    rw [(T_away (h.2.2.2.1 t ht) z).1] at e
    exact nm1 hr e
theorem Sim_stk {O : Nat → Prop} {M M2 Mr Mr2 : zMem} {w T c b r : Nat} (h : SimZ (fun q => q = r) O M w Mr T c b) (hr : r < 4) (hM : ∀ a c d, ¬ C_stk r a c d → M2.1 a w c d = M.1 a w c d) (hR : ∀ p, ¬ P_stk r p → Mr2.1 24 0 0 p = Mr.1 24 0 0 p) (h326 : ∃ x, x ≤ 900 ∧ Mr2.1 24 0 0 (326 + r) = nI x) : SimZ (fun q => q = r) O M2 w Mr2 T c b := by
  obtain ⟨k1, k2, k3, k4, k5, k6⟩ := h.2.2.2.2.2.2.2.2 r hr
  have R : ∀ p, ¬ P_stk r p → Mr2.1 24 0 0 p = Mr.1 24 0 0 p := hR
  have M' : ∀ a c d, ¬ C_stk r a c d → M2.1 a w c d = M.1 a w c d := hM
  unfold P_stk at hR
  unfold C_stk at hM
  refine Sim_rd h hr (fun a c d e => hM a c d (by unfold C_own at e; omega)) (fun p e => hR p (by unfold P_own P_bd at e; omega)) (hR _ (by omega)) (fun t ht e => (hR _ (by omega)).trans (Sim_bsy h hr t ht e).1) ⟨⟨fun k hk => ?_, fun k hk => ?_⟩, ?_, ?_, ?_, ?_, fun z => (z rfl).elim⟩ (Nat.le_refl _) (fun s _ _ z => z)
  · have q1 : ∀ k, k < 12 → 262 ≤ rp_of k ∧ rp_of k < 323 ∧ (rp_of k - 262) % 4 = 0 ∧ ¬ rp_of k = 302 := by decide
    have q2 := q1 k hk
    rw [hM _ _ _ (by omega), hR _ (by omega)]
    exact k1.1 k hk
  · have q1 : ∀ k, k < 3 → 306 ≤ tp_of k ∧ tp_of k < 318 := by decide
    have q2 := q1 k hk
    rw [hM _ _ _ (by omega), hR _ (by omega)]
    exact k1.2 k hk
  · unfold S_rv at *
    rw [hR (262 + r) (by omega), hR (278 + r) (by omega), hR (266 + r) (by omega), hR (270 + r) (by omega), hR (282 + r) (by omega), hR (294 + r) (by omega), hR (298 + r) (by omega)]
    exact ⟨k2.1, k2.2.1, k2.2.2.1, k2.2.2.2.1, k2.2.2.2.2.1, k2.2.2.2.2.2.1, k2.2.2.2.2.2.2.1, k2.2.2.2.2.2.2.2.1, h326⟩
  · unfold S_sum at *
    rw [hR (310 + r) (by omega), hR (314 + r) (by omega)]
    exact k3
  · obtain ⟨m, m1, m2, m3, m4⟩ := k4
    refine ⟨m, m1, (hR _ (by omega)).trans m2, fun j hj => ?_, fun i j hi hj => ?_⟩
    · obtain ⟨a, t, t1, t2, t3⟩ := m3 j hj
      rw [hM _ _ _ (by omega), hR _ (by omega)]
      refine ⟨a, t, t1, t2, ?_⟩
      rw [hR _ (by omega)]
      exact t3
    · rw [hR _ (by omega), hR _ (by omega)]
      exact m4 i j hi hj
  · obtain ⟨l, l1, l2, l3, l4⟩ := k5
    exact ⟨l, S_listW (by omega) l1 (hM _ _ _ (by omega)) (fun j _ => hM _ _ _ (by omega)) (hR _ (by omega)) (fun p p1 p2 => hR p (by unfold a_ln at p1 p2; omega)), l2, l3, l4⟩
/-- an EMPTY or a CLASH counted: place q is 310 (EMPTY, class's 0) or 314 (CLASHES, class's 2) -/
theorem Sim_tly {O : Nat → Prop} {M Mr : zMem} {w T c b r k : Nat} (h : SimZ (fun q => q = r) O M w Mr T c b) (hr : r < 4) (hk : k = 0 ∨ k = 2) : SimZ (fun q => q = r) O (z_up M 8 w (2 * r) k (M.1 8 w (2 * r) k + 1)) w (z_up Mr 24 0 0 (310 + 2 * k + r) (Mr.1 24 0 0 (310 + 2 * k + r) + 1)) T c (b + 1) := by
  obtain ⟨k1, k2, k3, k4, k5, k6⟩ := h.2.2.2.2.2.2.2.2 r hr
  have R : ∀ p, ¬ p = 310 + 2 * k + r → (z_up Mr 24 0 0 (310 + 2 * k + r) (Mr.1 24 0 0 (310 + 2 * k + r) + 1)).1 24 0 0 p = Mr.1 24 0 0 p := fun p hp => zn_upN hp
  have C : ∀ a c d, ¬ (a = 8 ∧ c = 2 * r ∧ d = k) → (z_up M 8 w (2 * r) k (M.1 8 w (2 * r) k + 1)).1 a w c d = M.1 a w c d := fun a c d e => by rw [z_up1, if_neg (by omega)]
  refine Sim_rd h hr (fun a c d e => C a c d (by unfold C_own at e; omega)) (fun p e => R p (by unfold P_own P_bd at e; omega)) (R _ (by omega)) (fun t ht e => (R _ (by omega)).trans (Sim_bsy h hr t ht e).1) ⟨⟨fun d hd => ?_, fun d hd => ?_⟩, ?_, ?_, ?_, ?_, fun z => (z rfl).elim⟩ (by omega) (fun s _ _ z => z)
  · have q1 : ∀ k, k < 12 → 262 ≤ rp_of k ∧ (rp_of k - 262) % 4 = 0 ∧ ¬ rp_of k = 310 ∧ ¬ rp_of k = 314 := by decide
    have q2 := q1 d hd
    rw [C _ _ _ (by omega), R _ (by omega)]
    exact k1.1 d hd
  · have a0 : M.1 8 w (2 * r) 0 = Mr.1 24 0 0 (310 + r) := k1.2 0 (by omega)
    have a1 : M.1 8 w (2 * r) 1 = Mr.1 24 0 0 (306 + r) := k1.2 1 (by omega)
    have a2 : M.1 8 w (2 * r) 2 = Mr.1 24 0 0 (314 + r) := k1.2 2 (by omega)
    have t0 : tp_of 0 + r = 310 + r := rfl
    have t1 : tp_of 1 + r = 306 + r := rfl
    have t2 : tp_of 2 + r = 314 + r := rfl
    rcases (show d = 0 ∨ d = 1 ∨ d = 2 by omega) with rfl | rfl | rfl
    · rw [t0]
      rcases hk with rfl | rfl
      · rw [zn_upS, show 310 + 2 * 0 + r = 310 + r by omega, zn_upS, a0]
      · rw [C _ _ _ (by omega), R _ (by omega)]
        exact a0
    · rw [t1, C _ _ _ (by omega), R _ (by omega)]
      exact a1
    · rw [t2]
      rcases hk with rfl | rfl
      · rw [C _ _ _ (by omega), R _ (by omega)]
        exact a2
      · rw [zn_upS, show 310 + 2 * 2 + r = 314 + r by omega, zn_upS, a2]
  · unfold S_rv at *
    rw [R (262 + r) (by omega), R (278 + r) (by omega), R (266 + r) (by omega), R (270 + r) (by omega), R (282 + r) (by omega), R (294 + r) (by omega), R (298 + r) (by omega), R (326 + r) (by omega)]
    exact k2
  · obtain ⟨e, q, q1, q2, q3⟩ := k3
    rcases hk with rfl | rfl
    · refine ⟨e + 1, q, ?_, (R _ (by omega)).trans q2, by omega⟩
      rw [show 310 + 2 * 0 + r = 310 + r by omega, zn_upS, q1]
      exact nI_1 e
    · refine ⟨e, q + 1, (R _ (by omega)).trans q1, ?_, by omega⟩
      rw [show 310 + 2 * 2 + r = 314 + r by omega, zn_upS, q2]
      exact nI_1 q
  · obtain ⟨m, m1, m2, m3, m4⟩ := k4
    refine ⟨m, m1, (R _ (by omega)).trans m2, fun j hj => ?_, fun i j hi hj => ?_⟩
    · obtain ⟨a, t, t1, t2, t3⟩ := m3 j hj
      rw [C _ _ _ (by omega), R _ (by omega)]
      refine ⟨a, t, t1, t2, ?_⟩
      rw [R _ (by omega)]
      exact t3
    · rw [R _ (by omega), R _ (by omega)]
      exact m4 i j hi hj
  · obtain ⟨l, l1, l2, l3, l4⟩ := k5
    exact ⟨l, S_listW (by omega) l1 (C _ _ _ (by omega)) (fun j _ => C _ _ _ (by omega)) (R _ (by omega)) (fun p p1 p2 => R p (by unfold a_ln at p1; omega)), l2, l3, l4⟩
/-- two orders of a row's changes: a cell told behind a log and a count, or ahead of them -/
theorem row_ord {A : zMem} {c q k p : Nat} {x r w n : Int32} (hq : 262 ≤ q) (hk : k < 14) : (n_logs (n_counts (z_up A 24 0 0 q x) k 1) c r w n).1 24 0 0 p = (z_up (n_logs (n_counts A k 1) c r w n) 24 0 0 q x).1 24 0 0 p := by
  by_cases e : p = q
  · subst e
    rw [zn_upS, zf_logs (by omega) (by omega), zf_counts (by omega), zn_upS]
  · rw [zn_upN e]
    by_cases g : p = 4 ∨ (22 ≤ p ∧ p < 262)
    · refine logs_C (fun y hy => ?_) p g
      rw [cnt_at, cnt_at, zn_upN (by omega), zn_upN (by omega)]
    · rw [zf_logs (by omega) (by omega), zf_logs (by omega) (by omega), cnt_at, cnt_at, zn_upN (by omega), zn_upN e]
theorem Sim_h0 {O : Nat → Prop} {M Mr : zMem} {w T c b r : Nat} (h : SimZ (fun q => q = r) O M w Mr T c b) (hr : r < 4) (hc : c < 2147483000) : SimZ (fun q => q = r) O (m_tallyAdd (m_write (m_cnt M w 1 1) w (nI r) 1 0) w (2 * r) 0) w (n_empty Mr r c) T (c + 1) (b + 1) := by
  have st := Sim_tly (k := 0) (Sim_log (r := nI r) (k := 1) (n := 0) (Sim_cnt (k := 1) (x := 1) h (by omega)) hc) hr (.inl rfl)
  unfold m_tallyAdd
  rw [if_pos rfl]
  refine Sim_R st (fun p => ?_)
  unfold n_empty
  rw [row_ord (by omega) (by omega), show 310 + 2 * 0 + r = 310 + r by omega, zf_logs (p := 310 + r) (by omega) (by omega), zf_counts (by omega)]
theorem Sim_h2 {O : Nat → Prop} {M Mr : zMem} {w T c b r k : Nat} (h : SimZ (fun q => q = r) O M w Mr T c b) (hr : r < 4) (hc : c < 2147483000) (hk : 2 ≤ k) (hk2 : k ≤ 24) (h5 : Mr.1 11 0 0 5 = nI k) : SimZ (fun q => q = r) O (m_tallyAdd (m_write (m_cnt M w 3 1) w (nI r) 3 (nI k)) w (2 * r) (nI k)) w (n_clashes Mr r c) T (c + 1) (b + 1) := by
  have st := Sim_tly (k := 2) (Sim_log (r := nI r) (k := 3) (n := nI k) (Sim_cnt (k := 3) (x := 1) h (by omega)) hc) hr (.inr rfl)
  unfold m_tallyAdd
  rw [if_neg (show ¬ nI k = 0 from nI_ne0 (by omega) (by omega)), if_neg (show ¬ nI k = 1 from fun z => by have := (nI_eq (b := 1) (by omega) (by decide)).mp z; omega)]
  refine Sim_R st (fun p => ?_)
  unfold n_clashes
  rw [row_ord (by omega) (by omega), show 310 + 2 * 2 + r = 314 + r by omega, zf_logs (p := 314 + r) (by omega) (by omega), zf_counts (by omega), h5]
  rfl
/-! who answers -/
theorem g_ansN {Mr : zMem} {r : Nat} {b p : Int32} {a : Nat → Bool} (ha : ∀ t, t < 24 → (p_ans Mr r b p t ↔ a t = true)) : ∀ n, n ≤ 24 → (g_ans Mr r b p n).1 = nI (fb_ct (fun k => a (24 - n + k)) n) ∧ ∀ t, t < 24 → 24 - n ≤ t → a t = true → (∀ s, 24 - n ≤ s → s < t → a s = false) → (g_ans Mr r b p n).2 = nI t
  | 0, _ => ⟨rfl, fun t h1 h2 _ _ => by omega⟩
  | n + 1, hn => by
    obtain ⟨i1, i2⟩ := g_ansN ha n (by omega)
    have e23 : 23 - n = 24 - (n + 1) := by omega
    have key := ha (23 - n) (by omega)
    have ct : fb_ct (fun k => a (24 - (n + 1) + k)) (n + 1) = (if a (23 - n) = true then 1 else 0) + fb_ct (fun k => a (24 - n + k)) n := by
      rw [Nat.add_comm n 1, fb_ct_split]
      have e1 : fb_ct (fun k => a (24 - (1 + n) + k)) 1 = if a (23 - n) = true then 1 else 0 := by
        rw [fb_ct_succ, show 24 - (1 + n) + 0 = 23 - n by omega]
        exact Nat.zero_add _
      have e2 : fb_ct (fun k => a (24 - (1 + n) + (1 + k))) n = fb_ct (fun k => a (24 - n + k)) n := fb_ct_cong (fun k _ => by rw [show 24 - (1 + n) + (1 + k) = 24 - n + k by omega])
      rw [e1]
      exact congrArg _ e2
    rw [g_ans]
    by_cases c : a (23 - n) = true
    · rw [if_pos (key.mpr c)]
      refine ⟨?_, fun t h1 h2 h3 h4 => ?_⟩
      · rw [ct, if_pos c, i1, Nat.add_comm]
        exact nI_1 _
      · rcases Nat.lt_or_ge (23 - n) t with l | l
        · have := h4 (23 - n) (by omega) l
          rw [c] at this
          exact absurd this (by decide)
        · show nI (23 - n) = nI t
          rw [show t = 23 - n by omega]
    · rw [if_neg (fun z => c (key.mp z))]
      refine ⟨?_, fun t h1 h2 h3 h4 => ?_⟩
      · rw [ct, if_neg c, i1, Nat.zero_add]
      · rcases Nat.lt_or_ge t (24 - n) with l | l
        · rw [show t = 23 - n by omega] at h3
          exact (c h3).elim
        · exact i2 t h1 l h3 (fun s s1 s2 => h4 s (by omega) s2)
theorem g_ans24 {Mr : zMem} {r : Nat} {b p : Int32} {a : Nat → Bool} (ha : ∀ t, t < 24 → (p_ans Mr r b p t ↔ a t = true)) : (g_ans Mr r b p 24).1 = nI (fb_ct a 24) ∧ ∀ t, t < 24 → a t = true → (∀ s, s < t → a s = false) → (g_ans Mr r b p 24).2 = nI t := by
  obtain ⟨i1, i2⟩ := g_ansN ha 24 (Nat.le_refl _)
  refine ⟨?_, fun t h1 h2 h3 => i2 t h1 (by omega) h2 (fun s _ hs => h3 s hs)⟩
  rw [i1]
  exact congrArg nI (fb_ct_cong (fun k _ => by rw [show 24 - 24 + k = k by omega]))
/-- one alone answers -/
theorem ct_one {a : Nat → Bool} (h : fb_ct a 24 = 1) : ∃ t, t < 24 ∧ a t = true ∧ ∀ s, s < 24 → a s = true → s = t := by
  obtain ⟨t, ht, e⟩ := fb_ct_pos.mp (show 0 < fb_ct a 24 by omega)
  refine ⟨t, ht, e, fun s hs es => Classical.byContradiction (fun ne => ?_)⟩
  have l := fb_ct_upd a false (i := t) (n := 24) ht
  rw [if_pos e, if_neg (by decide), h] at l
  have p : 0 < fb_ct (fun k => if k = t then false else a k) 24 := fb_ct_pos.mpr ⟨s, hs, by show (if s = t then false else a s) = true; rw [if_neg ne]; exact es⟩
  omega
theorem ntz_2 : ∀ t, t < 24 → r_ntz (nI (2 ^ t)) = nI t := by decide +kernel
theorem ntz_mk {a : Nat → Bool} {t : Nat} (ht : t < 24) (h1 : a t = true) (h2 : ∀ s, s < 24 → a s = true → s = t) : r_ntz (z_mk a 24) = nI t := by
  have e : z_mk a 24 = z_mk (fun s => decide (s = t)) 24 := z_mkC (fun i hi => by
    by_cases c : i = t
    · subst c
      rw [h1, decide_eq_true rfl]
    · rw [decide_eq_false c]
      cases hb : a i with
      | false => rfl
      | true => exact (c (h2 i hi hb)).elim)
  have d : ∀ t, t < 24 → z_mk (fun s => decide (s = t)) 24 = nI (2 ^ t) := by decide +kernel
  rw [e, d t ht]
  exact ntz_2 t ht
