/-! a tick of both -/
noncomputable def m_ask1 (M : zMem) (w r : Nat) (J : Int32) : zMem := if r_hasSlots M w r = 0 then m_askT M w r J else m_askS M w r J
theorem ask_1 {M Mr : zMem} {w T c b r : Nat} {qJ : Nat → Bool} (h : SimZ z_F z_F M w Mr T c b) (hr : r < 4) (hc : c < 2147482000) (hT : T < 2147483648) (ht : Mr.1 24 0 0 (278 + r) = 1)
    (hJ : ∀ t, t < 24 → Mr.1 24 0 0 (694 + t) = if qJ t = true then 1 else 0) (hcl : Mr.1 24 0 0 (350 + r) = 1 → ∀ t, t < 24 → Mr.1 24 0 0 (550 + t) = nI r → qJ t = false) (tb : ∀ j, j < 221 → M.2 46 j = tC j) :
    ∃ N' c', c' ≤ c + 2 ∧ (∀ (h : Nat) (K : zK), K none (m_ask1 M w r (z_mk qJ 24)) → z_call (h + 70) 42 [.inr (.inr (9, w, 0)), .inl (nI r), .inl (z_mk qJ 24)] M K) ∧ (r_tree Mr r = 0 → ∀ (h : Nat) (K : zK), K none N' → z_call (h + 70) 214 [.inr (.inr (11, 0, 0)), .inl (nI r)] Mr K) ∧ (¬ r_tree Mr r = 0 → ∀ (h : Nat) (K : zK), K none N' → z_call (h + 70) 216 [.inr (.inr (11, 0, 0)), .inl (nI r)] Mr K) ∧ z_fcw w M (m_ask1 M w r (z_mk qJ 24)) ∧ z_fr Mr N' ∧ SimZ z_F z_F (m_ask1 M w r (z_mk qJ 24)) w N' T c' (b + 1) ∧ kp r Mr N' := by
  obtain ⟨k1, k2, -⟩ := h.2.2.2.2.2.2.2.2 r hr
  obtain ⟨md, hmd, emd⟩ := k2.2.2.2.2.2.2.1
  have c8 : M.1 4 w r 8 = nI md := (show M.1 4 w r 8 = Mr.1 24 0 0 (294 + r) from k1.1 8 (by omega)).trans emd
  have dS : md = 0 ∨ md = 2 → ¬ r_hasSlots M w r = 0 ∧ r_tree Mr r = 0 := fun z => by
    unfold r_hasSlots r_tree
    rw [c8, emd]
    rcases z with rfl | rfl
    · decide
    · decide
  have dT : md = 1 ∨ md = 3 → r_hasSlots M w r = 0 ∧ ¬ r_tree Mr r = 0 := fun z => by
    unfold r_hasSlots r_tree
    rw [c8, emd]
    rcases z with rfl | rfl
    · decide
    · decide
  by_cases e : md = 0 ∨ md = 2
  · obtain ⟨d1, d2⟩ := dS e
    obtain ⟨Ma, N', c', a1, a2, a3, a4, a5, a6, a7, a8⟩ := ask_S h hr hc hT ht (by
      rw [emd]
      exact e.imp (fun z => by rw [z]) (fun z => by rw [z])) hJ tb
    have eM : m_ask1 M w r (z_mk qJ 24) = Ma := by
      unfold m_ask1
      rw [if_neg d1, a8]
    rw [eM]
    exact ⟨N', c', a1, a2, fun _ => a3, fun z => (z d2).elim, a4, a5, a6, a7⟩
  · obtain ⟨d1, d2⟩ := dT (by omega)
    obtain ⟨Ma, N', c', a1, a2, a3, a4, a5, a6, a7, a8⟩ := ask_T h hr hc hT ht (by
      rw [emd]
      exact (show md = 1 ∨ md = 3 by omega).imp (fun z => by rw [z]) (fun z => by rw [z])) hJ hcl
    have eM : m_ask1 M w r (z_mk qJ 24) = Ma := by
      unfold m_ask1
      rw [if_pos d1, a8]
    rw [eM]
    exact ⟨N', c', a1, a2, fun z => (d2 z).elim, fun _ => a3, a4, a5, a6, a7⟩
theorem takes_has {N : zMem} (h : ∀ k, k < 4 → N.1 24 0 0 (278 + k) = 0 ∨ N.1 24 0 0 (278 + k) = 1) {r : Nat} (hr : r < 4) : r_has (r_takes N 4) (nI r) = 0 ↔ ¬ N.1 24 0 0 (278 + r) = 1 := by
  have h0 := h 0 (by omega)
  have h1 := h 1 (by omega)
  have h2 := h 2 (by omega)
  have h3 := h 3 (by omega)
  rw [r_takes, r_takes, r_takes, r_takes, r_takes]
  have er : N.1 24 0 0 (278 + r) = if r = 0 then N.1 24 0 0 (278 + 0) else if r = 1 then N.1 24 0 0 (278 + 1) else if r = 2 then N.1 24 0 0 (278 + 2) else N.1 24 0 0 (278 + 3) := by
    rcases (show r = 0 ∨ r = 1 ∨ r = 2 ∨ r = 3 by omega) with rfl | rfl | rfl | rfl <;> rfl
  rw [er]
  generalize N.1 24 0 0 (278 + 0) = a at *
  generalize N.1 24 0 0 (278 + 1) = b at *
  generalize N.1 24 0 0 (278 + 2) = c at *
  generalize N.1 24 0 0 (278 + 3) = d at *
  rcases (show r = 0 ∨ r = 1 ∨ r = 2 ∨ r = 3 by omega) with rfl | rfl | rfl | rfl <;> rcases h0 with rfl | rfl <;> rcases h1 with rfl | rfl <;> rcases h2 with rfl | rfl <;> rcases h3 with rfl | rfl <;> decide
theorem Sim_T1 {Z O : Nat → Prop} {M Mr : zMem} {w T c b : Nat} (h : SimZ Z O M w Mr T c b) : SimZ Z O (m_pass1 M w) w (n_tick1 Mr) (T + 1) c b := by
  obtain ⟨t5, t0⟩ := Sim_t h
  have hM : ∀ a cc d, ¬ a = 9 → (m_pass1 M w).1 a w cc d = M.1 a w cc d := fun a cc d e => zn_upO e
  have hR : ∀ p, 1 ≤ p → (n_tick1 Mr).1 24 0 0 p = Mr.1 24 0 0 p := fun p hp => zn_upN (by omega)
  have r0 : (n_tick1 Mr).1 24 0 0 0 = nI (T + 1) := by
    unfold n_tick1
    rw [zn_upS, t0]
    exact nI_1 T
  have m0 : (m_pass1 M w).1 9 w 0 5 = nI (T + 1) := by
    unfold m_pass1
    rw [zn_upS, t5]
    exact nI_1 T
  obtain ⟨h1, h2, h3, h4, h5, h6, h7, h8, h9'⟩ := h
  refine ⟨⟨fun k hk => ?_, r0, ?_, ?_⟩, S_jourW h2 (hM _ _ _ (by omega)) (fun p _ => hM _ _ _ (by omega)) (fun p hp => hR p (by omega)), S_cntW h3 (fun k _ => hM _ _ _ (by omega)) (fun k _ => hR _ (by omega)), S_tagsW (fun i hi => S_tagT (h4 i hi) (Nat.le_succ T)) (fun i _ k _ => hM _ _ _ (by omega)) (fun p a _ _ => hR p (by omega)), fun i hi o => S_okW (h5 i hi o) (hR _ (by omega)) (fun r _ => hR _ (by omega)) (hR _ (by omega)) (hR _ (by omega)) (hR _ (by omega)), fun i hi => S_busyW (h6 i hi) (hR _ (by omega)) (fun r _ => hR _ (by omega)) (hR _ (by omega)), S_idsW h7 (fun i _ => ⟨hR _ (by omega), hR _ (by omega)⟩), ⟨(hR 19 (by omega)).trans h8.1, (hR 20 (by omega)).trans h8.2⟩, fun r hr => S_RW hr id (h9' r hr) (C_eq0 (fun a c d e => hM _ _ _ (by omega))) (R_eq0 hr (fun p p1 _ => hR p (by omega))) (Nat.le_refl _)⟩
  · by_cases e : k = 0
    · subst e
      exact m0.trans r0.symm
    · rw [hR k (by omega)]
      refine Eq.trans ?_ (h1.1 k hk)
      unfold m_pass1
      exact zn_upN (by omega)
  · rw [hR 2 (by omega)]
    exact h1.2.2.1
  · rw [hR 3 (by omega)]
    exact h1.2.2.2
theorem Sim_mark {Z O : Nat → Prop} {M Mr : zMem} {w T c b t : Nat} {v : Int32} (h : SimZ Z O M w Mr T c b) (ht : t < 24) : SimZ Z O M w (z_up Mr 24 0 0 (694 + t) v) T c b := by
  have R : ∀ p, ¬ p = 694 + t → (z_up Mr 24 0 0 (694 + t) v).1 24 0 0 p = Mr.1 24 0 0 p := fun p hp => zn_upN hp
  refine Sim_tag h ht t_M0 (t_Rup (by unfold p_T; omega)) (S_tagC (h.2.2.2.1 t ht) (fun _ _ => rfl) (fun k hk _ => R _ (by omega)) (fun f hf => ?_)) (fun o => S_okW (h.2.2.2.2.1 t ht o) (R _ (by omega)) (fun r _ => R _ (by omega)) (R _ (by omega)) (R _ (by omega)) (R _ (by omega))) (fun k hk => R _ (by omega)) ((h.2.2.1 9 (by omega)).trans (R _ (by omega)).symm)
  unfold f_R
  split
  · exact R _ (by omega)
  · exact R _ (by omega)
def f_jC (w : Nat) (q : Nat → Bool) (t : Nat) (M : zMem) : zMem := if q t = true then m_cnt M w 11 1 else M
theorem jC_at {M : zMem} {w : Nat} {q : Nat → Bool} : ∀ n a cc d, (z_it (f_jC w q) n M).1 a w cc d = if a = 20 ∧ cc = 0 ∧ d = 11 then M.1 20 w 0 11 + nI (fb_ct q n) else M.1 a w cc d
  | 0, a, cc, d => by
    by_cases e : a = 20 ∧ cc = 0 ∧ d = 11
    · obtain ⟨rfl, rfl, rfl⟩ := e
      rw [if_pos ⟨rfl, rfl, rfl⟩]
      exact (Int32.add_zero _).symm
    · rw [if_neg e]
      rfl
  | n + 1, a, cc, d => by
    have ih := jC_at (M := M) (w := w) (q := q) n
    rw [z_itS, f_jC, fb_ct_succ]
    by_cases c : q n = true
    · rw [if_pos c, if_pos c, mcnt_at]
      by_cases e : a = 20 ∧ cc = 0 ∧ d = 11
      · rw [if_pos e, if_pos e, ih, if_pos ⟨rfl, rfl, rfl⟩, Int32.add_assoc]
        congr 1
        exact nI_1 _
      · rw [if_neg e, if_neg e, ih, if_neg e]
    · rw [if_neg c, if_neg c, Nat.add_zero]
      exact ih a cc d
theorem fr_jam {t : Nat} {M : zMem} : z_fr M (f_jam t M) := by
  unfold f_jam
  split
  · exact fr_up
  · split
    · exact fr_up
    · exact fr_tr (fr_tr fr_up fr_cnt) fr_up
def q_jam (M : zMem) (w : Nat) (i : Nat) : Bool := decide (¬ M.1 7 w i 0 = 0 ∧ ¬ r_isJammed M w i (r_readersTaking M w) = 0)
theorem mJam_C {X N : zMem} {t r : Nat} (hr : r < 4) (h : ∀ p, 274 ≤ p → p < 282 → X.1 24 0 0 p = N.1 24 0 0 p) (h2 : X.1 24 0 0 (502 + t) = N.1 24 0 0 (502 + t)) : r_mJam X t r = r_mJam N t r := by
  unfold r_mJam
  congr 1
  refine propext ⟨fun ⟨o, ho, z⟩ => ⟨o, ho, ?_⟩, fun ⟨o, ho, z⟩ => ⟨o, ho, ?_⟩⟩
  · unfold p_mJam r_reaches at *
    rw [h (278 + o) (by omega) (by omega), h (274 + o) (by omega) (by omega), h (274 + r) (by omega) (by omega), h2] at z
    exact z
  · unfold p_mJam r_reaches at *
    rw [h (278 + o) (by omega) (by omega), h (274 + o) (by omega) (by omega), h (274 + r) (by omega) (by omega), h2]
    exact z
theorem Sim_jam {M N : zMem} {w T c b : Nat} (h : SimZ z_F z_F M w N T c b) : ∀ n, n ≤ 24 → SimZ z_F z_F (z_it (f_jC w (q_jam M w)) n M) w (z_it f_jam n N) T c b ∧ (∀ t, t < n → (z_it f_jam n N).1 24 0 0 (694 + t) = if q_jam M w t = true then 1 else 0) ∧ (∀ r, r < 4 → (z_it f_jam n N).1 24 0 0 (350 + r) = N.1 24 0 0 (350 + r) ∨ (z_it f_jam n N).1 24 0 0 (350 + r) = 0) ∧ (∀ t r, t < n → r < 4 → N.1 24 0 0 (550 + t) = nI r → q_jam M w t = true → (z_it f_jam n N).1 24 0 0 (350 + r) = 0)
  | 0, _ => ⟨h, fun t ht => absurd ht (Nat.not_lt_zero t), fun r _ => .inl rfl, fun t r ht => absurd ht (Nat.not_lt_zero t)⟩
  | n + 1, hn => by
    obtain ⟨i1, i2, i3, i4⟩ := Sim_jam h n (by omega)
    have hb : ∀ t, t < 24 → N.1 24 0 0 (550 + t) = -1 ∨ ∃ r, r < 4 ∧ N.1 24 0 0 (550 + t) = nI r := fun t ht => (h.2.2.2.2.2.1 t ht).imp id (fun ⟨r, a, b, _⟩ => ⟨r, a, b⟩)
    have keep : ∀ p, p < 350 ∨ 354 ≤ p → ¬ p = 16 → p < 694 ∨ 718 ≤ p → (z_it f_jam n N).1 24 0 0 p = N.1 24 0 0 p := fun p p1 p2 p3 => zf_jam (by omega) p1 p2 p3 hb
    rw [z_itS, z_itS]
    generalize z_it (f_jC w (q_jam M w)) n M = A at *
    generalize z_it f_jam n N = X at *
    have hT2 := h.2.2.2.1 n (by omega)
    have e5 : X.1 24 0 0 (550 + n) = N.1 24 0 0 (550 + n) := keep _ (by omega) (by omega) (by omega)
    have e4 : M.1 7 w n 4 = N.1 24 0 0 (550 + n) := (T_bs hT2).1
    unfold f_jC f_jam
    rw [e5]
    have off : q_jam M w n = false → (f_jam n X = z_up X 24 0 0 (694 + n) 0) → SimZ z_F z_F A w (z_up X 24 0 0 (694 + n) 0) T c b ∧ (∀ t, t < n + 1 → (z_up X 24 0 0 (694 + n) 0).1 24 0 0 (694 + t) = if q_jam M w t = true then 1 else 0) ∧ (∀ r, r < 4 → (z_up X 24 0 0 (694 + n) 0).1 24 0 0 (350 + r) = N.1 24 0 0 (350 + r) ∨ (z_up X 24 0 0 (694 + n) 0).1 24 0 0 (350 + r) = 0) ∧ (∀ t r, t < n + 1 → r < 4 → N.1 24 0 0 (550 + t) = nI r → q_jam M w t = true → (z_up X 24 0 0 (694 + n) 0).1 24 0 0 (350 + r) = 0) := fun q _ => by
      refine ⟨Sim_mark i1 (by omega), fun t ht => ?_, fun r hr => ?_, fun t r ht hr e qt => ?_⟩
      · by_cases c : t = n
        · rw [c, zn_upS, q]
          rfl
        · rw [zn_upN (by omega)]
          exact i2 t (by omega)
      · rw [zn_upN (by omega)]
        exact i3 r hr
      · rw [zn_upN (by omega)]
        by_cases c : t = n
        · rw [c, q] at qt
          exact absurd qt (by decide)
        · exact i4 t r (by omega) hr e qt
    rcases hb n (by omega) with e | ⟨r, hr, e⟩
    · have q : q_jam M w n = false := by
        unfold q_jam r_isJammed
        rw [e4, e, if_pos (.inl (by decide))]
        exact decide_eq_false (fun z => z.2 rfl)
      rw [q, if_neg (by decide), if_pos e]
      exact off q (by unfold f_jam; rw [e5, if_pos e])
    · have ne1 : ¬ N.1 24 0 0 (550 + n) = -1 := by
        rw [e]
        exact fun z => nm1 hr z.symm
      have hin := (Sim_bsy h hr n (by omega) e).2.1
      have ej : r_isJammed M w n (r_readersTaking M w) = r_mJam N n r := e_jam hr (fun o ho => ⟨(h.2.2.2.2.2.2.2.2 o ho).1.1 1 (by omega), (h.2.2.2.2.2.2.2.2 o ho).2.1.2.1, (h.2.2.2.2.2.2.2.2 o ho).1.1 4 (by omega)⟩) (T_in hT2 hin).2.1 (e4.trans e)
      have eX : r_mJam X n r = r_mJam N n r := mJam_C hr (fun p p1 p2 => keep p (by omega) (by omega) (by omega)) (keep _ (by omega) (by omega) (by omega))
      have m0 : ¬ M.1 7 w n 0 = 0 := by
        rw [(S_01 hT2).1, hin]
        decide
      rw [if_neg ne1, e, nI_clamp (by omega), eX]
      by_cases cj : r_mJam N n r = 0
      · have q : q_jam M w n = false := by
          unfold q_jam
          rw [ej]
          exact decide_eq_false (fun z => z.2 cj)
        rw [q, if_neg (by decide), if_pos cj]
        exact off q (by unfold f_jam; rw [e5, if_neg ne1, e, nI_clamp (by omega), eX, if_pos cj])
      · have q : q_jam M w n = true := by
          unfold q_jam
          rw [ej]
          exact decide_eq_true ⟨m0, cj⟩
        rw [q, if_pos rfl, if_neg cj]
        have s1 := Sim_cnt (k := 11) (x := 1) (Sim_mark (v := 1) i1 (show n < 24 by omega)) (by omega)
        have s2 := Sim_uncl s1 (show n < 24 by omega)
        have b5 : (n_counts (z_up X 24 0 0 (694 + n) 1) 11 1).1 24 0 0 (550 + n) = nI r := by
          rw [zf_counts (by omega), zn_upN (by omega), e5, e]
        have eU : n_unclean (n_counts (z_up X 24 0 0 (694 + n) 1) 11 1) n = z_up (n_counts (z_up X 24 0 0 (694 + n) 1) 11 1) 24 0 0 (350 + r) 0 := by
          unfold n_unclean
          rw [b5, if_neg (fun z => nm1 hr z.symm), nI_clamp (by omega)]
        rw [eU] at s2
        have rd : ∀ p, (z_up (n_counts (z_up X 24 0 0 (694 + n) 1) 11 1) 24 0 0 (350 + r) 0).1 24 0 0 p = if p = 350 + r then 0 else if p = 16 then X.1 24 0 0 16 + 1 else if p = 694 + n then 1 else X.1 24 0 0 p := fun p => by
          by_cases c1 : p = 350 + r
          · rw [if_pos c1, c1, zn_upS]
          · rw [if_neg c1, zn_upN c1, cnt_at]
            by_cases c2 : p = 16
            · rw [if_pos c2, if_pos c2, zn_upN (by omega)]
            · rw [if_neg c2, if_neg c2]
              by_cases c3 : p = 694 + n
              · rw [if_pos c3, c3, zn_upS]
              · rw [if_neg c3, zn_upN c3]
        refine ⟨s2, fun t ht => ?_, fun s hs => ?_, fun t s ht hs e2 qt => ?_⟩
        · rw [rd, if_neg (by omega), if_neg (by omega)]
          by_cases c : t = n
          · rw [if_pos (by omega), c, q]
            rfl
          · rw [if_neg (by omega)]
            exact i2 t (by omega)
        · rw [rd]
          by_cases c : s = r
          · rw [if_pos (by omega)]
            exact .inr rfl
          · rw [if_neg (by omega), if_neg (by omega), if_neg (by omega)]
            exact i3 s hs
        · rw [rd]
          by_cases c : s = r
          · rw [if_pos (by omega)]
          · rw [if_neg (by omega), if_neg (by omega), if_neg (by omega)]
            by_cases c2 : t = n
            · rw [c2, e] at e2
              exact (c ((nI_eq (by omega) (by omega)).mp e2.symm)).elim
            · exact i4 t s (by omega) hs e2 qt
