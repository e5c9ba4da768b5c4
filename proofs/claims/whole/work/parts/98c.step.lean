/-! steps of both sides -/
theorem Sim_R {Z O : Nat → Prop} {M Mr Mr2 : zMem} {w T c b : Nat} (h : SimZ Z O M w Mr T c b) (e : ∀ p, Mr2.1 24 0 0 p = Mr.1 24 0 0 p) : SimZ Z O M w Mr2 T c b := Sim_W h (W_eqA (fun a c d _ => rfl)) e (Nat.le_refl _)
theorem Sim_b {Z O : Nat → Prop} {M Mr : zMem} {w T c b b2 : Nat} (h : SimZ Z O M w Mr T c b) (hb : b ≤ b2) : SimZ Z O M w Mr T c b2 := Sim_W h (W_eqA (fun a c d _ => rfl)) (fun _ => rfl) hb
theorem Sim_fc {Z O : Nat → Prop} {J J2 : zMem} {T c b : Nat} (h : SimZ Z O J 0 J T c b) (f : z_fc J J2) : SimZ Z O J 0 J2 T c b := Sim_R h (fun p => f.1 _ _ _ _ (by omega))
/-- a call that changes both sides -/
theorem two_s {J J2 J3 : zMem} {kc km b : Nat} {as : List zV} {v : zV} (h : SB J b) (h1 : z_to kc (z_T9 :: as) J (some v) J2) (h2 : z_to km (z_T11 :: as) J2 (some v) J3) (f1 : z_fc J J2) (f2 : z_fr J2 J3) (hS : ∃ T c, T ≤ 9999 ∧ c ≤ b + 1000 ∧ SimZ z_F z_F J2 0 J3 T c (b + 1000)) (hv : zt_sh kc v := by exact ⟨_, rfl⟩) : z_two J kc km as b := ⟨v, J2, J3, h1, h2, SB_fin h (by omega) f1 f2 hS, ⟨(f2.1 10 0 0 2 (by omega) (by omega) (by omega)).trans (f1.1 10 0 0 2 (by omega)), (f2.1 10 0 0 3 (by omega) (by omega) (by omega)).trans (f1.1 10 0 0 3 (by omega))⟩, hv⟩
theorem Sim_9 {Z O : Nat → Prop} {M M2 Mr Mr2 : zMem} {w T c b : Nat} (h : SimZ Z O M w Mr T c b) (hM : ∀ a c d, ¬ a = 9 → M2.1 a w c d = M.1 a w c d) (hR : ∀ p, 4 ≤ p → Mr2.1 24 0 0 p = Mr.1 24 0 0 p) (h9 : S_w M2 w (Mr2.1 24 0 0) T) : SimZ Z O M2 w Mr2 T c b := by
  obtain ⟨h1, h2, h3, h4, h5, h6, h7, h8, h9'⟩ := h
  exact ⟨h9, S_jourW h2 (hM _ _ _ (by omega)) (fun p _ => hM _ _ _ (by omega)) (fun p hp => hR p (by omega)), S_cntW h3 (fun k _ => hM _ _ _ (by omega)) (fun k _ => hR _ (by omega)), S_tagsW h4 (fun i _ k _ => hM _ _ _ (by omega)) (fun p a _ _ => hR p (by omega)), fun i hi o => S_okW (h5 i hi o) (hR _ (by omega)) (fun r _ => hR _ (by omega)) (hR _ (by omega)) (hR _ (by omega)) (hR _ (by omega)), fun i hi => S_busyW (h6 i hi) (hR _ (by omega)) (fun r _ => hR _ (by omega)) (hR _ (by omega)), S_idsW h7 (fun i _ => ⟨hR _ (by omega), hR _ (by omega)⟩), ⟨(hR 19 (by omega)).trans h8.1, (hR 20 (by omega)).trans h8.2⟩, fun r hr => S_RW hr id (h9' r hr) (C_eq0 (fun a c d e => hM _ _ _ (by omega))) (R_eq0 hr (fun p p1 _ => hR p (by omega))) (Nat.le_refl _)⟩
/-- one tag's flags, or its power, changed -/
theorem Sim_tag {Z O : Nat → Prop} {M M2 Mr Mr2 : zMem} {w T c b i : Nat} (h : SimZ Z O M w Mr T c b) (hi : i < 24) (tM : t_M w i M M2) (tR : t_R i Mr Mr2) (hT : S_T M2 w Mr2 T i) (hok : ¬ O i → S_ok (Mr2.1 24 0 0) i) (hp : ∀ k, k = 0 ∨ k = 1 ∨ k = 2 ∨ k = 4 → Mr2.1 24 0 0 (454 + 24 * k + i) = Mr.1 24 0 0 (454 + 24 * k + i)) (hc : M2.1 20 w 0 9 = Mr2.1 24 0 0 14) : SimZ Z O M2 w Mr2 T c b := by
  obtain ⟨h1, h2, h3, h4, h5, h6, h7, h8, h9⟩ := h
  have oR : ∀ p, ¬ p_T i p → ¬ p = 14 → Mr2.1 24 0 0 p = Mr.1 24 0 0 p := tR.1
  have oM : ∀ a c d, ¬ a = 7 → ¬ a = 20 → M2.1 a w c d = M.1 a w c d := fun a c d e e2 => tM.1 a w c d (by omega) (by omega)
  have p0 : Mr2.1 24 0 0 (454 + i) = Mr.1 24 0 0 (454 + i) := hp 0 (by omega)
  have p1 : Mr2.1 24 0 0 (478 + i) = Mr.1 24 0 0 (478 + i) := by
    have := hp 1 (by omega)
    rw [show 454 + 24 * 1 + i = 478 + i by omega] at this
    exact this
  have p2 : Mr2.1 24 0 0 (502 + i) = Mr.1 24 0 0 (502 + i) := by
    have := hp 2 (by omega)
    rw [show 454 + 24 * 2 + i = 502 + i by omega] at this
    exact this
  have p4 : Mr2.1 24 0 0 (550 + i) = Mr.1 24 0 0 (550 + i) := by
    have := hp 4 (by omega)
    rw [show 454 + 24 * 4 + i = 550 + i by omega] at this
    exact this
  have all : ∀ j, j < 24 → Mr2.1 24 0 0 (454 + j) = Mr.1 24 0 0 (454 + j) ∧ Mr2.1 24 0 0 (478 + j) = Mr.1 24 0 0 (478 + j) ∧ Mr2.1 24 0 0 (502 + j) = Mr.1 24 0 0 (502 + j) ∧ Mr2.1 24 0 0 (550 + j) = Mr.1 24 0 0 (550 + j) := fun j hj => by
    by_cases e : j = i
    · subst e
      exact ⟨p0, p1, p2, p4⟩
    · exact ⟨oR _ (by unfold p_T; omega) (by omega), oR _ (by unfold p_T; omega) (by omega), oR _ (by unfold p_T; omega) (by omega), oR _ (by unfold p_T; omega) (by omega)⟩
  refine ⟨S_wC h1 (fun k _ => oM _ _ _ (by omega) (by omega)) (fun p hp => oR p (by unfold p_T; omega) (by omega)), S_jourW h2 (oM _ _ _ (by omega) (by omega)) (fun p _ => oM _ _ _ (by omega) (by omega)) (fun p hp => oR p (by unfold p_T; omega) (by omega)), S_cntT h3 tM tR hc, fun j hj => ?_, fun j hj o => ?_, fun j hj => S_busyW (h6 j hj) (all j hj).2.2.2 (fun r _ => oR _ (by unfold p_T; omega) (by omega)) (all j hj).2.2.1, S_idsW h7 (fun j hj => ⟨(all j hj).1, (all j hj).2.1⟩), ⟨(oR 19 (by unfold p_T; omega) (by omega)).trans h8.1, (oR 20 (by unfold p_T; omega) (by omega)).trans h8.2⟩, fun r hr => S_RW hr id (h9 r hr) (C_eq0 (fun a c d e => oM _ _ _ (by omega) (by omega))) ⟨fun p hp => oR p (by unfold P_own P_bd at hp; unfold p_T; omega) (by unfold P_own P_bd at hp; omega), fun t ht e => ⟨by rw [← (all t ht).2.2.2]; exact e, by unfold x_id; rw [(all t ht).2.1]⟩, .inr ⟨oR _ (by unfold p_T; omega) (by omega), fun t ht e => by rw [(all t ht).2.2.2]; exact e⟩⟩ (Nat.le_refl _)⟩
  · by_cases e : j = i
    · subst e
      exact hT
    · exact t_other (h4 j hj) tM tR hj hi e
  · by_cases e : j = i
    · subst e
      exact hok o
    · exact S_okT (h5 j hj o) tR hj hi e
theorem Sim_t {Z O : Nat → Prop} {M Mr : zMem} {w T c b : Nat} (h : SimZ Z O M w Mr T c b) : M.1 9 w 0 5 = nI T ∧ Mr.1 24 0 0 0 = nI T := ⟨(h.1.1 0 (by omega)).trans h.1.2.1, h.1.2.1⟩
theorem Sim_set {Z O : Nat → Prop} {M Mr : zMem} {w T c b i f : Nat} {v : Int32} (h : SimZ Z O M w Mr T c b) (hi : i < 24) (hin : Mr.1 24 0 0 (454 + i) = 1) (hf : f < 5) (hv : v = 0 ∨ v = 1) (hT : T < 2147483648) (hpw : f = 0 → v = 1 → S_pw (Mr.1 24 0 0) i) : SimZ Z O (m_setFlag M w i (nI f) v (M.1 9 w 0 5)) w (n_turns Mr i f v) T c b := by
  obtain ⟨t5, t0⟩ := Sim_t h
  rw [t5]
  have hR : ∀ p, p = 454 + i ∨ p = 478 + i ∨ p = 502 + i ∨ p = 550 + i ∨ p = 670 + i ∨ p < 454 → (n_turns Mr i f v).1 24 0 0 p = Mr.1 24 0 0 p := fun p hp => by
    rw [rd_turns hf hi, if_neg (by split <;> omega), if_neg (fun z => by have := z.2; omega)]
  refine Sim_tag h hi (t_Mset hf) (t_Rturn hf hi) (S_set hi hf hv t0 hT (h.2.2.2.1 i hi) hin) (fun o => ?_) (fun k hk => hR _ (by omega)) ?_
  · have ok := h.2.2.2.2.1 i hi o
    by_cases e : f = 0
    · subst e
      refine .inr ⟨(hR _ (by omega)).trans hin, fun _ => ?_⟩
      have hd := (ok.resolve_left (fun z => by rw [hin] at z; exact absurd z (by decide))).2 hin
      have hpw2 : S_pw ((n_turns Mr i 0 v).1 24 0 0) i ↔ S_pw (Mr.1 24 0 0) i := S_pwC (fun r hr => hR _ (by omega)) (hR _ (by omega))
      rw [hpw2, hR (670 + i) (by omega)]
      refine ⟨hd.1, fun z => ?_⟩
      rw [rd_turns hf hi, if_pos (by rw [if_neg (by decide), Nat.add_zero])]
      rcases hv with e | e
      · exact e
      · exact (z (hpw rfl e)).elim
    · refine S_okW ok (hR _ (by omega)) (fun r hr => hR _ (by omega)) (hR _ (by omega)) (hR _ (by omega)) ?_
      rw [rd_turns hf hi, if_neg (by split <;> omega), if_neg (fun z => by have := z.2; omega)]
  · rw [rd_set hf, if_neg (by omega), if_neg (fun z => by have := z.2.1; omega), hR 14 (by omega)]
    exact h.2.2.1 9 (by omega)
/-! set, state, tune -/
theorem two_set1 {J : zMem} {b q x : Nat} (h : SB J b) (hq : q < 2) (x1 : 1 ≤ x) (x2 : x ≤ (if q = 0 then 200 else 400)) : z_two J 120 179 [.inl (nI q), .inl (nI x)] b := by
  obtain ⟨T, c, hT, hc, hs⟩ := h.1
  have cl : (nI q).toNatClampNeg = q := nI_clamp (by omega)
  have cm : c_mSet (nI q) (nI x) := by
    refine ⟨(isIn_N (N := 1) (by decide)).mpr ⟨q, by omega, rfl⟩, isIn_iff.mpr ⟨nI_nlt (b := 1) x1 (by split at x2 <;> omega), ?_⟩⟩
    rcases (show q = 0 ∨ q = 1 by omega) with rfl | rfl
    · exact nI_nlt (a := 200) x2 (by decide)
    · exact nI_nlt (a := 400) x2 (by decide)
  have key : r_tellSpan (nI q) (nI x) = 1 ∧ m_tellSpan J 0 (nI q) (nI x) = z_up J 9 0 0 (7 + q) (nI x) := by
    rcases (show q = 0 ∨ q = 1 by omega) with rfl | rfl
    · rw [if_pos rfl] at x2
      have g : nI 0 = 0 ∧ ¬ nI x < 1 ∧ ¬ nI x > 200 := ⟨rfl, nI_nlt (b := 1) x1 (by omega), nI_nlt (a := 200) x2 (by omega)⟩
      exact ⟨if_pos (.inl g), if_pos g⟩
    · rw [if_neg (by decide)] at x2
      have g : nI 1 = 1 ∧ ¬ nI x < 1 ∧ ¬ nI x > 400 := ⟨rfl, nI_nlt (b := 1) x1 (by omega), nI_nlt (a := 400) x2 (by omega)⟩
      refine ⟨if_pos (.inr g), ?_⟩
      unfold m_tellSpan
      rw [if_neg (fun z => absurd z.1 (by decide)), if_pos g]
  obtain ⟨k1, k2⟩ := key
  refine two_s (J2 := z_up J 9 0 0 (7 + q) (nI x)) (J3 := z_up (z_up J 9 0 0 (7 + q) (nI x)) 24 0 0 (2 + q) (nI x)) h (v := .inl 1) (fun _ K hK => ?_) (fun _ K hK => ?_) (fc_up (by omega)) fr_up ⟨T, c, hT, by omega, ?_⟩
  · refine w9_set (v := r_tellSpan (nI q) (nI x)) (M2 := m_tellSpan J 0 (nI q) (nI x)) (by rw [k1]; exact .inr rfl) (fun K2 q => s_tellSpan q) ?_
    rw [k1, k2]
    exact hK
  · refine s_mSet (fun _ => ?_) (fun z => (z cm).elim)
    rw [cl]
    exact hK
  · refine Sim_b (Sim_9 (Sim_fc hs (J2 := z_up J 9 0 0 (7 + q) (nI x)) (fc_up (by omega))) (fun a c d e => zn_upO e) (fun p hp => zn_upN (by omega)) ?_) (by omega)
    obtain ⟨a1, a2, a3, a4⟩ := hs.1
    rcases (show q = 0 ∨ q = 1 by omega) with rfl | rfl
    · refine ⟨fun k hk => ?_, (zn_upN (by omega)).trans ((zn_upO (by decide)).trans a2), ⟨x, x1, by simpa using x2, zn_upS⟩, ?_⟩
      · by_cases e : k = 2
        · subst e
          rw [zn_upS, zn_upS]
        · rw [zn_upN (by omega), zn_upN (by omega), zn_upO (by decide)]
          exact a1 k hk
      · rw [zn_upN (by omega), zn_upO (by decide)]
        exact a4
    · refine ⟨fun k hk => ?_, (zn_upN (by omega)).trans ((zn_upO (by decide)).trans a2), ?_, ⟨x, x1, by simpa using x2, zn_upS⟩⟩
      · by_cases e : k = 3
        · subst e
          rw [zn_upS, zn_upS]
        · rw [zn_upN (by omega), zn_upN (by omega), zn_upO (by decide)]
          exact a1 k hk
      · rw [zn_upN (by omega), zn_upO (by decide)]
        exact a3
theorem two_set {J : zMem} {b : Nat} {k v : Int32} (h : SB J b) : z_two J 120 179 [.inl k, .inl v] b := by
  by_cases e : c_mSet k v
  · obtain ⟨e1, e2⟩ := e
    rcases isIn_01.mp e1 with rfl | rfl
    · obtain ⟨x, x1, x2, rfl⟩ := z_isInR (A := 1) (N := 200) (by decide) (by decide) e2
      exact two_set1 (q := 0) h (by omega) x1 x2
    · obtain ⟨x, x1, x2, rfl⟩ := z_isInR (A := 1) (N := 400) (by decide) (by decide) e2
      exact two_set1 (q := 1) h (by omega) x1 x2
  · have n0 : ¬ (k = 0 ∧ ¬ v < 1 ∧ ¬ v > 200) := by
      rintro ⟨rfl, z1, z2⟩
      exact e ⟨isIn_01.mpr (.inl rfl), isIn_iff.mpr ⟨z1, z2⟩⟩
    have n1 : ¬ (k = 1 ∧ ¬ v < 1 ∧ ¬ v > 400) := by
      rintro ⟨rfl, z1, z2⟩
      exact e ⟨isIn_01.mpr (.inr rfl), isIn_iff.mpr ⟨z1, z2⟩⟩
    have k1 : r_tellSpan k v = 0 := if_neg (fun z => z.elim n0 n1)
    have k2 : m_tellSpan J 0 k v = J := by
      unfold m_tellSpan
      rw [if_neg n0, if_neg n1]
    refine two_q h (v := .inl 0) (fun _ K hK => ?_) (fun _ K hK => s_mSet (fun z => (e z).elim) (fun _ => hK))
    refine w9_set (v := r_tellSpan k v) (M2 := m_tellSpan J 0 k v) (by rw [k1]; exact .inl rfl) (fun K2 q => s_tellSpan q) ?_
    rw [k1, k2]
    exact hK
theorem two_state {J : zMem} {b : Nat} {v : Int32} (h : SB J b) : z_two J 121 180 [.inl v] b := by
  obtain ⟨T, c, hT, hc, hs⟩ := h.1
  obtain ⟨a1, a2, a3, a4⟩ := hs.1
  refine two_s (J2 := z_up J 9 0 0 6 v) (J3 := z_up (z_up J 9 0 0 6 v) 24 0 0 1 v) h (v := .inl (J.1 24 0 0 1)) (fun _ K hK => ?_) (fun _ K hK => ?_) (fc_up (by omega)) fr_up ⟨T, c, hT, by omega, ?_⟩
  · refine s9_state ?_
    have e : J.1 9 0 0 6 = J.1 24 0 0 1 := a1 1 (by omega)
    rw [e]
    exact hK
  · refine s_mState ?_
    rw [zn_upO (by decide)]
    exact hK
  · refine Sim_b (Sim_9 (Sim_fc hs (J2 := z_up J 9 0 0 6 v) (fc_up (by omega))) (fun a c d e => zn_upO e) (fun p hp => zn_upN (by omega)) ?_) (by omega)
    refine ⟨fun k hk => ?_, (zn_upN (by omega)).trans ((zn_upO (by decide)).trans a2), ?_, ?_⟩
    · by_cases e : k = 1
      · subst e
        rw [zn_upS, zn_upS]
      · rw [zn_upN (by omega), zn_upN (by omega), zn_upO (by decide)]
        exact a1 k hk
    · rw [zn_upN (by omega), zn_upO (by decide)]
      exact a3
    · rw [zn_upN (by omega), zn_upO (by decide)]
      exact a4
/-- one reader's heads (on, QF, STEP, CHANNEL) changed -/
theorem Sim_head {Z O : Nat → Prop} {M M2 Mr Mr2 : zMem} {w T c b r : Nat} (h : SimZ Z O M w Mr T c b) (hr : r < 4) (hM : ∀ a c d, ¬ (a = 4 ∧ c = r ∧ (d = 0 ∨ d = 2 ∨ d = 3 ∨ d = 4)) → M2.1 a w c d = M.1 a w c d) (hR : ∀ p, ¬ (262 ≤ p ∧ p < 278 ∧ (p - 262) % 4 = r) → Mr2.1 24 0 0 p = Mr.1 24 0 0 p)
    (hd : ∀ k, k = 0 ∨ k = 2 ∨ k = 3 ∨ k = 4 → M2.1 4 w r k = Mr2.1 24 0 0 (rp_of k + r)) (hv : (Mr2.1 24 0 0 (262 + r) = 0 ∨ Mr2.1 24 0 0 (262 + r) = 1) ∧ (Mr.1 24 0 0 (278 + r) = 1 → Mr2.1 24 0 0 (262 + r) = 1) ∧ (∃ x, x ≤ 64 ∧ Mr2.1 24 0 0 (266 + r) = nI x) ∧ ∃ x, 1 ≤ x ∧ x ≤ 8 ∧ Mr2.1 24 0 0 (270 + r) = nI x)
    (hO : ∀ i, i < 24 → ¬ O i → S_ok (Mr2.1 24 0 0) i) : SimZ Z O M2 w Mr2 T c b := by
  obtain ⟨h1, h2, h3, h4, h5, h6, h7, h8, h9⟩ := h
  refine ⟨S_wC h1 (fun k _ => hM _ _ _ (by omega)) (fun p hp => hR p (by omega)), S_jourW h2 (hM _ _ _ (by omega)) (fun p _ => hM _ _ _ (by omega)) (fun p hp => hR p (by omega)), S_cntW h3 (fun k _ => hM _ _ _ (by omega)) (fun k _ => hR _ (by omega)), S_tagsW h4 (fun i _ k _ => hM _ _ _ (by omega)) (fun p a _ _ => hR p (by omega)), hO, fun i hi => S_busyW (h6 i hi) (hR _ (by omega)) (fun r _ => hR _ (by omega)) (hR _ (by omega)), S_idsW h7 (fun i _ => ⟨hR _ (by omega), hR _ (by omega)⟩), ⟨(hR 19 (by omega)).trans h8.1, (hR 20 (by omega)).trans h8.2⟩, fun s hs => ?_⟩
  by_cases e : s = r
  · subst e
    obtain ⟨k1, k2, k3, k4, k5, k6⟩ := h9 s hs
    have bd : ∀ p, P_bd s p → Mr2.1 24 0 0 p = Mr.1 24 0 0 p := fun p hp => hR p (by unfold P_bd at hp; omega)
    have cb : C_bd M w M2 w s := ⟨fun o k _ _ => hM _ _ _ (by omega), fun o _ => hM _ _ _ (by omega), fun o j _ _ => hM _ _ _ (by omega), fun j _ => hM _ _ _ (by omega)⟩
    have rb : R_eqB (Mr.1 24 0 0) (Mr2.1 24 0 0) s := ⟨bd, fun t ht e => ⟨by rw [← hR (550 + t) (by omega)]; exact e, by unfold x_id; rw [hR (478 + t) (by omega)]⟩, .inr ⟨hR _ (by omega), fun t ht e => by rw [hR (550 + t) (by omega)]; exact e⟩⟩
    refine ⟨⟨fun k hk => ?_, fun k hk => ?_⟩, ?_, S_sumW hs (Nat.le_refl _) k3 bd, S_readsW hs k4 cb bd (fun t ht e => (rb.2.1 t ht e).1), S_lnW hs k5 cb bd, fun z => S_stockW hs (k6 z) cb rb⟩
    · by_cases kk : k = 0 ∨ k = 2 ∨ k = 3 ∨ k = 4
      · exact hd k kk
      · have q : ∀ k, k < 12 → ¬ (k = 0 ∨ k = 2 ∨ k = 3 ∨ k = 4) → 278 ≤ rp_of k := by decide
        rw [hM _ _ _ (by omega), hR _ (by have := q k hk kk; omega)]
        exact k1.1 k hk
    · have q : ∀ k, k < 3 → 278 ≤ tp_of k := by decide
      rw [hM _ _ _ (by omega), hR _ (by have := q k hk; omega)]
      exact k1.2 k hk
    · obtain ⟨a1, a2, a3, a4, a5, a6⟩ := k2
      obtain ⟨v1, v2, v3, v4⟩ := hv
      unfold S_rv
      rw [hR (278 + s) (by omega), hR (282 + s) (by omega), hR (294 + s) (by omega), hR (298 + s) (by omega), hR (326 + s) (by omega)]
      exact ⟨v1, a2, v2, v3, v4, a6⟩
  · exact S_RW hs id (h9 s hs) ⟨fun k hk => hM _ _ _ (by omega), fun o k _ _ => hM _ _ _ (by omega), fun o _ => hM _ _ _ (by omega), fun o j _ _ => hM _ _ _ (by omega), fun j _ => hM _ _ _ (by omega)⟩ ⟨fun p hp => hR p (by unfold P_own P_bd at hp; omega), fun t ht e => ⟨by rw [← hR (550 + t) (by omega)]; exact e, by unfold x_id; rw [hR (478 + t) (by omega)]⟩, .inr ⟨hR _ (by omega), fun t ht e => by rw [hR (550 + t) (by omega)]; exact e⟩⟩ (Nat.le_refl _)
theorem two_tune1 {J : zMem} {b j q x : Nat} (h : SB J b) (hj : j < 4) (hq : q < 3) (hx : (q = 0 ∧ x ≤ 64) ∨ (q = 1 ∧ 1 ≤ x ∧ x ≤ 8) ∨ (q = 2 ∧ x ≤ 3)) : z_two J 122 181 [.inl (nI j), .inl (nI q), .inl (nI x)] b := by
  obtain ⟨T, c, hT, hc, hs⟩ := h.1
  have cl : (nI q).toNatClampNeg = q := nI_clamp (by omega)
  have cl2 : (nI j).toNatClampNeg = j := nI_clamp (by omega)
  have cm : c_mTune (nI j) (nI q) (nI x) := by
    refine ⟨(isIn_N (N := 3) (by decide)).mpr ⟨j, by omega, rfl⟩, (isIn_N (N := 2) (by decide)).mpr ⟨q, by omega, rfl⟩, ?_⟩
    rcases hx with ⟨rfl, hx⟩ | ⟨rfl, hx, hx2⟩ | ⟨rfl, hx⟩
    · exact (isIn_N (N := 64) (by decide)).mpr ⟨x, hx, rfl⟩
    · exact isIn_iff.mpr ⟨nI_nlt (b := 1) hx (by omega), nI_nlt (a := 8) hx2 (by omega)⟩
    · exact (isIn_N (N := 3) (by decide)).mpr ⟨x, hx, rfl⟩
  have key : r_tell (nI q) (nI x) = 1 ∧ m_tell J 0 j (nI q) (nI x) = z_up J 4 0 j (2 + q) (nI x) := by
    rcases hx with ⟨rfl, hx⟩ | ⟨rfl, hx, hx2⟩ | ⟨rfl, hx⟩
    · have g : nI 0 = 0 ∧ ¬ nI x < 0 ∧ ¬ nI x > 64 := ⟨rfl, nI_pos (by omega), nI_nlt (a := 64) hx (by omega)⟩
      exact ⟨if_pos (.inl g), if_pos g⟩
    · have g : nI 1 = 1 ∧ ¬ nI x < 1 ∧ ¬ nI x > 8 := ⟨rfl, nI_nlt (b := 1) hx (by omega), nI_nlt (a := 8) hx2 (by omega)⟩
      refine ⟨if_pos (.inr (.inl g)), ?_⟩
      unfold m_tell
      rw [if_neg (fun z => absurd z.1 (by decide)), if_pos g]
    · have g : nI 2 = 2 ∧ ¬ nI x < 0 ∧ ¬ nI x ≥ 4 := ⟨rfl, nI_pos (by omega), nI_ge (b := 4) (by omega) (by omega)⟩
      refine ⟨if_pos (.inr (.inr g)), ?_⟩
      unfold m_tell
      rw [if_neg (fun z => absurd z.1 (by decide)), if_neg (fun z => absurd z.1 (by decide)), if_pos g]
  obtain ⟨k1, k2⟩ := key
  have nb : ¬ (nI j < 0 ∨ nI j ≥ 4) := fun z => z.elim (nI_pos (by omega)) (nI_ge (b := 4) (by omega) (by omega))
  refine two_s (J2 := z_up J 4 0 j (2 + q) (nI x)) (J3 := z_up (z_up J 4 0 j (2 + q) (nI x)) 24 0 0 (266 + 4 * q + j) (nI x)) h (v := .inl 1) (fun _ K hK => ?_) (fun _ K hK => ?_) (fc_up (by omega)) fr_up ⟨T, c, hT, by omega, ?_⟩
  · refine s9_tune (fun _ _ => ?_) (fun z => (z.elim nb (fun z => by rw [k1] at z; exact absurd z (by decide))).elim)
    rw [cl2, k2]
    exact hK
  · refine s_mTune (fun _ => ?_) (fun z => (z cm).elim)
    rw [cl, cl2]
    exact hK
  · have hs2 := Sim_fc hs (J2 := z_up J 4 0 j (2 + q) (nI x)) (fc_up (by omega))
    have hR := (hs.2.2.2.2.2.2.2.2 j hj)
    have same : ∀ p, ¬ p = 266 + 4 * q + j → (z_up (z_up J 4 0 j (2 + q) (nI x)) 24 0 0 (266 + 4 * q + j) (nI x)).1 24 0 0 p = J.1 24 0 0 p := fun p hp => (zn_upN hp).trans (zn_upO (by decide))
    have at1 : (z_up (z_up J 4 0 j (2 + q) (nI x)) 24 0 0 (266 + 4 * q + j) (nI x)).1 24 0 0 (266 + 4 * q + j) = nI x := zn_upS
    refine Sim_b (Sim_head hs2 hj (fun a c d e => ?_) (fun p hp => zn_upN (by omega)) (fun k hk => ?_) ⟨?_, fun z => ?_, ?_, ?_⟩ (fun i hi o => ?_)) (by omega)
    · rw [z_up1, if_neg (by omega)]
    · by_cases e : k = 2 + q
      · subst e
        have g : rp_of (2 + q) = 266 + 4 * q := by
          rcases (show q = 0 ∨ q = 1 ∨ q = 2 by omega) with rfl | rfl | rfl <;> rfl
        rw [zn_upS, g, at1]
      · have g : ∀ k, k = 0 ∨ k = 2 ∨ k = 3 ∨ k = 4 → ¬ k = 2 + q → ¬ rp_of k = 266 + 4 * q := by
          intro k hk ne
          rcases hk with rfl | rfl | rfl | rfl
          · show ¬ 262 = _
            omega
          · show ¬ 266 = _
            omega
          · show ¬ 270 = _
            omega
          · show ¬ 274 = _
            omega
        rw [zn_upN e, same _ (by have := g k hk e; omega)]
        exact hR.1.1 k (by omega)
    · rw [same _ (by omega)]
      exact hR.2.1.1
    · rw [same _ (by omega)]
      rw [zn_upO (by decide)] at z
      exact hR.2.1.2.2.1 z
    · by_cases e : q = 0
      · subst e
        exact ⟨x, by omega, at1⟩
      · rw [same _ (by omega)]
        exact hR.2.1.2.2.2.1
    · by_cases e : q = 1
      · subst e
        exact ⟨x, by omega, by omega, at1⟩
      · rw [same _ (by omega)]
        exact hR.2.1.2.2.2.2.1
    · exact S_okW (hs.2.2.2.2.1 i hi o) (same _ (by omega)) (fun r hr => same _ (by omega)) (same _ (by omega)) (same _ (by omega)) (same _ (by omega))
theorem two_tune {J : zMem} {b : Nat} {r k v : Int32} (h : SB J b) : z_two J 122 181 [.inl r, .inl k, .inl v] b := by
  by_cases e : c_mTune r k v
  · obtain ⟨e1, e2, e3⟩ := e
    obtain ⟨j, hj, rfl⟩ := (isIn_N (N := 3) (by decide)).mp e1
    obtain ⟨q, hq, rfl⟩ := (isIn_N (N := 2) (by decide)).mp e2
    rcases (show q = 0 ∨ q = 1 ∨ q = 2 by omega) with rfl | rfl | rfl
    · obtain ⟨x, hx, rfl⟩ := (isIn_N (N := 64) (by decide)).mp e3
      exact two_tune1 (q := 0) h (by omega) (by omega) (.inl ⟨rfl, hx⟩)
    · obtain ⟨x, x1, x2, rfl⟩ := z_isInR (A := 1) (N := 8) (by decide) (by decide) e3
      exact two_tune1 (q := 1) h (by omega) (by omega) (.inr (.inl ⟨rfl, x1, x2⟩))
    · obtain ⟨x, hx, rfl⟩ := (isIn_N (N := 3) (by decide)).mp e3
      exact two_tune1 (q := 2) h (by omega) (by omega) (.inr (.inr ⟨rfl, hx⟩))
  · refine two_q h (v := .inl 0) (fun _ K hK => ?_) (fun _ K hK => s_mTune (fun z => (e z).elim) (fun _ => hK))
    refine s9_tune (fun z1 z2 => (e ?_).elim) (fun _ => hK)
    unfold r_tell at z2
    have z3 : (k = 0 ∧ ¬ v < 0 ∧ ¬ v > 64) ∨ (k = 1 ∧ ¬ v < 1 ∧ ¬ v > 8) ∨ (k = 2 ∧ ¬ v < 0 ∧ ¬ v ≥ 4) := Classical.byContradiction (fun y => z2 (if_neg y))
    refine ⟨isIn_rd.mpr z1, ?_⟩
    rcases z3 with ⟨rfl, y1, y2⟩ | ⟨rfl, y1, y2⟩ | ⟨rfl, y1, y2⟩
    · exact ⟨by decide, isIn_iff.mpr ⟨y1, y2⟩⟩
    · exact ⟨by decide, isIn_iff.mpr ⟨y1, y2⟩⟩
    · exact ⟨by decide, isIn_rd.mpr (fun z => z.elim y1 y2)⟩
