/-! gone, move, tag -/
theorem rd_cl1 {t : Nat} {M : zMem} : ∀ n, n ≤ 11 → ∀ p, (z_it (f_cl1 t) n M).1 24 0 0 p = if ∃ k, k < n ∧ p = 454 + 24 * k + t then 0 else (M.1 24 0 0 (p))
  | 0, _, p => by
    rw [if_neg (fun ⟨k, hk, _⟩ => by omega)]
    rfl
  | n + 1, hn, p => by
    rw [z_itS, f_cl1]
    by_cases e : p = 454 + 24 * n + t
    · subst e
      rw [zn_upS, if_pos ⟨n, by omega, rfl⟩]
    · rw [zn_upN e, rd_cl1 n (by omega)]
      by_cases c : ∃ k, k < n ∧ p = 454 + 24 * k + t
      · obtain ⟨k, hk, c2⟩ := c
        rw [if_pos ⟨k, hk, c2⟩, if_pos ⟨k, by omega, c2⟩]
      · rw [if_neg c, if_neg (fun ⟨k, hk, z⟩ => (Nat.lt_or_ge k n).elim (fun l => c ⟨k, l, z⟩) (fun l => e (by rw [z, show k = n by omega])))]
theorem rd_cl2 {t : Nat} {M : zMem} : ∀ n, n ≤ 4 → ∀ p, (z_it (f_cl2 t) n M).1 24 0 0 p = if 718 + 4 * t ≤ p ∧ p < 718 + 4 * t + n then 0 else (M.1 24 0 0 (p))
  | 0, _, p => by
    rw [if_neg (by omega)]
    rfl
  | n + 1, hn, p => by
    rw [z_itS, f_cl2]
    by_cases e : p = 718 + 4 * t + n
    · subst e
      rw [zn_upS, if_pos (by omega)]
    · rw [zn_upN e, rd_cl2 n (by omega)]
      by_cases c : 718 + 4 * t ≤ p ∧ p < 718 + 4 * t + n
      · rw [if_pos c, if_pos (by omega)]
      · rw [if_neg c, if_neg (by omega)]
theorem rd_clears {t p : Nat} {M : zMem} (ht : t < 24) : (n_clears M t).1 24 0 0 p = if p = 550 + t ∨ p = 574 + t ∨ p = 622 + t ∨ p = 670 + t then -1 else if (454 ≤ p ∧ p < 718 ∧ (p - 454) % 24 = t) ∨ (718 + 4 * t ≤ p ∧ p < 722 + 4 * t) then 0 else (M.1 24 0 0 (p)) := by
  unfold n_clears n_clears0
  by_cases e : p = 550 + t ∨ p = 574 + t ∨ p = 622 + t ∨ p = 670 + t
  · rw [if_pos e]
    by_cases e4 : p = 670 + t
    · subst e4
      exact zn_upS
    · rw [zn_upN e4]
      by_cases e3 : p = 622 + t
      · subst e3
        exact zn_upS
      · rw [zn_upN e3]
        by_cases e2 : p = 574 + t
        · subst e2
          exact zn_upS
        · rw [zn_upN e2]
          obtain rfl : p = 550 + t := by omega
          exact zn_upS
  · rw [if_neg e, zn_upN (by omega), zn_upN (by omega), zn_upN (by omega), zn_upN (by omega), rd_cl2 4 (by omega), rd_cl1 11 (by omega)]
    by_cases c : (454 ≤ p ∧ p < 718 ∧ (p - 454) % 24 = t) ∨ (718 + 4 * t ≤ p ∧ p < 722 + 4 * t)
    · rw [if_pos c]
      by_cases c1 : 718 + 4 * t ≤ p ∧ p < 718 + 4 * t + 4
      · rw [if_pos c1]
      · rw [if_neg c1, if_pos ⟨(p - 454) / 24, by omega, by omega⟩]
    · rw [if_neg c]
      rw [if_neg (by omega), if_neg (fun ⟨k, hk, z⟩ => by omega)]
theorem rd_uncl {M : zMem} {t p : Nat} (hb : (M.1 24 0 0 (550 + t)) = -1 ∨ ∃ r, r < 4 ∧ (M.1 24 0 0 (550 + t)) = nI r) : (n_unclean M t).1 24 0 0 p = (M.1 24 0 0 (p)) ∨ ∃ r, r < 4 ∧ (M.1 24 0 0 (550 + t)) = nI r ∧ p = 350 + r ∧ (n_unclean M t).1 24 0 0 p = 0 := by
  unfold n_unclean
  rcases hb with e | ⟨r, hr, e⟩
  · rw [if_pos e]
    exact .inl rfl
  · rw [if_neg (by rw [e]; exact fun z => nm1 hr z.symm), e, nI_clamp (by omega)]
    by_cases c : p = 350 + r
    · subst c
      exact .inr ⟨r, hr, rfl, rfl, zn_upS⟩
    · exact .inl (zn_upN c)
theorem uncl_at {M : zMem} {t r : Nat} (hr : r < 4) (e : (M.1 24 0 0 (550 + t)) = nI r) : (n_unclean M t).1 24 0 0 (350 + r) = 0 := by
  unfold n_unclean
  rw [if_neg (by rw [e]; exact fun z => nm1 hr z.symm), e, nI_clamp (by omega)]
  exact zn_upS
theorem uncl_o {M : zMem} {t p : Nat} (h : p < 350 ∨ 354 ≤ p) (hb : (M.1 24 0 0 (550 + t)) = -1 ∨ ∃ r, r < 4 ∧ (M.1 24 0 0 (550 + t)) = nI r) : (n_unclean M t).1 24 0 0 p = (M.1 24 0 0 (p)) := zf_unclean h hb
/-- whose busy tags are less, the reader is unclean then -/
theorem Sim_uncl {Z O : Nat → Prop} {M Mr : zMem} {w T c b i : Nat} (h : SimZ Z O M w Mr T c b) (hi : i < 24) : SimZ Z O M w (n_unclean Mr i) T c b := by
  have hb : Mr.1 24 0 0 (550 + i) = -1 ∨ ∃ r, r < 4 ∧ Mr.1 24 0 0 (550 + i) = nI r := (h.2.2.2.2.2.1 i hi).imp id (fun ⟨r, a, b, _⟩ => ⟨r, a, b⟩)
  obtain ⟨h1, h2, h3, h4, h5, h6, h7, h8, h9⟩ := h
  have o : ∀ p, p < 350 ∨ 354 ≤ p → (n_unclean Mr i).1 24 0 0 p = Mr.1 24 0 0 p := fun p hp => uncl_o hp hb
  refine ⟨S_wC h1 (fun k _ => rfl) (fun p hp => o p (by omega)), S_jourW h2 rfl (fun p _ => rfl) (fun p hp => o p (by omega)), S_cntW h3 (fun k _ => rfl) (fun k _ => o _ (by omega)), S_tagsW h4 (fun i _ k _ => rfl) (fun p a _ _ => o p (by omega)), fun i hi q => S_okW (h5 i hi q) (o _ (by omega)) (fun r _ => o _ (by omega)) (o _ (by omega)) (o _ (by omega)) (o _ (by omega)), fun i hi => S_busyW (h6 i hi) (o _ (by omega)) (fun r _ => o _ (by omega)) (o _ (by omega)), S_idsW h7 (fun i _ => ⟨o _ (by omega), o _ (by omega)⟩), ⟨(o 19 (by omega)).trans h8.1, (o 20 (by omega)).trans h8.2⟩, fun r hr => S_RW hr id (h9 r hr) (C_eq0 (fun a c d e => rfl)) ⟨fun p hp => ?_, fun t ht e => ⟨by rw [← o (550 + t) (by omega)]; exact e, by unfold x_id; rw [o (478 + t) (by omega)]⟩, ?_⟩ (Nat.le_refl _)⟩
  · rcases rd_uncl (p := p) hb with z | ⟨s, s1, s2, s3, s4⟩
    · exact z
    · exfalso
      unfold P_own P_bd at hp
      omega
  · rcases rd_uncl (p := 350 + r) hb with z | ⟨s, s1, s2, s3, s4⟩
    · exact .inr ⟨z, fun t ht e => by rw [o (550 + t) (by omega)]; exact e⟩
    · exact .inl s4
theorem Sim_gone {Z O : Nat → Prop} {M Mr : zMem} {w T c b i : Nat} (h : SimZ Z O M w Mr T c b) (hi : i < 24) (hcl : ∀ r, r < 4 → Mr.1 24 0 0 (550 + i) = nI r → Mr.1 24 0 0 (350 + r) = 0) : SimZ Z O (m_leave M w i) w (n_clears Mr i) T c b := by
  obtain ⟨h1, h2, h3, h4, h5, h6, h7, h8, h9⟩ := h
  have rM : ∀ a c d, ¬ (a = 7 ∧ c = i) → (m_leave M w i).1 a w c d = M.1 a w c d := fun a c d e => by
    unfold m_leave m_release
    rw [z_up1, if_neg (by omega), z_up1, if_neg (by omega), z_up1, if_neg (by omega)]
  have rR : ∀ p, ¬ p_T i p → (n_clears Mr i).1 24 0 0 p = Mr.1 24 0 0 p := fun p e => by
    rw [rd_clears hi, if_neg (by unfold p_T at e; omega), if_neg (by unfold p_T at e; omega)]
  have rB : ∀ t, t < 24 → ∀ r, r < 4 → (n_clears Mr i).1 24 0 0 (550 + t) = nI r → ¬ t = i ∧ Mr.1 24 0 0 (550 + t) = nI r := fun t ht r hr e => by
    by_cases q : t = i
    · subst q
      rw [rd_clears hi, if_pos (.inl rfl)] at e
      exact (nm1 hr e).elim
    · rw [rR _ (by unfold p_T; omega)] at e
      exact ⟨q, e⟩
  have r0 : (n_clears Mr i).1 24 0 0 (454 + i) = 0 := by
    rw [rd_clears hi, if_neg (by omega), if_pos (by omega)]
  have r4 : (n_clears Mr i).1 24 0 0 (550 + i) = -1 := by rw [rd_clears hi, if_pos (.inl rfl)]
  have r5 : (n_clears Mr i).1 24 0 0 (574 + i) = -1 := by rw [rd_clears hi, if_pos (.inr (.inl rfl))]
  refine ⟨S_wC h1 (fun k _ => rM _ _ _ (by omega)) (fun p hp => rR p (by unfold p_T; omega)), S_jourW h2 (rM _ _ _ (by omega)) (fun p _ => rM _ _ _ (by omega)) (fun p hp => rR p (by unfold p_T; omega)), S_cntW h3 (fun k _ => rM _ _ _ (by omega)) (fun k _ => rR _ (by unfold p_T; omega)), fun j hj => ?_, fun j hj o => ?_, fun j hj => ?_, fun j k hj hk a b e => ?_, ⟨(rR 19 (by unfold p_T; omega)).trans h8.1, (rR 20 (by unfold p_T; omega)).trans h8.2⟩, fun r hr => S_RW hr id (h9 r hr) (C_eq0 (fun a c d e => rM _ _ _ (by omega))) ⟨fun p hp => rR p (by unfold P_own P_bd at hp; unfold p_T; omega), fun t ht e => ⟨(rB t ht r hr e).2, ?_⟩, ?_⟩ (Nat.le_refl _)⟩
  · by_cases q : j = i
    · subst q
      have m0 : (m_leave M w j).1 7 w j 0 = 0 := by
        unfold m_leave m_release
        rw [zn_upN (by decide), zn_upN (by decide), zn_upS]
      have m4 : (m_leave M w j).1 7 w j 4 = -1 := by
        unfold m_leave m_release
        rw [zn_upN (by decide), zn_upS]
      have m5 : (m_leave M w j).1 7 w j 5 = -1 := by
        unfold m_leave m_release
        rw [zn_upS]
      exact ⟨m0.trans r0.symm, m4.trans r4.symm, m5.trans r5.symm, .inl ⟨r0, r4, r5⟩⟩
    · exact S_TW hj (h4 j hj) (fun k _ => rM _ _ _ (by omega)) (fun p hp => rR p (by unfold p_T at *; omega))
  · by_cases q : j = i
    · subst q
      exact .inl r0
    · exact S_okW (h5 j hj o) (rR _ (by unfold p_T; omega)) (fun r _ => rR _ (by unfold p_T; omega)) (rR _ (by unfold p_T; omega)) (rR _ (by unfold p_T; omega)) (rR _ (by unfold p_T; omega))
  · by_cases q : j = i
    · subst q
      exact .inl r4
    · exact S_busyW (h6 j hj) (rR _ (by unfold p_T; omega)) (fun r _ => rR _ (by unfold p_T; omega)) (rR _ (by unfold p_T; omega))
  · have ne : ∀ t, (n_clears Mr i).1 24 0 0 (454 + t) = 1 → ¬ t = i := fun t z q => by
      subst q
      rw [r0] at z
      exact absurd z (by decide)
    have nj := ne j a
    have nk := ne k b
    rw [rR _ (by unfold p_T; omega)] at a b
    rw [rR (478 + j) (by unfold p_T; omega), rR (478 + k) (by unfold p_T; omega)] at e
    exact h7 j k hj hk a b e
  · unfold x_id
    have q := (rB t ht r hr e).1
    rw [rR (478 + t) (by unfold p_T; omega)]
  · rw [rR (350 + r) (by unfold p_T; omega)]
    by_cases q : Mr.1 24 0 0 (550 + i) = nI r
    · exact .inl (hcl r hr q)
    · refine .inr ⟨rfl, fun t ht e => ?_⟩
      have q2 : ¬ t = i := fun z => q (z ▸ e)
      rw [rR _ (by unfold p_T; omega)]
      exact e
theorem two_gone {J : zMem} {b : Nat} {t : Int32} (h : SB J b) : z_two J 124 184 [.inl t] b := by
  obtain ⟨T, c, hT, hc, hs⟩ := h.1
  have h4 := hs.2.2.2.1
  have hb : ∀ j, j < 24 → J.1 24 0 0 (550 + j) = -1 ∨ ∃ r, r < 4 ∧ J.1 24 0 0 (550 + j) = nI r := fun j hj => (hs.2.2.2.2.2.1 j hj).imp id (fun ⟨r, a, b, _⟩ => ⟨r, a, b⟩)
  by_cases ct : c_there J t
  · obtain ⟨j, hj, rfl, cl, it, hin⟩ := there_of h4 ct
    have same : ∀ q, (m_leave J 0 j).1 24 0 0 q = J.1 24 0 0 q := fun q => (fw_0 (@fw_leave 0 j J)).1 _ _ _ _ (by omega)
    generalize eJ : m_leave J 0 j = J2 at *
    have hs2 : SimZ z_F z_F J 0 J2 T c b := Sim_R hs same
    have hb2 : ∀ j, j < 24 → J2.1 24 0 0 (550 + j) = -1 ∨ ∃ r, r < 4 ∧ J2.1 24 0 0 (550 + j) = nI r := fun j hj => by
      rw [same]
      exact hb j hj
    have it2 : ¬ r_isTag J2 (nI j) = 0 := by
      unfold r_isTag at *
      rw [same]
      exact it
    have st := Sim_gone (Sim_uncl hs2 hj) hj (fun r hr e => by
      rw [uncl_o (by omega) (hb2 j hj)] at e
      exact uncl_at hr e)
    rw [eJ] at st
    refine two_s (J2 := J2) (J3 := n_clears (n_unclean J2 j) j) h (v := .inl 1) (fun _ K hK => ?_) (fun _ K hK => ?_) (by rw [← eJ]; exact fw_0 fw_leave) (fr_tr fr_uncl fr_clears) ⟨T, c, hT, by omega, Sim_b st (by omega)⟩
    · refine s9_gone (fun _ => ?_) (fun z => (z ct).elim)
      rw [cl, eJ]
      exact hK
    · refine s_mGone hb2 (fun _ => ?_) (fun z => (it2 z).elim)
      rw [cl]
      exact hK
  · refine two_q h (v := .inl 0) (fun _ K hK => s9_gone (fun z => (ct z).elim) (fun _ => hK)) (fun _ K hK => s_mGone hb (fun z => (ct ((there_iff h4 t).mpr z)).elim) (fun _ => hK))
/-! one tag settled, against all looked at -/
theorem Sim_settle1 {Z : Nat → Prop} {M Mr : zMem} {w T c b i : Nat} (h : SimZ Z (fun j => j = i) M w Mr T c b) (hi : i < 24) (hin : Mr.1 24 0 0 (454 + i) = 1) (hT : T < 2147483648) : SimZ Z z_F (m_settle M w i) w (n_looks Mr) T c b := by
  obtain ⟨t5, t0⟩ := Sim_t h
  have h4 := h.2.2.2.1
  have h9 := h.2.2.2.2.2.2.2.2
  have ho : S_on M w (Mr.1 24 0 0) := fun r hr => ⟨(h9 r hr).1.1 0 (by omega), (h9 r hr).2.1.1⟩
  obtain ⟨f1, f2, f3, f4, f5, f6⟩ := S_look hi (h4 i hi) hin ho t0 t5 hT h.2.2.1
  have others : ∀ j, j < 24 → ¬ j = i → S_ok (Mr.1 24 0 0) j := fun j hj ne => h.2.2.2.2.1 j hj ne
  rw [looks_one hi others (fun j hj ne => S_okT (others j hj ne) f5 hj hi ne)]
  have keep : ∀ p, (p = 454 + i ∨ p = 478 + i ∨ p = 502 + i ∨ p = 550 + i) → (f_look i Mr).1 24 0 0 p = Mr.1 24 0 0 p := fun p hp => by
    unfold f_look
    have up : ∀ x, (z_up Mr 24 0 0 (670 + i) x).1 24 0 0 p = Mr.1 24 0 0 p := fun x => zn_upN (by omega)
    have fd : ∀ N2 : zMem, (n_fades N2 i 0).1 24 0 0 p = N2.1 24 0 0 p := fun N2 => by
      unfold n_fades
      split
      · rfl
      · rw [zf_counts (by omega), rd_turns (by decide) hi, if_neg (by rw [if_neg (by decide)]; omega), if_neg (fun z => absurd z.1.1 (by decide))]
    split
    · rfl
    · split
      · rw [fd]
        split
        · exact up _
        · rfl
      · exact up _
  have st := Sim_tag (O := fun j => j = i) h hi f4 f5 f1 (fun o => (o rfl).elim) (fun k hk => keep _ (by omega)) (f3 9 (by omega))
  obtain ⟨g1, g2, g3, g4, g5, g6, g7, g8, g9⟩ := st
  refine ⟨g1, g2, g3, g4, fun j hj _ => ?_, g6, g7, g8, g9⟩
  by_cases q : j = i
  · subst q
    exact .inr ⟨f6, f2⟩
  · exact g5 j hj q
theorem Sim_reach {Z : Nat → Prop} {M Mr : zMem} {w T c b i z : Nat} (h : SimZ Z z_F M w Mr T c b) (hi : i < 24) (hin : Mr.1 24 0 0 (454 + i) = 1) (hz : z < 16) (hb : Mr.1 24 0 0 (550 + i) = -1 ∨ ∃ r, r < 4 ∧ Mr.1 24 0 0 (550 + i) = nI r ∧ ¬ r_has (nI z) (nI r) = 0) : SimZ Z (fun j => j = i) (z_up M 7 w i 2 (nI z)) w (z_up Mr 24 0 0 (502 + i) (nI z)) T c b := by
  obtain ⟨h1, h2, h3, h4, h5, h6, h7, h8, h9⟩ := h
  have oR : ∀ p, ¬ p = 502 + i → (z_up Mr 24 0 0 (502 + i) (nI z)).1 24 0 0 p = Mr.1 24 0 0 p := fun p hp => zn_upN hp
  have oM : ∀ a c d, ¬ a = 7 → (z_up M 7 w i 2 (nI z)).1 a w c d = M.1 a w c d := fun a c d e => zn_upO e
  have tM : t_M w i M (z_up M 7 w i 2 (nI z)) := t_Mup
  have tR : t_R i Mr (z_up Mr 24 0 0 (502 + i) (nI z)) := t_Rup (by unfold p_T; omega)
  refine ⟨S_wC h1 (fun k _ => oM _ _ _ (by omega)) (fun p hp => oR p (by omega)), S_jourW h2 (oM _ _ _ (by omega)) (fun p _ => oM _ _ _ (by omega)) (fun p hp => oR p (by omega)), S_cntW h3 (fun k _ => oM _ _ _ (by omega)) (fun k _ => oR _ (by omega)), fun j hj => ?_, fun j hj o => S_okW (h5 j hj (fun y => y)) (oR _ (by omega)) (fun r _ => oR _ (by omega)) (oR _ (by omega)) (oR _ (by omega)) (oR _ (by omega)), fun j hj => ?_, S_idsW h7 (fun j hj => ⟨oR _ (by omega), oR _ (by omega)⟩), ⟨(oR 19 (by omega)).trans h8.1, (oR 20 (by omega)).trans h8.2⟩, fun r hr => S_RW hr id (h9 r hr) (C_eq0 (fun a c d e => oM _ _ _ (by omega))) (R_eq0 hr (fun p p1 p2 => oR p (by omega))) (Nat.le_refl _)⟩
  · by_cases e : j = i
    · subst e
      have := S_upd (k := 2) (x := nI z) hj (h4 j hj) hin (.inr (.inl rfl)) (fun _ => ⟨z, hz, rfl⟩)
      rw [show 454 + 24 * 2 + j = 502 + j by omega] at this
      exact this
    · exact t_other (h4 j hj) tM tR hj hi e
  · by_cases e : j = i
    · subst e
      have q := h6 j hj
      unfold S_busy at *
      rw [oR _ (by omega), zn_upS]
      rcases hb with y | ⟨r, r1, r2, r3⟩
      · exact .inl y
      · refine .inr ⟨r, r1, r2, ?_, r3⟩
        rw [oR _ (by omega)]
        rcases q with y | ⟨s, s1, s2, s3, s4⟩
        · rw [y] at r2
          exact (nm1 r1 r2).elim
        · have : s = r := (nI_eq (by omega) (by omega)).mp (s2.symm.trans r2)
          subst this
          exact s3
    · exact S_busyW (h6 j hj) (oR _ (by omega)) (fun r _ => oR _ (by omega)) (oR _ (by omega))
theorem Sim_free1 {Z O : Nat → Prop} {M Mr : zMem} {w T c b i : Nat} (h : SimZ Z O M w Mr T c b) (hi : i < 24) (hcl : ∀ r, r < 4 → Mr.1 24 0 0 (550 + i) = nI r → Mr.1 24 0 0 (350 + r) = 0) : SimZ Z O (m_release M w i) w (n_isFree Mr i) T c b := by
  obtain ⟨h1, h2, h3, h4, h5, h6, h7, h8, h9⟩ := h
  have rM : ∀ a c d, ¬ (a = 7 ∧ c = i ∧ (d = 4 ∨ d = 5)) → (m_release M w i).1 a w c d = M.1 a w c d := fun a c d e => by
    unfold m_release
    rw [z_up1, if_neg (by omega), z_up1, if_neg (by omega)]
  have rR : ∀ p, ¬ p = 550 + i → ¬ p = 574 + i → (n_isFree Mr i).1 24 0 0 p = Mr.1 24 0 0 p := fun p e1 e2 => by
    unfold n_isFree
    rw [zn_upN e2, zn_upN e1]
  have r4 : (n_isFree Mr i).1 24 0 0 (550 + i) = -1 := by
    unfold n_isFree
    rw [zn_upN (by omega), zn_upS]
  have r5 : (n_isFree Mr i).1 24 0 0 (574 + i) = -1 := zn_upS
  have m4 : (m_release M w i).1 7 w i 4 = -1 := by
    unfold m_release
    rw [zn_upN (by decide), zn_upS]
  have m5 : (m_release M w i).1 7 w i 5 = -1 := zn_upS
  have rB : ∀ t, t < 24 → ∀ r, r < 4 → (n_isFree Mr i).1 24 0 0 (550 + t) = nI r → ¬ t = i ∧ Mr.1 24 0 0 (550 + t) = nI r := fun t ht r hr e => by
    by_cases q : t = i
    · subst q
      rw [r4] at e
      exact (nm1 hr e).elim
    · rw [rR _ (by omega) (by omega)] at e
      exact ⟨q, e⟩
  refine ⟨S_wC h1 (fun k _ => rM _ _ _ (by omega)) (fun p hp => rR p (by omega) (by omega)), S_jourW h2 (rM _ _ _ (by omega)) (fun p _ => rM _ _ _ (by omega)) (fun p hp => rR p (by omega) (by omega)), S_cntW h3 (fun k _ => rM _ _ _ (by omega)) (fun k _ => rR _ (by omega) (by omega)), fun j hj => ?_, fun j hj o => S_okW (h5 j hj o) (rR _ (by omega) (by omega)) (fun r _ => rR _ (by omega) (by omega)) (rR _ (by omega) (by omega)) (rR _ (by omega) (by omega)) (rR _ (by omega) (by omega)), fun j hj => ?_, S_idsW h7 (fun j _ => ⟨rR _ (by omega) (by omega), rR _ (by omega) (by omega)⟩), ⟨(rR 19 (by omega) (by omega)).trans h8.1, (rR 20 (by omega) (by omega)).trans h8.2⟩, fun r hr => S_RW hr id (h9 r hr) (C_eq0 (fun a c d e => rM _ _ _ (by omega))) ⟨fun p hp => rR p (by unfold P_own P_bd at hp; omega) (by unfold P_own P_bd at hp; omega), fun t ht e => ⟨(rB t ht r hr e).2, by unfold x_id; rw [rR (478 + t) (by omega) (by omega)]⟩, ?_⟩ (Nat.le_refl _)⟩
  · by_cases q : j = i
    · subst q
      exact S_T45 (h4 j hj) (fun k hk k4 k5 => rM _ _ _ (by omega)) (fun p hp p4 p5 => rR p p4 p5) (m4.trans r4.symm) (m5.trans r5.symm) (fun _ => ⟨r4, r5⟩) hj
    · exact S_TW hj (h4 j hj) (fun k _ => rM _ _ _ (by omega)) (fun p hp => rR p (by unfold p_T at hp; omega) (by unfold p_T at hp; omega))
  · by_cases q : j = i
    · subst q
      exact .inl r4
    · exact S_busyW (h6 j hj) (rR _ (by omega) (by omega)) (fun r _ => rR _ (by omega) (by omega)) (rR _ (by omega) (by omega))
  · rw [rR (350 + r) (by omega) (by omega)]
    by_cases q : Mr.1 24 0 0 (550 + i) = nI r
    · exact .inl (hcl r hr q)
    · refine .inr ⟨rfl, fun t ht e => ?_⟩
      have q2 : ¬ t = i := fun z => q (z ▸ e)
      rw [rR _ (by omega) (by omega)]
      exact e
theorem z_upC {M : zMem} {kd w i k k2 : Nat} {x y : Int32} (h : ¬ k = k2) : z_up (z_up M kd w i k x) kd w i k2 y = z_up (z_up M kd w i k2 y) kd w i k x := by
  unfold z_up
  refine Prod.ext ?_ rfl
  funext a b c d
  dsimp only
  by_cases e : a = kd ∧ b = w ∧ c = i ∧ d = k2
  · rw [if_pos e, if_neg (show ¬ (a = kd ∧ b = w ∧ c = i ∧ d = k) by omega), if_pos e]
  · rw [if_neg e, if_neg e]
