/-! move, tag -/
theorem set_N {x : Int32} : ¬ r_isSet x = 0 ↔ ¬ r_isIn x 0 (nI 15) = 0 := by
  unfold r_isSet
  rw [isIn_N (by decide)]
  constructor
  · intro h
    have h2 : ¬ x < 0 ∧ ¬ x ≥ 16 := Classical.byContradiction (fun z => h (if_neg z))
    obtain ⟨j, hj, rfl⟩ := nI_of h2.1
    have h3 : ¬ nI 16 ≤ nI j := h2.2
    rw [nI_leI (by decide) hj] at h3
    exact ⟨j, by omega, rfl⟩
  · rintro ⟨j, hj, rfl⟩
    rw [if_pos ⟨nI_pos (by omega), nI_ge (b := 16) (by omega) (by omega)⟩]
    decide
theorem rel_2 {M : zMem} {w i : Nat} {x : Int32} : m_release (z_up M 7 w i 2 x) w i = z_up (m_release M w i) 7 w i 2 x := by
  unfold m_release
  rw [z_upC (show ¬ 2 = 4 by decide), z_upC (show ¬ 2 = 5 by decide)]
theorem free_2 {M : zMem} {i : Nat} {x : Int32} (hi : i < 24) : n_isFree (z_up M 24 0 0 (502 + i) x) i = z_up (n_isFree M i) 24 0 0 (502 + i) x := by
  unfold n_isFree
  rw [z_upC (show ¬ 502 + i = 550 + i by omega), z_upC (show ¬ 502 + i = 574 + i by omega)]
theorem Sim_move {Z : Nat → Prop} {M Mr : zMem} {w T c b i z : Nat} (h : SimZ Z z_F M w Mr T c b) (hi : i < 24) (hin : Mr.1 24 0 0 (454 + i) = 1) (hz : z < 16) (hT : T < 2147483648) : SimZ Z z_F (m_carry M w i (nI z)) w (n_move Mr i (nI z)) T c b := by
  have hb : Mr.1 24 0 0 (550 + i) = -1 ∨ ∃ r, r < 4 ∧ Mr.1 24 0 0 (550 + i) = nI r := (h.2.2.2.2.2.1 i hi).imp id (fun ⟨r, a, b, _⟩ => ⟨r, a, b⟩)
  have b4 := (T_bs (h.2.2.2.1 i hi)).1
  have u := Sim_uncl h hi
  have uo : ∀ p, p < 350 ∨ 354 ≤ p → (n_unclean Mr i).1 24 0 0 p = Mr.1 24 0 0 p := fun p hp => uncl_o hp hb
  unfold m_carry n_move
  have rb : r_isReachedBy (z_up M 7 w i 2 (nI z)) w i (M.1 7 w i 4) = r_has (nI z) (Mr.1 24 0 0 (550 + i)) := by
    rw [b4]
    unfold r_isReachedBy
    rw [zn_upS]
    rfl
  by_cases c0 : ¬ Mr.1 24 0 0 (550 + i) = -1 ∧ r_has (nI z) (Mr.1 24 0 0 (550 + i)) = 0
  · have e1 : m_carry1 M w i (nI z) = m_cnt (z_up (m_release M w i) 7 w i 2 (nI z)) w 7 1 := by
      unfold m_carry1
      rw [rb, b4, if_pos c0, rel_2]
      rfl
    have e2 : n_move2 Mr i (nI z) = n_counts (z_up (n_isFree (n_unclean Mr i) i) 24 0 0 (502 + i) (nI z)) 7 1 := by
      unfold n_move2
      rw [if_pos c0]
      unfold n_move1
      rw [free_2 hi]
    rw [e1, e2]
    have f := Sim_free1 u hi (fun r hr e => by
      rw [uo _ (by omega)] at e
      exact uncl_at hr e)
    have fin : (n_isFree (n_unclean Mr i) i).1 24 0 0 (454 + i) = 1 := by
      unfold n_isFree
      rw [zn_upN (by omega), zn_upN (by omega), uo _ (by omega)]
      exact hin
    have f4 : (n_isFree (n_unclean Mr i) i).1 24 0 0 (550 + i) = -1 := by
      unfold n_isFree
      rw [zn_upN (by omega), zn_upS]
    refine Sim_settle1 (Sim_cnt (k := 7) (x := 1) (Sim_reach f hi fin hz (.inl f4)) (by omega)) hi ?_ hT
    rw [zf_counts (by omega), zn_upN (by omega)]
    exact fin
  · have e1 : m_carry1 M w i (nI z) = z_up M 7 w i 2 (nI z) := by
      unfold m_carry1
      rw [rb, b4, if_neg c0]
    have e2 : n_move2 Mr i (nI z) = z_up (n_unclean Mr i) 24 0 0 (502 + i) (nI z) := by
      unfold n_move2
      rw [if_neg c0]
      rfl
    rw [e1, e2]
    refine Sim_settle1 (Sim_reach u hi ((uo _ (by omega)).trans hin) hz ?_) hi ?_ hT
    · rw [uo _ (by omega)]
      refine hb.imp id (fun ⟨r, r1, r2⟩ => ⟨r, r1, r2, fun y => c0 ⟨?_, ?_⟩⟩)
      · rw [r2]
        exact fun q => nm1 r1 q.symm
      · rw [r2]
        exact y
    · rw [zn_upN (by omega), uo _ (by omega)]
      exact hin
theorem two_move {J : zMem} {b : Nat} {t x : Int32} (h : SB J b) : z_two J 125 186 [.inl t, .inl x] b := by
  obtain ⟨T, c, hT, hc, hs⟩ := h.1
  have h4 := hs.2.2.2.1
  have hb : ∀ j, j < 24 → J.1 24 0 0 (550 + j) = -1 ∨ ∃ r, r < 4 ∧ J.1 24 0 0 (550 + j) = nI r := fun j hj => (hs.2.2.2.2.2.1 j hj).imp id (fun ⟨r, a, b, _⟩ => ⟨r, a, b⟩)
  by_cases ct : c_there J t ∧ ¬ r_isIn x 0 (nI 15) = 0
  · obtain ⟨ct, cx⟩ := ct
    obtain ⟨j, hj, rfl, cl, it, hin⟩ := there_of h4 ct
    obtain ⟨z, hz, rfl⟩ := (isIn_N (by decide)).mp cx
    have same : ∀ q, (m_carry J 0 j (nI z)).1 24 0 0 q = J.1 24 0 0 q := fun q => (fw_0 (@fw_carry 0 j J (nI z))).1 _ _ _ _ (by omega)
    generalize eJ : m_carry J 0 j (nI z) = J2 at *
    have hs2 : SimZ z_F z_F J 0 J2 T c b := Sim_R hs same
    have hb2 : ∀ j, j < 24 → J2.1 24 0 0 (550 + j) = -1 ∨ ∃ r, r < 4 ∧ J2.1 24 0 0 (550 + j) = nI r := fun j hj => by
      rw [same]
      exact hb j hj
    have it2 : ¬ r_isTag J2 (nI j) = 0 := by
      unfold r_isTag at *
      rw [same]
      exact it
    have st := Sim_move (z := z) hs2 hj ((same _).trans hin) (by omega) (by omega)
    rw [eJ] at st
    refine two_s (J2 := J2) (J3 := n_move J2 j (nI z)) h (v := .inl 1) (fun _ K hK => ?_) (fun _ K hK => ?_) (by rw [← eJ]; exact fw_0 fw_carry) fr_move ⟨T, c, hT, by omega, Sim_b st (by omega)⟩
    · refine w9_move (v := 1) (M2 := J2) (.inr rfl) (fun K2 q => s_carry (fun y => ?_) (fun _ _ => ?_)) hK
      · exact (y.elim (fun y => ct y) (fun y => set_N.mpr cx y)).elim
      · rw [cl, eJ]
        exact q
    · refine s_mMove hb2 (fun _ _ => ?_) (fun y => (y.elim it2 cx).elim)
      rw [cl]
      exact hK
  · have bad : (t < 0 ∨ t ≥ 24 ∨ J.1 7 0 t.toNatClampNeg 0 = 0) ∨ r_isSet x = 0 := by
      by_cases c1 : c_there J t
      · exact .inr (Classical.byContradiction (fun y => ct ⟨c1, set_N.mp y⟩))
      · exact .inl (Classical.not_not.mp c1)
    have bad2 : r_isTag J t = 0 ∨ r_isIn x 0 (nI 15) = 0 := by
      by_cases c1 : c_there J t
      · exact .inr (Classical.byContradiction (fun y => ct ⟨c1, y⟩))
      · exact .inl (Classical.byContradiction (fun y => c1 ((there_iff h4 t).mpr y)))
    refine two_q h (v := .inl 0) (fun _ K hK => ?_) (fun _ K hK => s_mMove hb (fun y1 y2 => (bad2.elim y1 y2).elim) (fun _ => hK))
    exact w9_move (v := 0) (M2 := J) (.inl rfl) (fun K2 q => s_carry (fun _ => q) (fun y1 y2 => (bad.elim y1 y2).elim)) hK
def n_arr (M : zMem) (i : Nat) (x r : Int32) : zMem := z_up (z_up (z_up (n_clears M i) 24 0 0 (454 + i) 1) 24 0 0 (478 + i) x) 24 0 0 (502 + i) r
theorem rd_arr {M : zMem} {i p : Nat} {x r : Int32} (hi : i < 24) : (n_arr M i x r).1 24 0 0 p = if p = 454 + i then 1 else if p = 478 + i then x else if p = 502 + i then r else if p = 550 + i ∨ p = 574 + i ∨ p = 622 + i ∨ p = 670 + i then -1 else if (454 ≤ p ∧ p < 718 ∧ (p - 454) % 24 = i) ∨ (718 + 4 * i ≤ p ∧ p < 722 + 4 * i) then 0 else (M.1 24 0 0 (p)) := by
  unfold n_arr
  by_cases e0 : p = 454 + i
  · rw [if_pos e0, zn_upN (by omega), zn_upN (by omega), e0, zn_upS]
  · rw [if_neg e0]
    by_cases e1 : p = 478 + i
    · rw [if_pos e1, zn_upN (by omega), e1, zn_upS]
    · rw [if_neg e1]
      by_cases e2 : p = 502 + i
      · rw [if_pos e2, e2, zn_upS]
      · rw [if_neg e2, zn_upN e2, zn_upN e1, zn_upN e0, rd_clears hi]
theorem arr_T {M Mr : zMem} {w T i z : Nat} {x : Int32} (h : S_T M w Mr T i) (hi : i < 24) (h0 : Mr.1 24 0 0 (454 + i) = 0) (hz : z < 16) : S_T (m_arrive M w i x (nI z)) w (n_arr Mr i x (nI z)) T i := by
  obtain ⟨z4, z5⟩ := T_away h h0
  obtain ⟨q4, q5, -⟩ := T_bs h
  have c : ∀ k, (m_arrive M w i x (nI z)).1 7 w i k = if k = 9 then -1 else if k = 7 then -1 else if k = 6 then 0 else if k = 3 then 0 else if k = 2 then nI z else if k = 1 then x else if k = 0 then 1 else M.1 7 w i k := fun k => by
    unfold m_arrive
    simp only [z_up1, true_and]
  have g : ∀ k, k < 11 → g_R ((n_arr Mr i x (nI z)).1 24 0 0) i k = if k = 0 then 1 else if k = 1 then x else if k = 2 then nI z else if k = 4 ∨ k = 5 ∨ k = 7 ∨ k = 9 then -1 else 0 := fun k hk => by
    unfold g_R
    rw [rd_arr hi]
    by_cases e0 : k = 0
    · rw [if_pos e0, if_pos (by omega)]
    · rw [if_neg e0, if_neg (by omega)]
      by_cases e1 : k = 1
      · rw [if_pos e1, if_pos (by omega)]
      · rw [if_neg e1, if_neg (by omega)]
        by_cases e2 : k = 2
        · rw [if_pos e2, if_pos (by omega)]
        · rw [if_neg e2, if_neg (by omega)]
          by_cases e3 : k = 4 ∨ k = 5 ∨ k = 7 ∨ k = 9
          · rw [if_pos e3, if_pos (by omega)]
          · rw [if_neg e3, if_neg (by omega), if_pos (by omega)]
  have f : ∀ f, f < 5 → f_R ((n_arr Mr i x (nI z)).1 24 0 0) i f = 0 := fun f hf => by
    unfold f_R
    split
    · rw [rd_arr hi, if_neg (by omega), if_neg (by omega), if_neg (by omega), if_neg (by omega), if_pos (by omega)]
    · rw [rd_arr hi, if_neg (by omega), if_neg (by omega), if_neg (by omega), if_neg (by omega), if_pos (by omega)]
  have p0 : (0 : Int32) = nI 0 := rfl
  refine ⟨?_, ?_, ?_, .inr ⟨?_, ?_, ?_, ?_, ?_, ?_, ⟨z, hz, ?_⟩, .inl ?_, 0, by omega, ?_, fun k hk => ?_, fun y => ?_⟩⟩
  · rw [c 0, g 0 (by omega)]
    rfl
  · rw [c 4, g 4 (by omega)]
    show M.1 7 w i 4 = -1
    rw [q4, z4]
  · rw [c 5, g 5 (by omega)]
    show M.1 7 w i 5 = -1
    rw [q5, z5]
  · rw [g 0 (by omega)]
    rfl
  · rw [c 1, g 1 (by omega)]
    rfl
  · rw [c 2, g 2 (by omega)]
    rfl
  · rw [c 6, g 6 (by omega)]
    rfl
  · rw [c 7, g 7 (by omega)]
    rfl
  · rw [c 9, g 9 (by omega)]
    rfl
  · rw [g 2 (by omega)]
    rfl
  · rw [g 9 (by omega)]
    rfl
  · rw [c 3]
    rfl
  · rw [f k hk, Nat.zero_div]
    rfl
  · exact absurd y (by decide)
theorem Sim_arrive {Z : Nat → Prop} {M Mr : zMem} {w T c b i z : Nat} {x : Int32} (h : SimZ Z z_F M w Mr T c b) (hi : i < 24) (h0 : Mr.1 24 0 0 (454 + i) = 0) (hz : z < 16) (hx : ∀ j, j < 24 → Mr.1 24 0 0 (454 + j) = 1 → ¬ z_ush (Mr.1 24 0 0 (478 + j)) 16 = z_ush x 16) : SimZ Z (fun j => j = i) (m_arrive M w i x (nI z)) w (n_arr Mr i x (nI z)) T c b := by
  obtain ⟨h1, h2, h3, h4, h5, h6, h7, h8, h9⟩ := h
  have rM : ∀ a c d, ¬ (a = 7 ∧ c = i) → (m_arrive M w i x (nI z)).1 a w c d = M.1 a w c d := fun a c d e => by
    unfold m_arrive
    simp only [z_up1]
    rw [if_neg (by omega), if_neg (by omega), if_neg (by omega), if_neg (by omega), if_neg (by omega), if_neg (by omega), if_neg (by omega)]
  have rR : ∀ p, ¬ p_T i p → (n_arr Mr i x (nI z)).1 24 0 0 p = Mr.1 24 0 0 p := fun p e => by
    unfold p_T at e
    rw [rd_arr hi, if_neg (by omega), if_neg (by omega), if_neg (by omega), if_neg (by omega), if_neg (by omega)]
  have r4 : (n_arr Mr i x (nI z)).1 24 0 0 (550 + i) = -1 := by
    rw [rd_arr hi, if_neg (by omega), if_neg (by omega), if_neg (by omega), if_pos (.inl rfl)]
  have rx : (n_arr Mr i x (nI z)).1 24 0 0 (478 + i) = x := by
    rw [rd_arr hi, if_neg (by omega), if_pos rfl]
  have z4 := (T_away (h4 i hi) h0).1
  have rB : ∀ t, t < 24 → ∀ r, r < 4 → (n_arr Mr i x (nI z)).1 24 0 0 (550 + t) = nI r → ¬ t = i ∧ Mr.1 24 0 0 (550 + t) = nI r := fun t ht r hr e => by
    by_cases q : t = i
    · subst q
      rw [r4] at e
      exact (nm1 hr e).elim
    · rw [rR _ (by unfold p_T; omega)] at e
      exact ⟨q, e⟩
  refine ⟨S_wC h1 (fun k _ => rM _ _ _ (by omega)) (fun p hp => rR p (by unfold p_T; omega)), S_jourW h2 (rM _ _ _ (by omega)) (fun p _ => rM _ _ _ (by omega)) (fun p hp => rR p (by unfold p_T; omega)), S_cntW h3 (fun k _ => rM _ _ _ (by omega)) (fun k _ => rR _ (by unfold p_T; omega)), fun j hj => ?_, fun j hj o => S_okW (h5 j hj (fun y => y)) (rR _ (by unfold p_T; omega)) (fun r _ => rR _ (by unfold p_T; omega)) (rR _ (by unfold p_T; omega)) (rR _ (by unfold p_T; omega)) (rR _ (by unfold p_T; omega)), fun j hj => ?_, fun j k hj hk a b e => ?_, ⟨(rR 19 (by unfold p_T; omega)).trans h8.1, (rR 20 (by unfold p_T; omega)).trans h8.2⟩, fun r hr => S_RW hr id (h9 r hr) (C_eq0 (fun a c d e => rM _ _ _ (by omega))) ⟨fun p hp => rR p (by unfold P_own P_bd at hp; unfold p_T; omega), fun t ht e => ⟨(rB t ht r hr e).2, ?_⟩, .inr ⟨rR _ (by unfold p_T; omega), fun t ht e => ?_⟩⟩ (Nat.le_refl _)⟩
  · by_cases q : j = i
    · subst q
      exact arr_T (h4 j hj) hj h0 hz
    · exact S_TW hj (h4 j hj) (fun k _ => rM _ _ _ (by omega)) (fun p hp => rR p (by unfold p_T at *; omega))
  · by_cases q : j = i
    · subst q
      exact .inl r4
    · exact S_busyW (h6 j hj) (rR _ (by unfold p_T; omega)) (fun r _ => rR _ (by unfold p_T; omega)) (rR _ (by unfold p_T; omega))
  · by_cases q : j = i
    · by_cases q2 : k = i
      · rw [q, q2]
      · subst q
        rw [rR (454 + k) (by unfold p_T; omega)] at b
        rw [rx, rR (478 + k) (by unfold p_T; omega)] at e
        exact (hx k hk b e.symm).elim
    · rw [rR (454 + j) (by unfold p_T; omega)] at a
      rw [rR (478 + j) (by unfold p_T; omega)] at e
      by_cases q2 : k = i
      · subst q2
        rw [rx] at e
        exact (hx j hj a e).elim
      · rw [rR (454 + k) (by unfold p_T; omega)] at b
        rw [rR (478 + k) (by unfold p_T; omega)] at e
        exact h7 j k hj hk a b e
  · unfold x_id
    have q := (rB t ht r hr e).1
    rw [rR (478 + t) (by unfold p_T; omega)]
  · have q : ¬ t = i := fun y => by
      subst y
      rw [z4] at e
      exact nm1 hr e
    rw [rR _ (by unfold p_T; omega)]
    exact e
theorem come_iff {J : zMem} {T c b : Nat} {t x r : Int32} (hs : SimZ z_F z_F J 0 J T c b) : c_come J 0 t x r ↔ c_mTag J t x r := by
  have h4 := hs.2.2.2.1
  have e24 := cls_in (k := t) (N := 23) (by decide)
  have e24' : r_isIn t 0 (nI 23) = 0 ↔ (t < 0 ∨ t ≥ 24) := e24
  have ids : z_ex (p_come J 0 x) 24 0 = false ↔ ∀ i, i < 24 → ¬ (J.1 24 0 0 (454 + i) = 1 ∧ r_idOf J i = z_ush x 16) := by
    have one : ∀ i, i < 24 → (p_come J 0 x i = true ↔ (J.1 24 0 0 (454 + i) = 1 ∧ r_idOf J i = z_ush x 16)) := fun i hi => by
      obtain ⟨q1, q2⟩ := S_01 (h4 i hi)
      unfold p_come
      rw [decide_eq_true_iff, q1]
      rcases q2 with q2 | q2
      · rw [q2]
        exact ⟨fun y => (y.1 rfl).elim, fun y => absurd y.1 (by decide)⟩
      · rw [e_id (h4 i hi) q2, q2]
        exact ⟨fun y => ⟨rfl, y.2⟩, fun y => ⟨by decide, y.2⟩⟩
    rw [← Bool.not_eq_true, ex_iff]
    exact ⟨fun y i hi q => y ⟨i, by omega, by omega, (one i hi).mpr q⟩, fun y ⟨i, _, hi, q⟩ => y i (by omega) ((one i (by omega)).mp q)⟩
  unfold c_come c_mTag
  rw [ids]
  constructor
  · rintro ⟨a1, a2, a3, a4, a5⟩
    have c1 : ¬ r_isIn t 0 (nI 23) = 0 := fun y => (e24'.mp y).elim a1 a2
    obtain ⟨j, hj, rfl⟩ := (isIn_N (by decide)).mp c1
    have cl : (nI j).toNatClampNeg = j := nI_clamp (by omega)
    rw [cl] at a3 ⊢
    rw [(S_01 (h4 j (by omega))).1] at a3
    exact ⟨c1, by rw [a3]; decide, set_N.mp a4, a5⟩
  · rintro ⟨a1, a2, a3, a4⟩
    obtain ⟨j, hj, rfl⟩ := (isIn_N (by decide)).mp a1
    have cl : (nI j).toNatClampNeg = j := nI_clamp (by omega)
    rw [cl] at a2 ⊢
    obtain ⟨q1, q2⟩ := S_01 (h4 j (by omega))
    rw [q1]
    exact ⟨nI_pos (by omega), nI_ge (b := 24) (by omega) (by omega), q2.resolve_right a2, set_N.mpr a3, a4⟩
theorem two_tag {J : zMem} {b : Nat} {t x r : Int32} (h : SB J b) : z_two J 123 183 [.inl t, .inl x, .inl r] b := by
  obtain ⟨T, c, hT, hc, hs⟩ := h.1
  have h4 := hs.2.2.2.1
  have key := come_iff (t := t) (x := x) (r := r) hs
  by_cases e : c_come J 0 t x r
  · have em := key.mp e
    obtain ⟨e1, e2, e3, e4⟩ := id em
    obtain ⟨j, hj, rfl⟩ := (isIn_N (by decide)).mp e1
    obtain ⟨z, hz, rfl⟩ := (isIn_N (by decide)).mp e3
    have cl : (nI j).toNatClampNeg = j := nI_clamp (by omega)
    rw [cl] at e2
    have h0 := (S_01 (h4 j (by omega))).2.resolve_right e2
    have same : ∀ q, (m_come J 0 (nI j) x (nI z)).1 24 0 0 q = J.1 24 0 0 q := fun q => (fw_0 (@fw_come 0 J (nI j) x (nI z))).1 _ _ _ _ (by omega)
    have em2 : c_mTag (m_come J 0 (nI j) x (nI z)) (nI j) x (nI z) := by
      unfold c_mTag r_idOf at *
      simp only [same]
      exact em
    have eM : m_come J 0 (nI j) x (nI z) = m_settle (m_arrive J 0 j x (nI z)) 0 j := by
      unfold m_come
      rw [cl]
    generalize eJ : m_come J 0 (nI j) x (nI z) = J2 at *
    have hs2 : SimZ z_F z_F J 0 J2 T c b := Sim_R hs same
    have st := Sim_settle1 (Sim_arrive (z := z) (x := x) hs2 (show j < 24 by omega) ((same _).trans h0) (by omega) (fun i hi y1 y2 => by
      rw [same] at y1 y2
      exact e4 i hi ⟨y1, y2⟩)) (by omega) (by rw [rd_arr (by omega), if_pos rfl]) (by omega)
    rw [← eM] at st
    refine two_s (J2 := J2) (J3 := n_tag J2 j x (nI z)) h (v := .inl 1) (fun _ K hK => ?_) (fun _ K hK => ?_) (by rw [← eJ]; exact fw_0 fw_come) fr_tag ⟨T, c, hT, by omega, Sim_b st (by omega)⟩
    · exact w9_tag (v := 1) (M2 := J2) (.inr rfl) (fun K2 q => s_come (fun _ => by rw [eJ]; exact q) (fun y => (y e).elim)) hK
    · refine s_mTag (fun _ => ?_) (fun y => (y em2).elim)
      rw [cl]
      exact hK
  · refine two_q h (v := .inl 0) (fun _ K hK => ?_) (fun _ K hK => s_mTag (fun y => (e (key.mpr y)).elim) (fun _ => hK))
    exact w9_tag (v := 0) (M2 := J) (.inl rfl) (fun K2 q => s_come (fun y => (e y).elim) (fun _ => q)) hK
