/-! breaks: stop, power -/
theorem rd_rel {w : Nat} {x : Int32} {M : zMem} : ∀ n, n ≤ 24 → ∀ a b c d, (z_it (f_rel w x) n M).1 a b c d = if (a = 7 ∧ b = w ∧ c < n ∧ (d = 4 ∨ d = 5)) ∧ M.1 7 w c 4 = x then -1 else M.1 a b c d
  | 0, _, a, b, c, d => by
    rw [if_neg (by omega)]
    rfl
  | n + 1, hn, a, b, c, d => by
    have ih := rd_rel (w := w) (x := x) (M := M) n (by omega)
    have e4 : (z_it (f_rel w x) n M).1 7 w n 4 = M.1 7 w n 4 := by rw [ih, if_neg (by omega)]
    rw [z_itS, f_rel, e4]
    by_cases q : M.1 7 w n 4 = x
    · rw [if_pos q]
      unfold m_release
      rw [z_up1, z_up1, ih]
      by_cases p : a = 7 ∧ b = w ∧ c = n ∧ (d = 4 ∨ d = 5)
      · obtain ⟨rfl, rfl, rfl, p4⟩ := p
        refine Eq.trans ?_ (if_pos ⟨⟨rfl, rfl, by omega, p4⟩, q⟩).symm
        rcases p4 with rfl | rfl
        · rw [if_neg (by omega), if_pos ⟨rfl, rfl, rfl, rfl⟩]
        · rw [if_pos ⟨rfl, rfl, rfl, rfl⟩]
      · rw [if_neg (by omega), if_neg (by omega)]
        by_cases p2 : (a = 7 ∧ b = w ∧ c < n ∧ (d = 4 ∨ d = 5)) ∧ M.1 7 w c 4 = x
        · rw [if_pos p2, if_pos ⟨by omega, p2.2⟩]
        · rw [if_neg p2, if_neg (fun z => p2 ⟨by omega, z.2⟩)]
    · rw [if_neg q, ih]
      by_cases p2 : (a = 7 ∧ b = w ∧ c < n ∧ (d = 4 ∨ d = 5)) ∧ M.1 7 w c 4 = x
      · rw [if_pos p2, if_pos ⟨by omega, p2.2⟩]
      · rw [if_neg p2, if_neg (fun z => ?_)]
        obtain ⟨z1, z2⟩ := z
        rcases Nat.lt_or_ge c n with l | l
        · exact p2 ⟨by omega, z2⟩
        · obtain rfl : c = n := by omega
          exact q z2
theorem rd_frees0 {x : Int32} {M : zMem} : ∀ n, n ≤ 24 → ∀ p, (z_it (f_mFrees x) n M).1 24 0 0 p = if (550 ≤ p ∧ p < 550 + n ∧ (M.1 24 0 0 (p)) = x) ∨ (574 ≤ p ∧ p < 574 + n ∧ (M.1 24 0 0 (p - 24)) = x) then -1 else (M.1 24 0 0 (p))
  | 0, _, p => by
    rw [if_neg (by omega)]
    rfl
  | n + 1, hn, p => by
    have ih := rd_frees0 (x := x) (M := M) n (by omega)
    have e4 : (z_it (f_mFrees x) n M).1 24 0 0 (550 + n) = (M.1 24 0 0 (550 + n)) := by rw [ih, if_neg (by omega)]
    rw [z_itS, f_mFrees, e4]
    by_cases q : (M.1 24 0 0 (550 + n)) = x
    · rw [if_pos q]
      unfold n_isFree
      by_cases p5 : p = 574 + n
      · subst p5
        rw [zn_upS, if_pos (.inr ⟨by omega, by omega, by rw [show 574 + n - 24 = 550 + n by omega]; exact q⟩)]
      · by_cases p4 : p = 550 + n
        · subst p4
          rw [zn_upN p5, zn_upS, if_pos (.inl ⟨by omega, by omega, q⟩)]
        · rw [zn_upN p5, zn_upN p4, ih]
          by_cases c : (550 ≤ p ∧ p < 550 + n ∧ (M.1 24 0 0 (p)) = x) ∨ (574 ≤ p ∧ p < 574 + n ∧ (M.1 24 0 0 (p - 24)) = x)
          · rw [if_pos c, if_pos (c.imp (fun z => ⟨z.1, by omega, z.2.2⟩) (fun z => ⟨z.1, by omega, z.2.2⟩))]
          · rw [if_neg c, if_neg (fun z => c (z.imp (fun z => ⟨z.1, by omega, z.2.2⟩) (fun z => ⟨z.1, by omega, z.2.2⟩)))]
    · rw [if_neg q, ih]
      by_cases c : (550 ≤ p ∧ p < 550 + n ∧ (M.1 24 0 0 (p)) = x) ∨ (574 ≤ p ∧ p < 574 + n ∧ (M.1 24 0 0 (p - 24)) = x)
      · rw [if_pos c, if_pos (c.imp (fun z => ⟨z.1, by omega, z.2.2⟩) (fun z => ⟨z.1, by omega, z.2.2⟩))]
      · rw [if_neg c, if_neg (fun z => ?_)]
        rcases z with ⟨z1, z2, z3⟩ | ⟨z1, z2, z3⟩
        · rcases Nat.lt_or_ge p (550 + n) with l | l
          · exact c (.inl ⟨z1, l, z3⟩)
          · obtain rfl : p = 550 + n := by omega
            exact q z3
        · rcases Nat.lt_or_ge p (574 + n) with l | l
          · exact c (.inr ⟨z1, l, z3⟩)
          · obtain rfl : p = 574 + n := by omega
            rw [show 574 + n - 24 = 550 + n by omega] at z3
            exact q z3
/-- busy and slot of a tag changed -/
theorem S_T45 {M M2 Mr Mr2 : zMem} {w T i : Nat} (h : S_T M w Mr T i) (hM : ∀ k, k < 10 → ¬ k = 4 → ¬ k = 5 → M2.1 7 w i k = M.1 7 w i k) (hR : ∀ p, p_T i p → ¬ p = 550 + i → ¬ p = 574 + i → Mr2.1 24 0 0 p = Mr.1 24 0 0 p) (e4 : M2.1 7 w i 4 = Mr2.1 24 0 0 (550 + i)) (e5 : M2.1 7 w i 5 = Mr2.1 24 0 0 (574 + i)) (h0 : Mr.1 24 0 0 (454 + i) = 0 → Mr2.1 24 0 0 (550 + i) = -1 ∧ Mr2.1 24 0 0 (574 + i) = -1) (hi : i < 24) : S_T M2 w Mr2 T i := by
  have g : ∀ k, k < 10 → ¬ k = 4 → ¬ k = 5 → g_R (Mr2.1 24 0 0) i k = g_R (Mr.1 24 0 0) i k := fun k hk k4 k5 => hR _ (by unfold p_T; omega) (by omega) (by omega)
  have f : ∀ k, k < 5 → f_R (Mr2.1 24 0 0) i k = f_R (Mr.1 24 0 0) i k := fun k hk => by
    unfold f_R
    split
    · exact hR _ (by unfold p_T; omega) (by omega) (by omega)
    · exact hR _ (by unfold p_T; omega) (by omega) (by omega)
  have g4 : g_R (Mr2.1 24 0 0) i 4 = Mr2.1 24 0 0 (550 + i) := rfl
  have g5 : g_R (Mr2.1 24 0 0) i 5 = Mr2.1 24 0 0 (574 + i) := rfl
  have g0 : g_R (Mr.1 24 0 0) i 0 = Mr.1 24 0 0 (454 + i) := rfl
  unfold S_T S_tag S_in at *
  rw [hM 0 (by decide) (by decide) (by decide), hM 1 (by decide) (by decide) (by decide), hM 2 (by decide) (by decide) (by decide), hM 3 (by decide) (by decide) (by decide), hM 6 (by decide) (by decide) (by decide), hM 7 (by decide) (by decide) (by decide), hM 8 (by decide) (by decide) (by decide), hM 9 (by decide) (by decide) (by decide), g 0 (by decide) (by decide) (by decide), g 1 (by decide) (by decide) (by decide), g 2 (by decide) (by decide) (by decide), g 6 (by decide) (by decide) (by decide), g 7 (by decide) (by decide) (by decide), g 8 (by decide) (by decide) (by decide), g 9 (by decide) (by decide) (by decide), g4, g5, e4, e5]
  obtain ⟨h1, h2, h3, h4⟩ := h
  refine ⟨h1, rfl, rfl, ?_⟩
  rcases h4 with ⟨z, _, _⟩ | ⟨a1, a2, a3, a4, a5, a6, a7, a8, x, b1, b2, b3, b4⟩
  · exact .inl ⟨z, h0 (g0 ▸ z)⟩
  · exact .inr ⟨a1, a2, a3, a4, a5, a6, a7, a8, x, b1, b2, fun k hk => (f k hk).trans (b3 k hk), b4⟩
theorem rd_rest {M : zMem} {w r a b c d : Nat} : (m_rest M w r).1 a b c d = if b = w ∧ ((a = 4 ∧ c = r ∧ d = 1) ∨ (a = 3 ∧ c = 3 * r ∧ d = 1) ∨ (a = 8 ∧ c = 2 * r + 1 ∧ d < 3)) then 0 else M.1 a b c d := by
  unfold m_rest m_tallyClear m_pfxClear
  rw [z_up1, z_up1, z_up1, z_up1, z_up1]
  by_cases p : b = w ∧ ((a = 4 ∧ c = r ∧ d = 1) ∨ (a = 3 ∧ c = 3 * r ∧ d = 1) ∨ (a = 8 ∧ c = 2 * r + 1 ∧ d < 3))
  · rw [if_pos p]
    split
    · rfl
    split
    · rfl
    split
    · rfl
    split
    · rfl
    split
    · rfl
    omega
  · rw [if_neg p, if_neg (by omega), if_neg (by omega), if_neg (by omega), if_neg (by omega), if_neg (by omega)]
/-- the class's side of it -/
def m_fr (M : zMem) (w r : Nat) : zMem := m_rest (m_releaseAll M w (nI r)) w r
theorem fM4 {M : zMem} {w r i : Nat} (hi : i < 24) : (m_fr M w r).1 7 w i 4 = if M.1 7 w i 4 = nI r then -1 else M.1 7 w i 4 := by
  unfold m_fr m_releaseAll
  rw [rd_rest, if_neg (by omega), rd_rel 24 (Nat.le_refl _)]
  by_cases e : M.1 7 w i 4 = nI r
  · rw [if_pos e, if_pos ⟨⟨rfl, rfl, hi, .inl rfl⟩, e⟩]
  · rw [if_neg e, if_neg (fun z => e z.2)]
theorem fM5 {M : zMem} {w r i : Nat} (hi : i < 24) : (m_fr M w r).1 7 w i 5 = if M.1 7 w i 4 = nI r then -1 else M.1 7 w i 5 := by
  unfold m_fr m_releaseAll
  rw [rd_rest, if_neg (by omega), rd_rel 24 (Nat.le_refl _)]
  by_cases e : M.1 7 w i 4 = nI r
  · rw [if_pos e, if_pos ⟨⟨rfl, rfl, hi, .inr rfl⟩, e⟩]
  · rw [if_neg e, if_neg (fun z => e z.2)]
theorem fM0 {M : zMem} {w r a c d : Nat} (h : ¬ (a = 7 ∧ (d = 4 ∨ d = 5))) (h2 : ¬ ((a = 4 ∧ c = r ∧ d = 1) ∨ (a = 3 ∧ c = 3 * r ∧ d = 1) ∨ (a = 8 ∧ c = 2 * r + 1 ∧ d < 3))) : (m_fr M w r).1 a w c d = M.1 a w c d := by
  unfold m_fr m_releaseAll
  rw [rd_rest, if_neg (fun z => h2 z.2), rd_rel 24 (Nat.le_refl _), if_neg (fun z => h ⟨z.1.1, z.1.2.2.2⟩)]
theorem fM1 {M : zMem} {w r a c d : Nat} (h2 : (a = 4 ∧ c = r ∧ d = 1) ∨ (a = 3 ∧ c = 3 * r ∧ d = 1) ∨ (a = 8 ∧ c = 2 * r + 1 ∧ d < 3)) : (m_fr M w r).1 a w c d = 0 := by
  unfold m_fr
  rw [rd_rest, if_pos ⟨rfl, h2⟩]
theorem fR4 {Mr : zMem} {r t : Nat} (hr : r < 4) (ht : t < 24) : (n_frees Mr r).1 24 0 0 (550 + t) = if Mr.1 24 0 0 (550 + t) = nI r then -1 else Mr.1 24 0 0 (550 + t) := by
  unfold n_frees
  rw [zn_upN (by omega), rd_frees0 24 (Nat.le_refl _)]
  by_cases e : Mr.1 24 0 0 (550 + t) = nI r
  · rw [if_pos e, if_pos (.inl ⟨by omega, by omega, e⟩)]
  · rw [if_neg e, if_neg (fun z => z.elim (fun z => e z.2.2) (fun z => by omega))]
theorem fR5 {Mr : zMem} {r t : Nat} (hr : r < 4) (ht : t < 24) : (n_frees Mr r).1 24 0 0 (574 + t) = if Mr.1 24 0 0 (550 + t) = nI r then -1 else Mr.1 24 0 0 (574 + t) := by
  unfold n_frees
  rw [zn_upN (by omega), rd_frees0 24 (Nat.le_refl _), show 574 + t - 24 = 550 + t by omega]
  by_cases e : Mr.1 24 0 0 (550 + t) = nI r
  · rw [if_pos e, if_pos (.inr ⟨by omega, by omega, e⟩)]
  · rw [if_neg e, if_neg (fun z => z.elim (fun z => by omega) (fun z => e z.2.2))]
theorem fR0 {Mr : zMem} {r p : Nat} (h : ¬ p = 278 + r) (h2 : p < 550 ∨ 598 ≤ p) : (n_frees Mr r).1 24 0 0 p = Mr.1 24 0 0 p := by
  unfold n_frees
  rw [zn_upN h, rd_frees0 24 (Nat.le_refl _), if_neg (by omega)]
theorem fR1 {Mr : zMem} {r : Nat} : (n_frees Mr r).1 24 0 0 (278 + r) = 0 := zn_upS
theorem nm1 {s : Nat} (hs : s < 4) : ¬ (-1 : Int32) = nI s := fun z => absurd (z ▸ nI_pos (n := s) (by omega)) (by decide)
theorem T_away {M Mr : zMem} {w T i : Nat} (h : S_T M w Mr T i) (z : Mr.1 24 0 0 (454 + i) = 0) : Mr.1 24 0 0 (550 + i) = -1 ∧ Mr.1 24 0 0 (574 + i) = -1 := by
  have z0 : g_R (Mr.1 24 0 0) i 0 = 0 := z
  rcases h.2.2.2 with h | h
  · exact h.2
  · have := h.1
    rw [z0] at this
    exact absurd this (by decide)
theorem frees_T {M Mr : zMem} {w T i r : Nat} (hi : i < 24) (hr : r < 4) (h : S_T M w Mr T i) : S_T (m_fr M w r) w (n_frees Mr r) T i := by
  obtain ⟨q4, q5, q0⟩ := T_bs h
  refine S_T45 h (fun k hk k4 k5 => fM0 (by omega) (by omega)) (fun p hp p4 p5 => fR0 (by unfold p_T at hp; omega) (by unfold p_T at hp; omega)) ?_ ?_ (fun z => ?_) hi
  · rw [fM4 hi, fR4 hr hi, q4]
  · rw [fM5 hi, fR5 hr hi, q4, q5]
  · obtain ⟨z4, z5⟩ := T_away h z
    rw [fR4 hr hi, fR5 hr hi, z4, z5, if_neg (nm1 hr)]
    exact ⟨rfl, rfl⟩
theorem frees_r {Z Z2 : Nat → Prop} {M Mr : zMem} {w r b : Nat} (hr : r < 4) (h : S_R Z M w (Mr.1 24 0 0) b r) : S_R Z2 (m_fr M w r) w ((n_frees Mr r).1 24 0 0) b r := by
  obtain ⟨k1, k2, k3, k4, k5, k6⟩ := h
  refine ⟨⟨fun k hk => ?_, fun k hk => ?_⟩, ?_, ?_, ?_, ?_, fun _ => ⟨fun _ => ⟨fM1 (by omega), fun k hk => fM1 (by omega)⟩, fun z => ?_, fun z => ?_⟩⟩
  · by_cases kk : k = 1
    · subst kk
      have e : rp_of 1 + r = 278 + r := rfl
      rw [e, fR1]
      exact fM1 (by omega)
    · have q : ∀ k, k < 12 → ¬ k = 1 → ¬ rp_of k = 278 ∧ rp_of k < 500 ∧ (rp_of k - 262) % 4 = 0 ∧ 262 ≤ rp_of k := by decide
      have q2 := q k hk kk
      rw [fM0 (by omega) (by omega), fR0 (by omega) (by omega)]
      exact k1.1 k hk
  · have q : ∀ k, k < 3 → 300 ≤ tp_of k ∧ tp_of k < 500 := by decide
    have q2 := q k hk
    rw [fM0 (by omega) (by omega), fR0 (by omega) (by omega)]
    exact k1.2 k hk
  · unfold S_rv at *
    rw [fR1, fR0 (p := 262 + r) (by omega) (by omega), fR0 (p := 266 + r) (by omega) (by omega), fR0 (p := 270 + r) (by omega) (by omega), fR0 (p := 282 + r) (by omega) (by omega), fR0 (p := 294 + r) (by omega) (by omega), fR0 (p := 298 + r) (by omega) (by omega), fR0 (p := 326 + r) (by omega) (by omega)]
    exact ⟨k2.1, .inl rfl, fun z => absurd z (by decide), k2.2.2.2⟩
  · unfold S_sum at *
    rw [fR0 (p := 310 + r) (by omega) (by omega), fR0 (p := 314 + r) (by omega) (by omega)]
    exact k3
  · obtain ⟨m, m1, m2, m3, m4⟩ := k4
    refine ⟨m, m1, (fR0 (by omega) (by omega)).trans m2, fun j hj => ?_, fun i j hi hj => ?_⟩
    · obtain ⟨a, t, t1, t2, t3⟩ := m3 j hj
      rw [fM0 (by omega) (by omega), fR0 (by omega) (by omega)]
      refine ⟨a, t, t1, t2, ?_⟩
      rw [fR4 hr t1, if_neg t3]
      exact t3
    · rw [fR0 (by omega) (by omega), fR0 (by omega) (by omega)]
      exact m4 i j hi hj
  · obtain ⟨l, l1, l2, l3, l4⟩ := k5
    exact ⟨l, S_listW (by omega) l1 (fM0 (by omega) (by omega)) (fun j _ => fM0 (by omega) (by omega)) (fR0 (by omega) (by omega)) (fun p p1 p2 => fR0 (by unfold a_ln at p1; omega) (by unfold a_ln at p1; omega)), l2, l3, l4⟩
  · rw [fR1] at z
    exact absurd z (by decide)
  · rw [fR1] at z
    exact absurd z (by decide)
theorem frees_s {Z Z2 : Nat → Prop} {M Mr : zMem} {w r s b : Nat} (hr : r < 4) (hs : s < 4) (e : ¬ s = r) (hZ : Z s → Z2 s) (h : S_R Z M w (Mr.1 24 0 0) b s) : S_R Z2 (m_fr M w r) w ((n_frees Mr r).1 24 0 0) b s := by
  refine S_RW hs hZ h ⟨fun k hk => fM0 (by omega) (by omega), fun o k ho hk => fM0 (by omega) (by omega), fun o ho => fM0 (by omega) (by omega), fun o j ho hj => fM0 (by omega) (by omega), fun j hj => fM0 (by omega) (by omega)⟩ ⟨fun p hp => fR0 (by unfold P_own P_bd at hp; omega) (by unfold P_own P_bd at hp; omega), fun t ht y => ?_, .inr ⟨fR0 (by omega) (by omega), fun t ht y => ?_⟩⟩ (Nat.le_refl _)
  · rw [fR4 hr ht] at y
    refine ⟨?_, by unfold x_id; rw [fR0 (p := 478 + t) (by omega) (by omega)]⟩
    by_cases q : Mr.1 24 0 0 (550 + t) = nI r
    · rw [if_pos q] at y
      exact (nm1 hs y).elim
    · rw [if_neg q] at y
      exact y
  · rw [fR4 hr ht, if_neg (fun z => e ((nI_eq (by omega) (by omega)).mp (y.symm.trans z)))]
    exact y
theorem Sim_frees {Z Z2 O : Nat → Prop} {M Mr : zMem} {w T c b r : Nat} (h : SimZ Z O M w Mr T c b) (hr : r < 4) (hZ : ∀ s, s < 4 → ¬ s = r → Z s → Z2 s) : SimZ Z2 O (m_fr M w r) w (n_frees Mr r) T c b := by
  obtain ⟨h1, h2, h3, h4, h5, h6, h7, h8, h9⟩ := h
  refine ⟨S_wC h1 (fun k _ => fM0 (by omega) (by omega)) (fun p hp => fR0 (by omega) (by omega)), S_jourW h2 (fM0 (by omega) (by omega)) (fun p _ => fM0 (by omega) (by omega)) (fun p hp => fR0 (by omega) (by omega)), S_cntW h3 (fun k _ => fM0 (by omega) (by omega)) (fun k _ => fR0 (by omega) (by omega)), fun i hi => frees_T hi hr (h4 i hi), fun i hi o => S_okW (h5 i hi o) (fR0 (by omega) (by omega)) (fun r _ => fR0 (by omega) (by omega)) (fR0 (by omega) (by omega)) (fR0 (by omega) (by omega)) (fR0 (by omega) (by omega)), fun i hi => ?_, S_idsW h7 (fun i _ => ⟨fR0 (by omega) (by omega), fR0 (by omega) (by omega)⟩), ⟨(fR0 (by omega) (by omega)).trans h8.1, (fR0 (by omega) (by omega)).trans h8.2⟩, fun s hs => ?_⟩
  · have hb := h6 i hi
    unfold S_busy at *
    rw [fR4 hr hi, fR0 (p := 502 + i) (by omega) (by omega)]
    by_cases e : Mr.1 24 0 0 (550 + i) = nI r
    · rw [if_pos e]
      exact .inl rfl
    · rw [if_neg e]
      refine hb.imp id (fun ⟨s, s1, s2, s3, s4⟩ => ⟨s, s1, s2, ?_, s4⟩)
      have ne : ¬ s = r := fun z => e (z ▸ s2)
      rw [fR0 (by omega) (by omega)]
      exact s3
  · by_cases e : s = r
    · subst e
      exact frees_r hs (h9 s hs)
    · exact frees_s hr hs e (hZ s hs e) (h9 s hs)
theorem Sim_intr {Z O : Nat → Prop} {M Mr : zMem} {w T c b r : Nat} (h : SimZ Z O M w Mr T c b) (hr : r < 4) (hc : c < 2147483000) (ht : Mr.1 24 0 0 (278 + r) = 1) : SimZ Z O (m_intr M w r (nI r)) w (n_breaks Mr r c) T (c + 1) b := by
  unfold m_intr n_breaks
  rw [if_neg (by rw [ht]; decide)]
  have st := Sim_cnt (k := 6) (x := 1) (Sim_frees (Z2 := Z) h hr (fun _ _ _ z => z)) (by omega)
  have e1 : m_cnt (m_fr M w r) w 6 1 = m_intr2 M w r (nI r) := rfl
  rw [e1] at st
  have e2 : (m_intr2 M w r (nI r)).1 8 w (2 * r) 1 = Mr.1 24 0 0 (306 + r) := by
    have q := (st.2.2.2.2.2.2.2.2 r hr).1.2 1 (by omega)
    have e : tp_of 1 + r = 306 + r := rfl
    rw [e] at q
    rw [q, zf_counts (by omega), zf_frees (by omega) (by omega)]
  rw [e2]
  exact Sim_log st hc
