/-! steps of one reader: its own cells alone; tags made busy; frames -/
def C_own (r a c : Nat) : Prop := (a = 4 ∧ c = r) ∨ (a = 8 ∧ c / 2 = r) ∨ ((a = 3 ∨ a = 22) ∧ c / 3 = r) ∨ (a = 23 ∧ c = r)
theorem own_s {r s p : Nat} (hr : r < 4) (hs : s < 4) (ne : ¬ s = r) (h : P_own s p) : ¬ (P_own r p ∨ p = 350 + r) := by
  unfold P_own P_bd at *
  omega
theorem own_o {r p : Nat} (hr : r < 4) (h : p < 262 ∨ (454 ≤ p ∧ p < 814)) : ¬ (P_own r p ∨ p = 350 + r) := by
  unfold P_own P_bd
  omega
theorem Sim_rd {Z Z2 O : Nat → Prop} {M M2 Mr Mr2 : zMem} {w T c b b2 r : Nat} (h : SimZ Z O M w Mr T c b) (hr : r < 4) (hM : ∀ a c d, ¬ C_own r a c → M2.1 a w c d = M.1 a w c d) (hR : ∀ p, ¬ (P_own r p ∨ p = 350 + r) → Mr2.1 24 0 0 p = Mr.1 24 0 0 p) (h262 : Mr2.1 24 0 0 (262 + r) = Mr.1 24 0 0 (262 + r)) (h278 : ∀ t, t < 24 → Mr.1 24 0 0 (550 + t) = nI r → Mr2.1 24 0 0 (278 + r) = 1) (hS : S_R Z2 M2 w (Mr2.1 24 0 0) b2 r) (hb : b ≤ b2) (hZ : ∀ s, s < 4 → ¬ s = r → Z s → Z2 s) : SimZ Z2 O M2 w Mr2 T c b2 := by
  obtain ⟨h1, h2, h3, h4, h5, h6, h7, h8, h9⟩ := h
  have oM : ∀ a c d, ¬ a = 3 → ¬ a = 4 → ¬ a = 8 → ¬ a = 22 → ¬ a = 23 → M2.1 a w c d = M.1 a w c d := fun a c d e1 e2 e3 e4 e5 => hM a c d (by unfold C_own; omega)
  have oR : ∀ p, p < 262 ∨ (454 ≤ p ∧ p < 814) → Mr2.1 24 0 0 p = Mr.1 24 0 0 p := fun p hp => hR p (own_o hr hp)
  have h262' : ∀ s, s < 4 → Mr2.1 24 0 0 (262 + s) = Mr.1 24 0 0 (262 + s) := fun s hs => by
    by_cases e : s = r
    · subst e
      exact h262
    · exact hR _ (own_s hr hs e (by unfold P_own P_bd; omega))
  refine ⟨S_wC h1 (fun k _ => oM _ _ _ (by decide) (by decide) (by decide) (by decide) (by decide)) (fun p hp => oR p (by omega)), S_jourW h2 (oM _ _ _ (by decide) (by decide) (by decide) (by decide) (by decide)) (fun p _ => oM _ _ _ (by decide) (by decide) (by decide) (by decide) (by decide)) (fun p hp => oR p (by omega)), S_cntW h3 (fun k _ => oM _ _ _ (by decide) (by decide) (by decide) (by decide) (by decide)) (fun k _ => oR _ (by omega)), S_tagsW h4 (fun i _ k _ => oM _ _ _ (by decide) (by decide) (by decide) (by decide) (by decide)) (fun p a _ _ => oR p (by omega)), fun i hi o => S_okW (h5 i hi o) (oR _ (by omega)) h262' (oR _ (by omega)) (oR _ (by omega)) (oR _ (by omega)), fun i hi => ?_, S_idsW h7 (fun i _ => ⟨oR _ (by omega), oR _ (by omega)⟩), ⟨(oR 19 (by omega)).trans h8.1, (oR 20 (by omega)).trans h8.2⟩, fun s hs => ?_⟩
  · have q := h6 i hi
    unfold S_busy at *
    rw [oR (550 + i) (by omega), oR (502 + i) (by omega)]
    refine q.imp id (fun ⟨s, s1, s2, s3, s4⟩ => ⟨s, s1, s2, ?_, s4⟩)
    by_cases e : s = r
    · subst e
      exact h278 i hi s2
    · rw [hR _ (own_s hr s1 e (by unfold P_own P_bd; omega))]
      exact s3
  · by_cases e : s = r
    · subst e
      exact hS
    · refine S_RW hs (hZ s hs e) (h9 s hs) ⟨fun k hk => hM _ _ _ (by unfold C_own; omega), fun o k ho hk => hM _ _ _ (by unfold C_own; omega), fun o ho => hM _ _ _ (by unfold C_own; omega), fun o j ho hj => hM _ _ _ (by unfold C_own; omega), fun j hj => hM _ _ _ (by unfold C_own; omega)⟩ ⟨fun p hp => hR p (own_s hr hs e hp), fun t ht y => ⟨by rw [← oR (550 + t) (by omega)]; exact y, by unfold x_id; rw [oR (478 + t) (by omega)]⟩, .inr ⟨hR _ (by unfold P_own P_bd; omega), fun t ht y => by rw [oR (550 + t) (by omega)]; exact y⟩⟩ hb
/-- the loop that makes tags busy -/
theorem rd_busy {w : Nat} {v x : Int32} {M : zMem} : ∀ n, n ≤ 24 → ∀ a b c d, (z_it (f_busy w v x) n M).1 a b c d = if (a = 7 ∧ b = w ∧ c < n ∧ d = 4) ∧ bt v c = true then x else M.1 a b c d
  | 0, _, a, b, c, d => by
    rw [if_neg (by omega)]
    rfl
  | n + 1, hn, a, b, c, d => by
    have ih := rd_busy (w := w) (v := v) (x := x) (M := M) n (by omega)
    rw [z_itS, f_busy, z_bit v (by omega)]
    by_cases q : bt v n = true
    · rw [if_pos q, if_pos rfl, z_up1, ih]
      by_cases p : a = 7 ∧ b = w ∧ c = n ∧ d = 4
      · rw [if_pos p, if_pos ⟨by omega, by rw [p.2.2.1]; exact q⟩]
      · rw [if_neg p]
        by_cases p2 : (a = 7 ∧ b = w ∧ c < n ∧ d = 4) ∧ bt v c = true
        · rw [if_pos p2, if_pos ⟨by omega, p2.2⟩]
        · rw [if_neg p2, if_neg (fun z => p2 ⟨by omega, z.2⟩)]
    · rw [if_neg q, if_neg (by decide), ih]
      by_cases p2 : (a = 7 ∧ b = w ∧ c < n ∧ d = 4) ∧ bt v c = true
      · rw [if_pos p2, if_pos ⟨by omega, p2.2⟩]
      · rw [if_neg p2, if_neg (fun z => ?_)]
        obtain ⟨z1, z2⟩ := z
        rcases Nat.lt_or_ge c n with l | l
        · exact p2 ⟨by omega, z2⟩
        · obtain rfl : c = n := by omega
          exact q z2
theorem rd_b2 {r : Nat} {M : zMem} : ∀ n, n ≤ 24 → (z_it (f_b2 r) n M).1 40 = M.1 40 ∧ ∀ p, (z_it (f_b2 r) n M).1 24 0 0 p = if (550 ≤ p ∧ p < 550 + n) ∧ ¬ M.1 40 0 0 (p - 550) = 0 then nI r else (M.1 24 0 0 (p))
  | 0, _ => ⟨rfl, fun p => by
    rw [if_neg (by omega)]
    rfl⟩
  | n + 1, hn => by
    obtain ⟨i1, i2⟩ := rd_b2 (r := r) (M := M) n (by omega)
    rw [z_itS, f_b2, i1]
    by_cases q : M.1 40 0 0 n = 0
    · rw [if_pos q]
      refine ⟨i1, fun p => ?_⟩
      rw [i2]
      by_cases c : (550 ≤ p ∧ p < 550 + n) ∧ ¬ M.1 40 0 0 (p - 550) = 0
      · rw [if_pos c, if_pos ⟨by omega, c.2⟩]
      · rw [if_neg c, if_neg (fun z => ?_)]
        obtain ⟨z1, z2⟩ := z
        rcases Nat.lt_or_ge p (550 + n) with l | l
        · exact c ⟨by omega, z2⟩
        · rw [show p - 550 = n by omega] at z2
          exact z2 q
    · rw [if_neg q]
      refine ⟨?_, fun p => ?_⟩
      · funext a b c
        exact (zn_upO (by decide)).trans (by rw [i1])
      · by_cases e : p = 550 + n
        · subst e
          rw [zn_upS, if_pos ⟨by omega, by rw [show 550 + n - 550 = n by omega]; exact q⟩]
        · rw [zn_upN e, i2]
          by_cases c : (550 ≤ p ∧ p < 550 + n) ∧ ¬ M.1 40 0 0 (p - 550) = 0
          · rw [if_pos c, if_pos ⟨by omega, c.2⟩]
          · rw [if_neg c, if_neg (fun z => c ⟨by omega, z.2⟩)]
/-- tags that weren't busy are busy with a reader that takes stock and has read none yet -/
theorem Sim_busyA {Z O : Nat → Prop} {M M2 Mr Mr2 : zMem} {w T c b r : Nat} {S : Nat → Prop} (h : SimZ Z O M w Mr T c b) (hr : r < 4) (hZ : Z r) (hS : ∀ t, t < 24 → S t → Mr.1 24 0 0 (454 + t) = 1 ∧ Mr.1 24 0 0 (550 + t) = -1 ∧ ¬ r_has (Mr.1 24 0 0 (502 + t)) (nI r) = 0) (h278 : Mr.1 24 0 0 (278 + r) = 1) (h306 : Mr.1 24 0 0 (306 + r) = 0)
    (hM : ∀ a c d, ¬ (a = 7 ∧ d = 4) → M2.1 a w c d = M.1 a w c d) (hM1 : ∀ t, t < 24 → S t → M2.1 7 w t 4 = nI r) (hM0 : ∀ t, t < 24 → ¬ S t → M2.1 7 w t 4 = M.1 7 w t 4)
    (hR : ∀ p, p < 550 ∨ 574 ≤ p → Mr2.1 24 0 0 p = Mr.1 24 0 0 p) (hR1 : ∀ t, t < 24 → S t → Mr2.1 24 0 0 (550 + t) = nI r) (hR0 : ∀ t, t < 24 → ¬ S t → Mr2.1 24 0 0 (550 + t) = Mr.1 24 0 0 (550 + t)) : SimZ Z O M2 w Mr2 T c b := by
  obtain ⟨h1, h2, h3, h4, h5, h6, h7, h8, h9⟩ := h
  have oM : ∀ a c d, ¬ a = 7 → M2.1 a w c d = M.1 a w c d := fun a c d e => hM a c d (fun z => e z.1)
  refine ⟨S_wC h1 (fun k _ => oM _ _ _ (by decide)) (fun p hp => hR p (by omega)), S_jourW h2 (oM _ _ _ (by decide)) (fun p _ => oM _ _ _ (by decide)) (fun p hp => hR p (by omega)), S_cntW h3 (fun k _ => oM _ _ _ (by decide)) (fun k _ => hR _ (by omega)), fun i hi => ?_, fun i hi o => S_okW (h5 i hi o) (hR _ (by omega)) (fun s _ => hR _ (by omega)) (hR _ (by omega)) (hR _ (by omega)) (hR _ (by omega)), fun i hi => ?_, S_idsW h7 (fun i _ => ⟨hR _ (by omega), hR _ (by omega)⟩), ⟨(hR 19 (by omega)).trans h8.1, (hR 20 (by omega)).trans h8.2⟩, fun s hs => ?_⟩
  · obtain ⟨q4, q5, -⟩ := T_bs (h4 i hi)
    by_cases e : S i
    · refine S_T45 (h4 i hi) (fun k hk k4 k5 => hM _ _ _ (fun z => k4 z.2)) (fun p hp p4 p5 => hR p (by unfold p_T at hp; omega)) ((hM1 i hi e).trans (hR1 i hi e).symm) ?_ (fun z => ?_) hi
      · rw [hM _ _ _ (fun z => absurd z.2 (by decide)), hR _ (by omega)]
        exact q5
      · have q := (hS i hi e).1
        rw [z] at q
        exact absurd q (by decide)
    · refine S_TW hi (h4 i hi) (fun k _ => ?_) (fun p hp => ?_)
      · by_cases k4 : k = 4
        · subst k4
          exact hM0 i hi e
        · exact hM _ _ _ (fun z => k4 z.2)
      · by_cases p4 : p = 550 + i
        · subst p4
          exact hR0 i hi e
        · exact hR p (by unfold p_T at hp; omega)
  · by_cases e : S i
    · refine .inr ⟨r, hr, hR1 i hi e, ?_, ?_⟩
      · rw [hR _ (by omega)]
        exact h278
      · rw [hR _ (by omega)]
        exact (hS i hi e).2.2
    · exact S_busyW (h6 i hi) (hR0 i hi e) (fun s _ => hR _ (by omega)) (hR _ (by omega))
  · have own : ∀ p, P_own s p → Mr2.1 24 0 0 p = Mr.1 24 0 0 p := fun p hp => hR p (by unfold P_own P_bd at hp; omega)
    have ceq : C_eq M w M2 w s := C_eq0 (fun a c d e => oM _ _ _ (by omega))
    by_cases e : s = r
    · subst e
      obtain ⟨k1, k2, k3, k4, k5, k6⟩ := h9 s hs
      have bd : ∀ p, P_bd s p → Mr2.1 24 0 0 p = Mr.1 24 0 0 p := fun p hp => own p (.inr hp)
      refine ⟨S_rdW hs k1 ceq own, S_rvW hs k2 own, S_sumW hs (Nat.le_refl _) k3 bd, ⟨0, by omega, ?_, fun j hj => by omega, fun i j hi hj => by omega⟩, S_lnW hs k5 ceq.2 bd, fun z => (z hZ).elim⟩
      rw [hR _ (by omega)]
      exact h306
    · refine S_RW hs id (h9 s hs) ceq ⟨own, fun t ht y => ?_, .inr ⟨hR _ (by omega), fun t ht y => ?_⟩⟩ (Nat.le_refl _)
      · by_cases q : S t
        · rw [hR1 t ht q] at y
          exact (e ((nI_eq (by omega) (by omega)).mp y).symm).elim
        · rw [hR0 t ht q] at y
          exact ⟨y, by unfold x_id; rw [hR (478 + t) (by omega)]⟩
      · by_cases q : S t
        · rw [(hS t ht q).2.1] at y
          exact (nm1 hs y).elim
        · rw [hR0 t ht q]
          exact y
/-! draws -/
theorem Sim_draw {Z O : Nat → Prop} {M Mr : zMem} {w T c b : Nat} (h : SimZ Z O M w Mr T c b) : SimZ Z O (m_draw M w) w (n_draw Mr) T c b := by
  have e1 : M.1 9 w 0 6 = Mr.1 24 0 0 1 := h.1.1 1 (by omega)
  refine Sim_9 h (fun a c d e => zn_upO e) (fun p hp => zn_upN (by omega)) ?_
  obtain ⟨a1, a2, a3, a4⟩ := h.1
  unfold m_draw n_draw
  refine ⟨fun k hk => ?_, (zn_upN (by omega)).trans a2, ?_, ?_⟩
  · by_cases e : k = 1
    · subst e
      rw [zn_upS, zn_upS, e1]
    · rw [zn_upN (by omega), zn_upN (by omega)]
      exact a1 k hk
  · rw [zn_upN (by omega)]
    exact a3
  · rw [zn_upN (by omega)]
    exact a4
/-- a slot told to a tag -/
theorem Sim_slot {Z O : Nat → Prop} {M Mr : zMem} {w T c b i : Nat} {x : Int32} (h : SimZ Z O M w Mr T c b) (hi : i < 24) (hb : ¬ Mr.1 24 0 0 (550 + i) = -1) : SimZ Z O (z_up M 7 w i 5 x) w (z_up Mr 24 0 0 (574 + i) x) T c b := by
  have h4 := h.2.2.2.1 i hi
  have R : ∀ p, ¬ p = 574 + i → (z_up Mr 24 0 0 (574 + i) x).1 24 0 0 p = Mr.1 24 0 0 p := fun p hp => zn_upN hp
  obtain ⟨q4, q5, -⟩ := T_bs h4
  have hT : S_T (z_up M 7 w i 5 x) w (z_up Mr 24 0 0 (574 + i) x) T i := S_T45 h4 (fun k hk k4 k5 => zn_upN k5) (fun p hp p4 p5 => R p p5) (by rw [zn_upN (by decide), R _ (by omega)]; exact q4) (by rw [zn_upS, zn_upS]) (fun z => (hb (T_away h4 z).1).elim) hi
  obtain ⟨h1, h2, h3, h4, h5, h6, h7, h8, h9⟩ := h
  have oM : ∀ a c d, ¬ a = 7 → (z_up M 7 w i 5 x).1 a w c d = M.1 a w c d := fun a c d e => zn_upO e
  have tM : t_M w i M (z_up M 7 w i 5 x) := t_Mup
  have tR : t_R i Mr (z_up Mr 24 0 0 (574 + i) x) := t_Rup (by unfold p_T; omega)
  refine ⟨S_wC h1 (fun k _ => oM _ _ _ (by omega)) (fun p hp => R p (by omega)), S_jourW h2 (oM _ _ _ (by omega)) (fun p _ => oM _ _ _ (by omega)) (fun p hp => R p (by omega)), S_cntW h3 (fun k _ => oM _ _ _ (by omega)) (fun k _ => R _ (by omega)), fun j hj => ?_, fun j hj o => S_okW (h5 j hj o) (R _ (by omega)) (fun r _ => R _ (by omega)) (R _ (by omega)) (R _ (by omega)) (R _ (by omega)), fun j hj => S_busyW (h6 j hj) (R _ (by omega)) (fun r _ => R _ (by omega)) (R _ (by omega)), S_idsW h7 (fun j hj => ⟨R _ (by omega), R _ (by omega)⟩), ⟨(R 19 (by omega)).trans h8.1, (R 20 (by omega)).trans h8.2⟩, fun r hr => S_RW hr id (h9 r hr) (C_eq0 (fun a c d e => oM _ _ _ (by omega))) (R_eq0 hr (fun p p1 p2 => R p (by omega))) (Nat.le_refl _)⟩
  by_cases e : j = i
  · subst e
    exact hT
  · exact t_other (h4 j hj) tM tR hj hi e
theorem Sim_draws {Z O : Nat → Prop} {M Mr : zMem} {w T c b r : Nat} {q : Int32} (h : SimZ Z O M w Mr T c b) (hr : r < 4) : ∀ n, n ≤ 24 → SimZ Z O (z_it (f_draw w (nI r) q) n M) w (z_it (f_fr (nI r) q) n Mr) T c b
  | 0, _ => h
  | n + 1, hn => by
    have ih := Sim_draws (q := q) h hr n (by omega)
    rw [z_itS, z_itS]
    generalize z_it (f_draw w (nI r) q) n M = M1 at *
    generalize z_it (f_fr (nI r) q) n Mr = Mr1 at *
    have q4 := (T_bs (ih.2.2.2.1 n (by omega))).1
    have e1 : M1.1 9 w 0 6 = Mr1.1 24 0 0 1 := ih.1.1 1 (by omega)
    unfold f_draw f_fr
    rw [q4]
    by_cases c0 : Mr1.1 24 0 0 (550 + n) = nI r
    · rw [if_pos c0, if_pos c0]
      have e2 : r_draw M1 w (1 <<< (q &&& 31)) = r_mDraw Mr1 (1 <<< (q &&& 31)) := by
        unfold r_draw r_mDraw
        rw [e1]
      rw [e2]
      refine Sim_slot (Sim_draw ih) (by omega) ?_
      unfold n_draw
      rw [zn_upN (by omega), c0]
      exact fun z => nm1 hr z.symm
    · rw [if_neg c0, if_neg c0]
      exact ih
theorem fr_keep {x q : Int32} {Mr : zMem} {p : Nat} (h : ¬ p = 1) (h2 : p < 574 ∨ 598 ≤ p) : ∀ n, n ≤ 24 → (z_it (f_fr x q) n Mr).1 24 0 0 p = Mr.1 24 0 0 p
  | 0, _ => rfl
  | n + 1, hn => by
    rw [z_itS, f_fr]
    refine Eq.trans ?_ (fr_keep (x := x) (q := q) h h2 n (by omega))
    split
    · unfold n_draw
      rw [zn_upN (by omega), zn_upN h]
    · rfl
theorem dr_keep {x q : Int32} {M : zMem} {w a c d : Nat} (h : ¬ a = 9) (h2 : ¬ (a = 7 ∧ d = 5)) : ∀ n, n ≤ 24 → (z_it (f_draw w x q) n M).1 a w c d = M.1 a w c d
  | 0, _ => rfl
  | n + 1, hn => by
    rw [z_itS, f_draw]
    refine Eq.trans ?_ (dr_keep (x := x) (q := q) h h2 n (by omega))
    split
    · unfold m_draw
      rw [z_up1, if_neg (by omega), z_up1, if_neg (by omega)]
    · rfl
theorem rd_fr0 {Mr : zMem} {r p : Nat} {q : Int32} (hr : r < 4) : (n_fr0 Mr r q).1 24 0 0 p = if p = 9 then Mr.1 24 0 0 9 + 1 else if p = 318 + r then Mr.1 24 0 0 (318 + r) + 1 else if p = 302 + r ∨ p = 338 + r ∨ p = 342 + r ∨ p = 346 + r then 0 else if p = 298 + r then q else Mr.1 24 0 0 p := by
  unfold n_fr0 n_counts
  by_cases e : p = 9
  · rw [if_pos e, e, show 5 + 4 = 9 by decide, zn_upS, zn_upN (by omega), zn_upN (by omega), zn_upN (by omega), zn_upN (by omega), zn_upN (by omega), zn_upN (by omega)]
  · rw [if_neg e, zn_upN (by omega)]
    by_cases e1 : p = 318 + r
    · rw [if_pos e1, e1, zn_upS]
    · rw [if_neg e1, zn_upN e1]
      by_cases e2 : p = 302 + r ∨ p = 338 + r ∨ p = 342 + r ∨ p = 346 + r
      · rw [if_pos e2]
        rcases e2 with e2 | e2 | e2 | e2
        · rw [e2, zn_upN (by omega), zn_upN (by omega), zn_upN (by omega), zn_upS]
        · rw [e2, zn_upN (by omega), zn_upN (by omega), zn_upS]
        · rw [e2, zn_upN (by omega), zn_upS]
        · rw [e2, zn_upS]
      · rw [if_neg e2, zn_upN (by omega), zn_upN (by omega), zn_upN (by omega), zn_upN (by omega)]
        by_cases e3 : p = 298 + r
        · rw [if_pos e3, e3, zn_upS]
        · rw [if_neg e3, zn_upN e3]
theorem rd_fm0 {M : zMem} {w r a c d : Nat} {q : Int32} : (m_frame0 M w r q).1 a w c d = if a = 20 ∧ c = 0 ∧ d = 4 then M.1 20 w 0 4 + 1 else if a = 4 ∧ c = r ∧ d = 10 then M.1 4 w r 10 + 1 else if a = 8 ∧ c = 2 * r + 1 ∧ d < 3 then 0 else if a = 4 ∧ c = r ∧ d = 9 then q else M.1 a w c d := by
  unfold m_frame0 m_tallyClear
  simp only [z_up1, true_and, false_and, and_false, if_false, Nat.reduceEqDiff]
  by_cases e : a = 20 ∧ c = 0 ∧ d = 4
  · rw [if_pos e, if_pos e]
  · rw [if_neg e, if_neg e]
    by_cases e1 : a = 4 ∧ c = r ∧ d = 10
    · rw [if_pos e1, if_pos e1]
    · rw [if_neg e1, if_neg e1]
      by_cases e2 : a = 8 ∧ c = 2 * r + 1 ∧ d < 3
      · rw [if_pos e2]
        split
        · rfl
        split
        · rfl
        split
        · rfl
        omega
      · rw [if_neg e2, if_neg (by omega), if_neg (by omega), if_neg (by omega)]
theorem Sim_frame0 {Z O : Nat → Prop} {M Mr : zMem} {w T c b r q : Nat} (h : SimZ Z O M w Mr T c b) (hr : r < 4) (hZ : Z r) (hq : q ≤ 8) : SimZ Z O (m_frame0 M w r (nI q)) w (n_fr0 Mr r (nI q)) T c b := by
  -- the count apart
  have st := Sim_cnt (k := 4) (x := 1) h (by omega)
  have hR := h.2.2.2.2.2.2.2.2 r hr
  obtain ⟨k1, k2, k3, k4, k5, k6⟩ := hR
  have c9 : ∀ p, (n_counts Mr 4 1).1 24 0 0 p = if p = 9 then Mr.1 24 0 0 9 + 1 else Mr.1 24 0 0 p := fun p => by
    unfold n_counts
    by_cases e : p = 9
    · rw [if_pos e, e, show 5 + 4 = 9 by decide, zn_upS]
    · rw [if_neg e, zn_upN (by omega)]
  have cM : ∀ a c d, (m_cnt M w 4 1).1 a w c d = if a = 20 ∧ c = 0 ∧ d = 4 then M.1 20 w 0 4 + 1 else M.1 a w c d := fun a c d => by
    unfold m_cnt
    simp only [z_up1, true_and]
  have R : ∀ p, ¬ p = 9 → ¬ p = 318 + r → ¬ (p = 302 + r ∨ p = 338 + r ∨ p = 342 + r ∨ p = 346 + r) → ¬ p = 298 + r → (n_fr0 Mr r (nI q)).1 24 0 0 p = Mr.1 24 0 0 p := fun p e1 e2 e3 e4 => by
    rw [rd_fr0 hr, if_neg e1, if_neg e2, if_neg e3, if_neg e4]
  refine Sim_rd st hr (fun a c d e => ?_) (fun p e => ?_) ?_ (fun t ht e => ?_) ⟨⟨fun k hk => ?_, fun k hk => ?_⟩, ?_, ?_, ?_, ?_, fun z => (z hZ).elim⟩ (Nat.le_refl _) (fun s _ _ z => z)
  · unfold C_own at e
    rw [rd_fm0, cM]
    by_cases e1 : a = 20 ∧ c = 0 ∧ d = 4
    · rw [if_pos e1, if_pos e1]
    · rw [if_neg e1, if_neg e1, if_neg (by omega), if_neg (by omega), if_neg (by omega)]
  · unfold P_own P_bd at e
    rw [c9]
    by_cases e1 : p = 9
    · rw [rd_fr0 hr, if_pos e1, if_pos e1]
    · rw [if_neg e1, R p e1 (by omega) (by omega) (by omega)]
  · rw [R _ (by omega) (by omega) (by omega) (by omega), c9, if_neg (by omega)]
  · rw [R _ (by omega) (by omega) (by omega) (by omega)]
    have hb := st.2.2.2.2.2.1 t ht
    rcases hb with y | ⟨s, s1, s2, s3, s4⟩
    · rw [y] at e
      exact (nm1 hr e).elim
    · have : s = r := (nI_eq (by omega) (by omega)).mp (s2.symm.trans e)
      subst this
      rw [c9, if_neg (by omega)] at s3
      exact s3
  · by_cases e : k = 10
    · subst e
      have q1 : rp_of 10 + r = 318 + r := rfl
      have k10 : M.1 4 w r 10 = Mr.1 24 0 0 (318 + r) := k1.1 10 (by omega)
      rw [q1, rd_fm0, if_neg (by omega), if_pos ⟨rfl, rfl, rfl⟩, rd_fr0 hr, if_neg (by omega), if_pos rfl, k10]
    · by_cases e1 : k = 9
      · subst e1
        have q1 : rp_of 9 + r = 298 + r := rfl
        rw [q1, rd_fm0, if_neg (by omega), if_neg (by omega), if_neg (by omega), if_pos ⟨rfl, rfl, rfl⟩, rd_fr0 hr, if_neg (by omega), if_neg (by omega), if_neg (by omega), if_pos rfl]
      · have q1 : ∀ k, k < 12 → 262 ≤ rp_of k ∧ rp_of k < 323 ∧ (rp_of k - 262) % 4 = 0 ∧ ¬ rp_of k = 302 := by decide
        have q3 : ∀ k, k < 12 → ¬ k = 10 → ¬ k = 9 → ¬ rp_of k = 318 ∧ ¬ rp_of k = 298 := by decide
        have q2 := q1 k hk
        have q4 := q3 k hk e e1
        rw [rd_fm0, if_neg (by omega), if_neg (by omega), if_neg (by omega), if_neg (by omega), R _ (by omega) (by omega) (by omega) (by omega)]
        exact k1.1 k hk
  · have q1 : ∀ k, k < 3 → 306 ≤ tp_of k ∧ tp_of k < 318 := by decide
    have q2 := q1 k hk
    have q3 : ∀ k, k < 3 → (tp_of k - 262) % 4 = 0 := by decide
    have q4 := q3 k hk
    rw [rd_fm0, if_neg (by omega), if_neg (by omega), if_neg (by omega), if_neg (by omega), R _ (by omega) (by omega) (by omega) (by omega)]
    exact k1.2 k hk
  · obtain ⟨v1, v2, v3, v4, v5, v6, v7, v8, v9⟩ := k2
    refine ⟨?_, ?_, ?_, ?_, ?_, ?_, ?_, ⟨q, hq, ?_⟩, ?_⟩
    · rw [R _ (by omega) (by omega) (by omega) (by omega)]
      exact v1
    · rw [R _ (by omega) (by omega) (by omega) (by omega)]
      exact v2
    · rw [R _ (by omega) (by omega) (by omega) (by omega), R _ (by omega) (by omega) (by omega) (by omega)]
      exact v3
    · rw [R _ (by omega) (by omega) (by omega) (by omega)]
      exact v4
    · rw [R _ (by omega) (by omega) (by omega) (by omega)]
      exact v5
    · rw [R _ (by omega) (by omega) (by omega) (by omega)]
      exact v6
    · rw [R _ (by omega) (by omega) (by omega) (by omega)]
      exact v7
    · rw [rd_fr0 hr, if_neg (by omega), if_neg (by omega), if_neg (by omega), if_pos rfl]
    · rw [R _ (by omega) (by omega) (by omega) (by omega)]
      exact v9
  · unfold S_sum at *
    rw [R _ (by omega) (by omega) (by omega) (by omega), R _ (by omega) (by omega) (by omega) (by omega)]
    exact k3
  · obtain ⟨m, m1, m2, m3, m4⟩ := k4
    refine ⟨m, m1, (R _ (by omega) (by omega) (by omega) (by omega)).trans m2, fun j hj => ?_, fun i j hi hj => ?_⟩
    · obtain ⟨a, t, t1, t2, t3⟩ := m3 j hj
      rw [rd_fm0, if_neg (by omega), if_neg (by omega), if_neg (by omega), if_neg (by omega), R _ (by omega) (by omega) (by omega) (by omega)]
      refine ⟨a, t, t1, t2, ?_⟩
      rw [R _ (by omega) (by omega) (by omega) (by omega)]
      exact t3
    · rw [R _ (by omega) (by omega) (by omega) (by omega), R _ (by omega) (by omega) (by omega) (by omega)]
      exact m4 i j hi hj
  · obtain ⟨l, l1, l2, l3, l4⟩ := k5
    exact ⟨l, S_listW (by omega) l1 (by rw [rd_fm0, if_neg (by omega), if_neg (by omega), if_neg (by omega), if_neg (by omega)]) (fun j _ => by rw [rd_fm0, if_neg (by omega), if_neg (by omega), if_neg (by omega), if_neg (by omega)]) (R _ (by omega) (by omega) (by omega) (by omega)) (fun p p1 p2 => R p (by unfold a_ln at p1; omega) (by unfold a_ln at p1; omega) (by unfold a_ln at p1; omega) (by unfold a_ln at p1; omega)), l2, l3, l4⟩
/-- a frame begun; how it stands then -/
theorem Sim_frame {Z O : Nat → Prop} {M Mr : zMem} {w T c b r q : Nat} (h : SimZ Z O M w Mr T c b) (hr : r < 4) (hZ : Z r) (hq : q ≤ 8) (hq2 : Mr.1 24 0 0 (294 + r) = nI 2 → q ≤ 4) (e3 : M.1 3 w (3 * r) 1 = 0) (e326 : Mr.1 24 0 0 (326 + r) = 0) :
    SimZ Z O (m_newFrame M w r (nI r) (nI q)) w (n_frames Mr r (nI q)) T c b ∧ S_slots (m_newFrame M w r (nI r) (nI q)) w ((n_frames Mr r (nI q)).1 24 0 0) r ∧ ∀ p, p = 278 + r ∨ p = 294 + r → (n_frames Mr r (nI q)).1 24 0 0 p = Mr.1 24 0 0 p := by
  have st : SimZ Z O (m_newFrame M w r (nI r) (nI q)) w (n_frames Mr r (nI q)) T c b := by
    unfold m_newFrame n_frames
    exact Sim_draws (q := nI q) (Sim_frame0 h hr hZ hq) hr 24 (Nat.le_refl _)
  have R : ∀ p, ¬ p = 1 → p < 574 ∨ 598 ≤ p → (n_frames Mr r (nI q)).1 24 0 0 p = (n_fr0 Mr r (nI q)).1 24 0 0 p := fun p h1 h2 => by
    unfold n_frames
    exact fr_keep h1 h2 24 (Nat.le_refl _)
  have Mk : ∀ a c d, ¬ a = 9 → ¬ a = 7 → (m_newFrame M w r (nI r) (nI q)).1 a w c d = (m_frame0 M w r (nI q)).1 a w c d := fun a c d h1 h2 => by
    unfold m_newFrame
    exact dr_keep h1 (fun z => h2 z.1) 24 (Nat.le_refl _)
  refine ⟨st, ⟨?_, ?_, fun k hk => ?_, 0, 0, 0, q, ?_, ?_, ?_, ?_, ?_, ⟨Nat.two_pow_pos q, hq⟩, fun z => hq2 (?_)⟩, fun p hp => ?_⟩
  · rw [Mk _ _ _ (by decide) (by decide), rd_fm0, if_neg (by omega), if_neg (by omega), if_neg (by omega), if_neg (by omega)]
    exact e3
  · rw [R _ (by omega) (by omega), rd_fr0 hr, if_neg (by omega), if_neg (by omega), if_neg (by omega), if_neg (by omega)]
    exact e326
  · have q1 : fp_of k = 338 ∨ fp_of k = 342 ∨ fp_of k = 346 := by
      rcases (show k = 0 ∨ k = 1 ∨ k = 2 by omega) with rfl | rfl | rfl
      · exact .inl rfl
      · exact .inr (.inl rfl)
      · exact .inr (.inr rfl)
    rw [Mk _ _ _ (by decide) (by decide), rd_fm0, if_neg (by omega), if_neg (by omega), if_pos ⟨rfl, rfl, hk⟩, R _ (by omega) (by omega), rd_fr0 hr, if_neg (by omega), if_neg (by omega), if_pos (by omega)]
  · rw [R _ (by omega) (by omega), rd_fr0 hr, if_neg (by omega), if_neg (by omega), if_pos (by omega)]
    rfl
  · rw [R _ (by omega) (by omega), rd_fr0 hr, if_neg (by omega), if_neg (by omega), if_pos (by omega)]
    rfl
  · rw [R _ (by omega) (by omega), rd_fr0 hr, if_neg (by omega), if_neg (by omega), if_pos (by omega)]
    rfl
  · rw [R _ (by omega) (by omega), rd_fr0 hr, if_neg (by omega), if_neg (by omega), if_pos (by omega)]
    rfl
  · rw [R _ (by omega) (by omega), rd_fr0 hr, if_neg (by omega), if_neg (by omega), if_neg (by omega), if_pos rfl]
  · rw [R _ (by omega) (by omega), rd_fr0 hr, if_neg (by omega), if_neg (by omega), if_neg (by omega), if_neg (by omega)] at z
    exact z
  · rw [R _ (by omega) (by omega), rd_fr0 hr, if_neg (by omega), if_neg (by omega), if_neg (by omega), if_neg (by omega)]
/-- the reader's stock known: it stands aside no longer -/
theorem Sim_in {Z Z2 O : Nat → Prop} {M Mr : zMem} {w T c b r : Nat} (h : SimZ Z O M w Mr T c b) (hr : r < 4) (hZ : ∀ s, s < 4 → ¬ s = r → Z s → Z2 s) (hS : S_stock M w (Mr.1 24 0 0) r) : SimZ Z2 O M w Mr T c b := by
  obtain ⟨h1, h2, h3, h4, h5, h6, h7, h8, h9⟩ := h
  refine ⟨h1, h2, h3, h4, h5, h6, h7, h8, fun s hs => ?_⟩
  obtain ⟨k1, k2, k3, k4, k5, k6⟩ := h9 s hs
  refine ⟨k1, k2, k3, k4, k5, fun z => ?_⟩
  by_cases e : s = r
  · subst e
    exact hS
  · exact k6 (fun y => z (hZ s hs e y))
