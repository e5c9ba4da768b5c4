/-! stop, power -/
theorem two_stop {J : zMem} {b : Nat} {r : Int32} (h : SB J b) (hb : b < 2147000000) : z_two J 130 191 [.inl r] b := by
  obtain ⟨T, c, hT, hc, hs⟩ := h.1
  have h9 := hs.2.2.2.2.2.2.2.2
  by_cases e : c_mStop J r
  · obtain ⟨e1, e2⟩ := id e
    obtain ⟨j, hj, rfl, cl, -⟩ := rd_of (isIn_rd.mp e1)
    rw [cl] at e2
    have e1j : J.1 24 0 0 (278 + j) = 1 := (h9 j hj).2.1.2.1.resolve_left e2
    have k1 : J.1 4 0 j 1 = J.1 24 0 0 (278 + j) := (h9 j hj).1.1 1 (by omega)
    have nb := isIn_rd.mp e1
    have same : ∀ q, (m_intr J 0 j (nI j)).1 24 0 0 q = J.1 24 0 0 q := fun q => (fw_0 (@fw_intr 0 j J (nI j))).1 _ _ _ _ (by omega)
    generalize eJ : m_intr J 0 j (nI j) = J2 at *
    have st := Sim_intr (Sim_R hs same) hj (by omega) ((same _).trans e1j)
    rw [eJ] at st
    have came : ¬ (m_intr2 J 0 j (nI j)).1 2 0 0 1 < 0 := by
      have q : (m_intr2 J 0 j (nI j)).1 2 0 0 1 = J.1 2 0 0 1 := (zn_upO (by decide)).trans (fM0 (by omega) (by omega))
      rw [q, hs.2.1.1]
      exact nI_pos (by omega)
    refine two_s (J2 := J2) (J3 := n_breaks J2 j c) h (v := .inl 1) (fun _ K hK => ?_) (fun _ K hK => ?_) (by rw [← eJ]; exact fw_0 fw_intr) fr_breaks ⟨T, c + 1, hT, by omega, Sim_b st (by omega)⟩
    · refine w9_stop (v := 1) (M2 := J2) (.inr rfl) (fun K2 q => s_intr (fun z => ?_) (fun _ _ => ?_) (fun _ _ => ?_)) hK
      · rw [cl, k1, e1j] at z
        exact (z.elim nb (fun z => absurd z (by decide))).elim
      · rw [cl]
        exact came
      · rw [cl, eJ]
        exact q
    · refine s_mStop (c := c) ((same 4).trans hs.2.1.2.1) (by omega) (fun _ => ?_) (fun z => (z ⟨e1, ?_⟩).elim)
      · rw [cl]
        exact hK
      · rw [cl, same]
        exact e2
  · refine two_q h (v := .inl 0) (fun _ K hK => ?_) (fun _ K hK => s_mStop (c := c) hs.2.1.2.1 (by omega) (fun z => (e z).elim) (fun _ => hK))
    have bad : (r < 0 ∨ r ≥ 4) ∨ J.1 4 0 r.toNatClampNeg 1 = 0 := by
      by_cases c0 : r < 0 ∨ r ≥ 4
      · exact .inl c0
      · obtain ⟨j, hj, rfl, cl, i3⟩ := rd_of c0
        refine .inr ?_
        have k1 : J.1 4 0 j 1 = J.1 24 0 0 (278 + j) := (h9 j hj).1.1 1 (by omega)
        rw [cl, k1]
        exact Classical.byContradiction (fun z => e ⟨i3, by rw [cl]; exact z⟩)
    exact w9_stop (v := 0) (M2 := J) (.inl rfl) (fun K2 q => s_intr (fun _ => q) (fun z1 z2 => (bad.elim z1 z2).elim) (fun z1 z2 => (bad.elim z1 z2).elim)) hK
def z_Tr : Nat → Prop := fun _ => True
theorem Sim_O {Z O O2 : Nat → Prop} {M Mr : zMem} {w T c b : Nat} (h : SimZ Z O M w Mr T c b) (hO : ∀ i, i < 24 → ¬ O2 i → ¬ O i) : SimZ Z O2 M w Mr T c b := by
  obtain ⟨h1, h2, h3, h4, h5, h6, h7, h8, h9⟩ := h
  exact ⟨h1, h2, h3, h4, fun i hi o => h5 i hi (hO i hi o), h6, h7, h8, h9⟩
/-- looked at all: what is behind it -/
theorem Sim_looks {Z : Nat → Prop} {M Mr : zMem} {w T c b : Nat} (h : SimZ Z z_Tr M w Mr T c b) (hT : T < 2147483648) : SimZ Z z_F (z_it (f_settle w) 24 M) w (n_looks Mr) T c b := by
  obtain ⟨t5, t0⟩ := Sim_t h
  obtain ⟨h1, h2, h3, h4, h5, h6, h7, h8, h9⟩ := h
  have ho : S_on M w (Mr.1 24 0 0) := fun r hr => ⟨(h9 r hr).1.1 0 (by omega), (h9 r hr).2.1.1⟩
  obtain ⟨l1, l2, l3, l4, l5, l6, l7, l8⟩ := S_looks h4 ho t0 t5 hT h3 24 (Nat.le_refl _)
  have e : n_looks Mr = z_it f_look 24 Mr := rfl
  rw [e]
  generalize z_it (f_settle w) 24 M = M2 at *
  generalize eR : z_it f_look 24 Mr = Mr2 at *
  have oM : ∀ a c d, ¬ a = 7 → ¬ a = 20 → M2.1 a w c d = M.1 a w c d := fun a c d e1 e2 => l5 a w c d (by omega) (by omega)
  -- the places of tags that looking leaves alone
  have keep : ∀ n, n ≤ 24 → ∀ i, i < 24 → ∀ k, k = 0 ∨ k = 1 ∨ k = 2 ∨ k = 4 → (z_it f_look n Mr).1 24 0 0 (454 + 24 * k + i) = Mr.1 24 0 0 (454 + 24 * k + i) := by
    intro n
    induction n with
    | zero => intro _ i _ k _; rfl
    | succ n ih =>
      intro hn i hi k hk
      rw [z_itS]
      refine Eq.trans ?_ (ih (by omega) i hi k hk)
      generalize z_it f_look n Mr = N
      unfold f_look
      have up : ∀ x, (z_up N 24 0 0 (670 + n) x).1 24 0 0 (454 + 24 * k + i) = N.1 24 0 0 (454 + 24 * k + i) := fun x => zn_upN (by omega)
      have fd : ∀ N2 : zMem, (n_fades N2 n 0).1 24 0 0 (454 + 24 * k + i) = N2.1 24 0 0 (454 + 24 * k + i) := fun N2 => by
        unfold n_fades
        split
        · rfl
        · rw [zf_counts (by omega), rd_turns (by decide) (by omega), if_neg (by rw [if_neg (by decide)]; omega), if_neg (fun z => absurd z.1.1 (by decide))]
      split
      · rfl
      · split
        · rw [fd]
          split
          · exact up _
          · rfl
        · exact up _
  have kp := keep 24 (Nat.le_refl _)
  rw [eR] at kp
  have all : ∀ j, j < 24 → Mr2.1 24 0 0 (454 + j) = Mr.1 24 0 0 (454 + j) ∧ Mr2.1 24 0 0 (478 + j) = Mr.1 24 0 0 (478 + j) ∧ Mr2.1 24 0 0 (502 + j) = Mr.1 24 0 0 (502 + j) ∧ Mr2.1 24 0 0 (550 + j) = Mr.1 24 0 0 (550 + j) := fun j hj => ⟨by have := kp j hj 0 (by omega); rw [show 454 + 24 * 0 + j = 454 + j by omega] at this; exact this, by have := kp j hj 1 (by omega); rw [show 454 + 24 * 1 + j = 478 + j by omega] at this; exact this, by have := kp j hj 2 (by omega); rw [show 454 + 24 * 2 + j = 502 + j by omega] at this; exact this, by have := kp j hj 4 (by omega); rw [show 454 + 24 * 4 + j = 550 + j by omega] at this; exact this⟩
  refine ⟨S_wC h1 (fun k _ => oM _ _ _ (by omega) (by omega)) (fun p hp => l7 p (by omega) (by omega)), S_jourW h2 (oM _ _ _ (by omega) (by omega)) (fun p _ => oM _ _ _ (by omega) (by omega)) (fun p hp => l7 p (by omega) (by omega)), l3, l1, fun i hi _ => l4 i hi, fun i hi => S_busyW (h6 i hi) (all i hi).2.2.2 (fun r _ => l7 _ (by omega) (by omega)) (all i hi).2.2.1, S_idsW h7 (fun i hi => ⟨(all i hi).1, (all i hi).2.1⟩), ⟨(l7 19 (by omega) (by omega)).trans h8.1, (l7 20 (by omega) (by omega)).trans h8.2⟩, fun r hr => S_RW hr id (h9 r hr) (C_eq0 (fun a c d e => oM _ _ _ (by omega) (by omega))) ⟨fun p hp => l7 p (by unfold P_own P_bd at hp; omega) (by unfold P_own P_bd at hp; omega), fun t ht e => ⟨by rw [← (all t ht).2.2.2]; exact e, by unfold x_id; rw [(all t ht).2.1]⟩, .inr ⟨l7 _ (by omega) (by omega), fun t ht e => by rw [(all t ht).2.2.2]; exact e⟩⟩ (Nat.le_refl _)⟩
theorem Sim_on {Z O : Nat → Prop} {M Mr : zMem} {w T c b r : Nat} {v : Int32} (h : SimZ Z O M w Mr T c b) (hr : r < 4) (hv : v = 0 ∨ v = 1) (h1 : Mr.1 24 0 0 (278 + r) = 1 → v = 1) : SimZ Z z_Tr (z_up M 4 w r 0 v) w (z_up Mr 24 0 0 (262 + r) v) T c b := by
  have hR := h.2.2.2.2.2.2.2.2 r hr
  have s : ∀ p, ¬ p = 262 + r → (z_up Mr 24 0 0 (262 + r) v).1 24 0 0 p = Mr.1 24 0 0 p := fun p hp => zn_upN hp
  have s0 : (z_up Mr 24 0 0 (262 + r) v).1 24 0 0 (262 + r) = v := zn_upS
  refine Sim_head (Sim_O (O2 := z_Tr) h (fun i _ o => (o trivial).elim)) hr (fun a c d e => ?_) (fun p hp => s p (by omega)) (fun k hk => ?_) ⟨?_, fun z => ?_, ?_, ?_⟩ (fun i hi o => (o trivial).elim)
  · rw [z_up1, if_neg (by omega)]
  · by_cases e : k = 0
    · subst e
      have q : rp_of 0 + r = 262 + r := rfl
      rw [q, s0, zn_upS]
    · have q : ∀ k, k = 0 ∨ k = 2 ∨ k = 3 ∨ k = 4 → ¬ k = 0 → ¬ rp_of k = 262 := by
        rintro k (rfl | rfl | rfl | rfl) ne
        · exact (ne rfl).elim
        · decide
        · decide
        · decide
      rw [zn_upN e, s _ (by have := q k hk e; omega)]
      exact hR.1.1 k (by omega)
  · rw [s0]
    exact hv
  · rw [s0]
    exact h1 z
  · rw [s _ (by omega)]
    exact hR.2.1.2.2.2.1
  · rw [s _ (by omega)]
    exact hR.2.1.2.2.2.2.1
theorem two_power {J : zMem} {b : Nat} {r v : Int32} (h : SB J b) (hb : b < 2147000000) (hv : v = 0 ∨ v = 1) : z_two J 126 190 [.inl r, .inl v] b := by
  obtain ⟨T, c, hT, hc, hs⟩ := h.1
  have h9 := hs.2.2.2.2.2.2.2.2
  have bo : ∀ {x : Int32}, (x = 0 ∨ x = 1) → (if x = 1 then (1 : Int32) else 0) = x := by
    rintro x (rfl | rfl)
    · rfl
    · rfl
  by_cases e : c_mPower J r v
  · obtain ⟨e1, e2⟩ := id e
    obtain ⟨j, hj, rfl, cl, -⟩ := rd_of (isIn_rd.mp e1)
    have nb := isIn_rd.mp e1
    have hR := h9 j hj
    rw [cl, bo hR.2.1.1] at e2
    have k0 : J.1 4 0 j 0 = J.1 24 0 0 (262 + j) := hR.1.1 0 (by omega)
    have k1 : J.1 4 0 j 1 = J.1 24 0 0 (278 + j) := hR.1.1 1 (by omega)
    have came : ¬ (m_intr2 J 0 j (nI j)).1 2 0 0 1 < 0 := by
      have q : (m_intr2 J 0 j (nI j)).1 2 0 0 1 = J.1 2 0 0 1 := (zn_upO (by decide)).trans (fM0 (by omega) (by omega))
      rw [q, hs.2.1.1]
      exact nI_pos (by omega)
    -- the class's state behind the break
    have mid : ∃ M1 v0, (∀ h K2, K2 (some (.inl v0)) M1 → z_call (h + 4) 41 [.inr (.inr (9, 0, 0)), .inl (nI j)] J K2) ∧ z_fcw 0 J M1 ∧ ∀ Mr : zMem, (∀ p, Mr.1 24 0 0 p = J.1 24 0 0 p) → ∃ c2, c2 ≤ c + 1 ∧ SimZ z_F z_F M1 0 (if v = 0 then n_breaks Mr j c else Mr) T c2 b ∧ ((if v = 0 then n_breaks Mr j c else Mr).1 24 0 0 (278 + j) = 1 → v = 1) := by
      rcases hR.2.1.2.1 with z | z
      · refine ⟨J, 0, fun h K2 q => s_intr (fun _ => q) (fun _ z2 => ?_) (fun _ z2 => ?_), fw_rf, fun Mr same => ⟨c, by omega, ?_, ?_⟩⟩
        · rw [cl, k1] at z2
          exact (z2 z).elim
        · rw [cl, k1] at z2
          exact (z2 z).elim
        · have e3 : (if v = 0 then n_breaks Mr j c else Mr) = Mr := by
            split
            · unfold n_breaks
              rw [if_pos ((same _).trans z)]
            · rfl
          rw [e3]
          exact Sim_R hs same
        · intro y
          exfalso
          revert y
          have e3 : (if v = 0 then n_breaks Mr j c else Mr) = Mr := by
            split
            · unfold n_breaks
              rw [if_pos ((same _).trans z)]
            · rfl
          rw [e3, same, z]
          decide
      · -- it takes stock: it is on, so it is turned off
        have on1 := hR.2.1.2.2.1 z
        have v0 : v = 0 := hv.resolve_right (fun y => e2 (by rw [on1, y]))
        refine ⟨m_intr J 0 j (nI j), 1, fun h K2 q => s_intr (fun z2 => ?_) (fun _ _ => ?_) (fun _ _ => ?_), fw_intr, fun Mr same => ⟨c + 1, by omega, ?_, fun y => ?_⟩⟩
        · rw [cl, k1, z] at z2
          exact (z2.elim nb (fun y => absurd y (by decide))).elim
        · rw [cl]
          exact came
        · rw [cl]
          exact q
        · rw [if_pos v0]
          exact Sim_intr (Sim_R hs same) hj (by omega) ((same _).trans z)
        · rw [if_pos v0] at y
          exfalso
          have q : (n_breaks Mr j c).1 24 0 0 (278 + j) = 0 := by
            unfold n_breaks
            rw [if_neg (by rw [same, z]; decide), zf_logs (by omega) (by omega), zf_counts (by omega)]
            exact fR1
          rw [q] at y
          exact absurd y (by decide)
    obtain ⟨M1, v0, hi, fM, hSim⟩ := mid
    have fJ : z_fcw 0 J (m_turn M1 0 j v) := fw_tr fM fw_turn
    have same : ∀ q, (m_turn M1 0 j v).1 24 0 0 q = J.1 24 0 0 q := fun q => (fw_0 fJ).1 _ _ _ _ (by omega)
    generalize eJ : m_turn M1 0 j v = J2 at *
    obtain ⟨c2, hc2, hs2, ht⟩ := hSim J2 same
    have hvv : (if v = 0 then (0 : Int32) else 1) = v := by
      rcases hv with y | y
      · rw [y]
        rfl
      · rw [y]
        rfl
    have st := Sim_looks (Sim_on hs2 hj hv ht) (by omega)
    have eM : z_it (f_settle 0) 24 (z_up M1 4 0 j 0 v) = J2 := eJ
    have eR : n_looks (z_up (if v = 0 then n_breaks J2 j c else J2) 24 0 0 (262 + j) v) = n_power J2 j v c := by
      unfold n_power n_power1
      rw [hvv]
    rw [eM, eR] at st
    refine two_s (J2 := J2) (J3 := n_power J2 j v c) h (v := .inl 1) (fun h K hK => ?_) (fun _ K hK => ?_) (fw_0 fJ) fr_power ⟨T, c2, hT, by omega, Sim_b st (by omega)⟩
    · refine w9_power (v := 1) (M2 := J2) (.inr rfl) (fun K2 q => s_turn (M1 := M1) (r0 := v0) nb ?_ hv (fun K3 q3 => hi _ K3 q3) ?_) hK
      · rw [cl, k0]
        exact e2
      · rw [cl, eJ]
        exact q
    · refine s_mPower (c := c) ((same 4).trans hs.2.1.2.1) (by omega) (fun _ => ?_) (fun z => (z ⟨e1, ?_⟩).elim)
      · rw [cl]
        exact hK
      · rw [cl, same, bo hR.2.1.1]
        exact e2
  · refine two_q h (v := .inl 0) (fun _ K hK => ?_) (fun _ K hK => s_mPower (c := c) hs.2.1.2.1 (by omega) (fun z => (e z).elim) (fun _ => hK))
    refine w9_power (v := 0) (M2 := J) (.inl rfl) (fun K2 q => s_turn0 ?_ q) hK
    by_cases c0 : r < 0 ∨ r ≥ 4
    · exact .inl c0
    · obtain ⟨j, hj, rfl, cl, i3⟩ := rd_of c0
      refine .inr ?_
      have k0 : J.1 4 0 j 0 = J.1 24 0 0 (262 + j) := (h9 j hj).1.1 0 (by omega)
      rw [cl, k0]
      exact Classical.byContradiction (fun z => e ⟨i3, by rw [cl, bo (h9 j hj).2.1.1]; exact z⟩)
