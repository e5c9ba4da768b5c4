/-! behind a slot -/
def P_kp (r p : Nat) : Prop := (694 ≤ p ∧ p < 718) ∨ (262 ≤ p ∧ p < 358 ∧ ¬ (p - 262) % 4 = r)
/-- what an ask of one reader leaves to the others -/
def kp (r : Nat) (A B : zMem) : Prop := (∀ p, P_kp r p → B.1 24 0 0 p = A.1 24 0 0 p) ∧ ∀ s t, s < 4 → ¬ s = r → t < 24 → B.1 24 0 0 (550 + t) = nI s → A.1 24 0 0 (550 + t) = nI s
theorem kp_tr {r : Nat} {A B C : zMem} (h : kp r A B) (h2 : kp r B C) : kp r A C := ⟨fun p e => (h2.1 p e).trans (h.1 p e), fun s t a b c e => h.2 s t a b c (h2.2 s t a b c e)⟩
theorem kp_of {r : Nat} {A B : zMem} (h : ∀ p, P_kp r p ∨ (550 ≤ p ∧ p < 574) → B.1 24 0 0 p = A.1 24 0 0 p) : kp r A B := ⟨fun p e => h p (.inl e), fun s t _ _ ht e => by rw [← h (550 + t) (.inr (by omega))]; exact e⟩
theorem kp_frames {A : zMem} {r : Nat} {q : Int32} (hr : r < 4) : kp r A (n_frames A r q) := kp_of (fun p hp => by
  unfold P_kp at hp
  unfold n_frames
  rw [fr_keep (by omega) (by omega) 24 (Nat.le_refl _), rd_fr0 hr, if_neg (by omega), if_neg (by omega), if_neg (by omega), if_neg (by omega)])
theorem kp_over {A : zMem} {r c : Nat} (hr : r < 4) : kp r A (n_over A r c) := by
  have e : ∀ p, ¬ p = 4 → p < 22 ∨ 262 ≤ p → ¬ p = 10 → ¬ p = 17 → (n_over A r c).1 24 0 0 p = (n_frees (n_over1 A r) r).1 24 0 0 p := fun p h1 h2 h3 h4 => by
    unfold n_over n_over2
    rw [zf_logs h2 h1, cnt_at, if_neg (by omega)]
  have e1 : ∀ p, ¬ p = 322 + r → ¬ p = 17 → (n_over1 A r).1 24 0 0 p = A.1 24 0 0 p := fun p h1 h2 => by
    unfold n_over1
    rw [cnt_at, if_neg (by omega), zn_upN h1]
  refine ⟨fun p hp => ?_, fun s t hs ne ht y => ?_⟩
  · unfold P_kp at hp
    by_cases c5 : 694 ≤ p
    · rw [e p (by omega) (by omega) (by omega) (by omega), fR0 (by omega) (by omega), e1 p (by omega) (by omega)]
    · rw [e p (by omega) (by omega) (by omega) (by omega), fR0 (by omega) (by omega), e1 p (by omega) (by omega)]
  · rw [e _ (by omega) (by omega) (by omega) (by omega), fR4 hr ht, e1 _ (by omega) (by omega)] at y
    by_cases q : A.1 24 0 0 (550 + t) = nI r
    · rw [if_pos q] at y
      exact (nm1 hs y).elim
    · rw [if_neg q] at y
      exact y
theorem shl_8 : ∀ q, q ≤ 8 → (1 : Int32) <<< (nI q &&& 31) = nI (2 ^ q) := by decide
theorem mk_0 : z_mk (fun _ => false) 24 = 0 := by decide
theorem tags0 {M Mr : zMem} {w T r : Nat} (h : S_tags M w Mr T) (hr : r < 4) : r_tagsOf M w (nI r) = 0 ↔ r_ofIt Mr (nI r) 24 = 0 := by
  have e := e_tagsOf h hr
  constructor
  · intro z
    rw [z] at e
    exact e.symm.trans (by decide)
  · intro z
    rw [e_ofIt h hr 24 (Nat.le_refl _), z_ctN] at z
    have l := fb_ct_le (fun i => decide (¬ M.1 7 w i 0 = 0 ∧ M.1 7 w i 4 = nI r)) 24
    have z0 := (nI_eq (b := 0) (by omega) (by decide)).mp z
    unfold r_tagsOf
    rw [z_mkC (q := fun _ => false) (fun i hi => fb_ct_zero.mp z0 i hi)]
    exact mk_0
def S_mid (M : zMem) (w : Nat) (R : Nat → Int32) (r e s c q md : Nat) : Prop :=
  M.1 3 w (3 * r) 1 = 0 ∧ R (326 + r) = 0 ∧ M.1 8 w (2 * r + 1) 0 = nI e ∧ M.1 8 w (2 * r + 1) 1 = nI s ∧ M.1 8 w (2 * r + 1) 2 = nI c ∧ R (338 + r) = nI e ∧ R (342 + r) = nI s ∧ R (346 + r) = nI c ∧ R (298 + r) = nI q ∧ R (294 + r) = nI md ∧ R (302 + r) = nI (e + s + c) ∧ R (278 + r) = 1
theorem bst_4 : ∀ n, n < 13 → 1 ≤ n → r_bO n 4 ≤ 4 := fun n _ _ => r_bO_le n 4
theorem qbg_N {M N : zMem} {w r e s c q : Nat} (tb : ∀ j, j < 221 → M.2 46 j = tC j) (hq : q ≤ 4) (hL : 2 ^ q = e + s + c) (h9 : M.1 4 w r 9 = nI q) :
    ∃ q2, q2 ≤ 4 ∧ r_qbg M w r e s c = nI q2 ∧ ((r_gO (n_crowds N) e s c q 13).1 = -1 → (if nI 4 ≤ nI q then nI 4 else nI q + 1) = nI q2) ∧
      (¬ (r_gO (n_crowds N) e s c q 13).1 = -1 → ∃ k, 1 ≤ k ∧ k ≤ 12 ∧ (if 1 ≤ (r_gO (n_crowds N) e s c q 13).1 - nI s then (r_gO (n_crowds N) e s c q 13).1 - nI s else 1) = nI k ∧ nI (r_bO k 4) = nI q2) := by
  have eg := e_guess (M2 := N) tb (show q < 5 by omega) hL
  have h16 : 2 ^ q ≤ 16 := Nat.pow_le_pow_right (n := 2) (by decide) hq
  have rg := r_gs_in M (e + s + c) s c (13 - s)
  unfold r_qbg
  rw [h9, eg] at *
  generalize (r_gO (n_crowds N) e s c q 13).1 = g at *
  by_cases c0 : g = -1
  · have d : ∀ q, q < 5 → ∃ q2, q2 < 5 ∧ (if nI q + 1 < 4 then nI q + 1 else 4) = nI q2 ∧ (if nI 4 ≤ nI q then nI 4 else nI q + 1) = nI q2 := by
      intro q hq
      rcases (show q = 0 ∨ q = 1 ∨ q = 2 ∨ q = 3 ∨ q = 4 by omega) with rfl | rfl | rfl | rfl | rfl
      · exact ⟨1, by decide⟩
      · exact ⟨2, by decide⟩
      · exact ⟨3, by decide⟩
      · exact ⟨4, by decide⟩
      · exact ⟨4, by decide⟩
    obtain ⟨q2, d1, d2, d3⟩ := d q (by omega)
    rw [if_pos c0]
    exact ⟨q2, by omega, d2, fun _ => d3, fun z => (z c0).elim⟩
  · obtain ⟨n, n1, n2, n3⟩ := rg.resolve_left c0
    rw [if_neg c0, n3, sub_n n1]
    have k1 : (if 1 < nI (n - s) then nI (n - s) else 1) = nI (max 1 (n - s)) := by
      by_cases z : 1 < n - s
      · rw [if_pos (show 1 < nI (n - s) from nI_lt (a := 1) z (by omega)), show max 1 (n - s) = n - s by omega]
      · rw [if_neg (show ¬ 1 < nI (n - s) from nI_nlt (b := n - s) (a := 1) (by omega) (by decide)), show max 1 (n - s) = 1 by omega]
        rfl
    have k2 : (if 1 ≤ nI (n - s) then nI (n - s) else 1) = nI (max 1 (n - s)) := by
      by_cases z : 1 ≤ n - s
      · rw [if_pos (show 1 ≤ nI (n - s) from nI_le (a := 1) z (by omega)), show max 1 (n - s) = n - s by omega]
      · rw [if_neg (show ¬ 1 ≤ nI (n - s) from nI_ge (b := 1) (a := n - s) (by omega) (by decide)), show max 1 (n - s) = 1 by omega]
        rfl
    rw [k1, e_best _ (by omega) (by omega)]
    exact ⟨r_bO (max 1 (n - s)) 4, r_bO_le _ _, rfl, fun z => (c0 (n3.trans z)).elim, fun _ => ⟨max 1 (n - s), by omega, by omega, k2, rfl⟩⟩
/-- the exponent that is guessed, where a guess is due -/
def gS (M : zMem) (w r : Nat) : Int32 := if M.1 4 w r 8 = 0 ∨ r_tallySum M w (2 * r + 1) < 1 <<< (M.1 4 w r 9 &&& 31) then 0 else r_qbg M w r (M.1 8 w (2 * r + 1) 0).toNatClampNeg (M.1 8 w (2 * r + 1) 1).toNatClampNeg (M.1 8 w (2 * r + 1) 2).toNatClampNeg
theorem slot_end {M Mr : zMem} {w T c b r e s c0 q md : Nat} {J : Int32} (h : SimZ (fun q => q = r) z_F M w Mr T c b) (hr : r < 4) (hc : c < 2147483000) (mid : S_mid M w (Mr.1 24 0 0) r e s c0 q md) (hsum : e + s + c0 ≤ 2 ^ q) (hq : q ≤ 8) (hmd : md = 0 ∨ (md = 2 ∧ q ≤ 4)) (hJ : ∀ t, t < 24 → Mr.1 24 0 0 (694 + t) = if bt J t = true then 1 else 0) (tb : ∀ j, j < 221 → M.2 46 j = tC j) :
    ∃ g E c', c' ≤ c + 1 ∧ (1 : Int32) <<< (g &&& 31) > 0 ∧ (¬ M.1 4 w r 8 = 0 → ¬ r_tallySum M w (2 * r + 1) < 1 <<< (M.1 4 w r 9 &&& 31) → ∀ (h : Nat) (K2 : zK), K2 (some (.inl g)) M → z_call (h + 50) 50 [.inr (.inr (9, w, 0)), .inr (.inr (4, w, r))] M K2) ∧
      (¬ (Mr.1 24 0 0 (294 + r) = 0 ∧ ¬ r_qOf Mr r = Mr.1 24 0 0 (298 + r)) → Mr.1 24 0 0 (302 + r) = (1 : Int32) <<< (Mr.1 24 0 0 (298 + r) &&& 31) → ∀ (h : Nat) (K2 : zK), K2 none E → z_call (h + 50) 215 [.inr (.inr (11, 0, 0)), .inl (nI r)] Mr K2) ∧
      SimZ z_F z_F (m_as M w r (nI r) J g) w (n_slot2 Mr r E) T c' b ∧ kp r Mr (n_slot2 Mr r E) ∧ z_fr Mr (n_slot2 Mr r E) ∧ g = gS M w r := by
  obtain ⟨m1, m2, m3, m4, m5, m6, m7, m8, m9, m10, m11, m12⟩ := mid
  obtain ⟨k1, k2, k3, k4, k5, k6⟩ := h.2.2.2.2.2.2.2.2 r hr
  have c8 : M.1 4 w r 8 = nI md := (show M.1 4 w r 8 = Mr.1 24 0 0 (294 + r) from k1.1 8 (by omega)).trans m10
  have c9 : M.1 4 w r 9 = nI q := (show M.1 4 w r 9 = Mr.1 24 0 0 (298 + r) from k1.1 9 (by omega)).trans m9
  obtain ⟨x, hx, ex⟩ := k2.2.2.2.1
  have c2 : M.1 4 w r 2 = nI x := (show M.1 4 w r 2 = Mr.1 24 0 0 (266 + r) from k1.1 2 (by omega)).trans ex
  have qC : r_qByQf M w r = nI ((x + 4) / 8) := by
    unfold r_qByQf
    rw [c2]
    exact qf_8 hx
  have qR : r_qOf Mr r = nI ((x + 4) / 8) := by
    unfold r_qOf
    rw [ex]
    exact qf_8 hx
  have sum : r_tallySum M w (2 * r + 1) = nI (e + s + c0) := by
    unfold r_tallySum
    rw [m3, m4, m5, nI_add, nI_add]
  have p8 : 2 ^ q ≤ 2 ^ 8 := Nat.pow_le_pow_right (by decide) hq
  have md0 : nI md = 0 ↔ md = 0 := nI_eq (b := 0) (by omega) (by decide)
  have qq : nI ((x + 4) / 8) = nI q ↔ (x + 4) / 8 = q := nI_eq (by omega) (by omega)
  have sh := shl_8 q hq
  have lt : nI (e + s + c0) < nI (2 ^ q) ↔ e + s + c0 < 2 ^ q := nI_ltI (by omega) (by omega)
  have eqq : nI (e + s + c0) = nI (2 ^ q) ↔ e + s + c0 = 2 ^ q := nI_eq (by omega) (by omega)
  have t0 := tags0 h.2.2.2.1 hr
  have pos0 : (1 : Int32) <<< ((0 : Int32) &&& 31) > 0 := by decide
  -- a frame begun anew
  have fr : ∀ q2, q2 ≤ 8 → (md = 2 → q2 ≤ 4) → ∀ Mr2 : zMem, (∀ p, Mr2.1 24 0 0 p = Mr.1 24 0 0 p) → SimZ z_F z_F (m_newFrame M w r (nI r) (nI q2)) w (n_frames Mr2 r (nI q2)) T c b := fun q2 hq2 hq4 Mr2 same => by
    obtain ⟨f1, f2, f3⟩ := Sim_frame (q := q2) (Sim_R h same) hr rfl hq2 (fun z => hq4 ((nI_eq (b := 2) (by omega) (by decide)).mp (m10.symm.trans ((same _).symm.trans z)))) m1 ((same _).trans m2)
    refine Sim_in f1 hr (fun s _ ne z => (ne z).elim) ⟨fun z => ?_, fun _ _ => f2, fun _ z => ?_⟩
    · rw [f3 _ (.inl rfl), same, m12] at z
      exact absurd z (by decide)
    · rw [f3 _ (.inr rfl), same, m10] at z
      rcases z with z | z
      · have := (nI_eq (by omega) (by omega)).mp z
        omega
      · have := (nI_eq (by omega) (by omega)).mp z
        omega
  have gA : md = 0 → gS M w r = 0 := fun z => by
    unfold gS
    rw [if_pos (.inl (c8.trans (md0.mpr z)))]
  have gB : e + s + c0 < 2 ^ q → gS M w r = 0 := fun z => by
    unfold gS
    rw [if_pos (.inr (by rw [sum, c9, sh]; exact lt.mpr z))]
  have gC : ¬ md = 0 → ¬ e + s + c0 < 2 ^ q → gS M w r = r_qbg M w r e s c0 := fun z z2 => by
    unfold gS
    rw [if_neg (fun y => by
      rcases y with y | y
      · exact z (md0.mp (c8.symm.trans y))
      · rw [sum, c9, sh] at y
        exact z2 (lt.mp y)), m3, m4, m5, nI_clamp (by omega), nI_clamp (by omega), nI_clamp (by omega)]
  unfold m_as n_slot2
  rw [c8, c9, qC, qR, sum, sh, m9, m10, m11, sh]
  by_cases A : md = 0 ∧ ¬ (x + 4) / 8 = q
  · have A1 : nI md = 0 ∧ ¬ nI ((x + 4) / 8) = nI q := ⟨md0.mpr A.1, fun z => A.2 (qq.mp z)⟩
    refine ⟨0, Mr, c, by omega, pos0, fun z => (z A1.1).elim, fun z => (z A1).elim, ?_, ?_, ?_, (gA A.1).symm⟩
    · rw [if_pos A1, if_pos A1]
      exact fr _ (by omega) (fun z => by omega) Mr (fun _ => rfl)
    · rw [if_pos A1]
      exact kp_frames hr
    · rw [if_pos A1]
      exact fr_frames
  · have A1 : ¬ (nI md = 0 ∧ ¬ nI ((x + 4) / 8) = nI q) := fun z => A ⟨md0.mp z.1, fun y => z.2 (qq.mpr y)⟩
    by_cases B : e + s + c0 < 2 ^ q
    · have B2 : ¬ nI (e + s + c0) = nI (2 ^ q) := fun z => by have := eqq.mp z; omega
      obtain ⟨d1, d2⟩ := Sim_down h hr hJ 24 (Nat.le_refl _)
      refine ⟨0, Mr, c, by omega, pos0, fun _ z => (z (lt.mpr B)).elim, fun _ z => (B2 z).elim, ?_, ?_, ?_, (gB B).symm⟩
      · rw [if_neg A1, if_pos (lt.mpr B), if_neg A1, if_neg B2]
        have dn : ∀ a cc d, ¬ a = 7 → (m_down M w (nI r) J).1 a w cc d = M.1 a w cc d := fun a cc d ne => by
          unfold m_down
          have g : ∀ n, (z_it (f_down w (nI r) J) n M).1 a w cc d = M.1 a w cc d := fun n => by
            induction n with
            | zero => rfl
            | succ n ih =>
              rw [z_itS]
              refine Eq.trans ?_ ih
              unfold f_down
              split
              · exact zn_upO ne
              · rfl
          exact g 24
        refine Sim_in (M := m_down M w (nI r) J) d1 hr (fun s _ ne z => (ne z).elim) ⟨fun z => ?_, fun _ _ => ⟨?_, ?_, fun k hk => ?_, e, s, c0, q, ?_, ?_, ?_, ?_, ?_, ⟨B, hq⟩, fun z => ?_⟩, fun _ z => ?_⟩
        · rw [d2 _ (by omega), m12] at z
          exact absurd z (by decide)
        · exact (dn _ _ _ (by decide)).trans m1
        · exact (d2 _ (by omega)).trans m2
        · have f0 : fp_of 0 + r = 338 + r := rfl
          have f1 : fp_of 1 + r = 342 + r := rfl
          have f2 : fp_of 2 + r = 346 + r := rfl
          rw [dn _ _ _ (by decide)]
          rcases (show k = 0 ∨ k = 1 ∨ k = 2 by omega) with rfl | rfl | rfl
          · rw [f0, d2 _ (by omega), m3, m6]
          · rw [f1, d2 _ (by omega), m4, m7]
          · rw [f2, d2 _ (by omega), m5, m8]
        · exact (d2 _ (by omega)).trans m6
        · exact (d2 _ (by omega)).trans m7
        · exact (d2 _ (by omega)).trans m8
        · exact (d2 _ (by omega)).trans m11
        · exact (d2 _ (by omega)).trans m9
        · rw [d2 _ (by omega), m10] at z
          have := (nI_eq (by omega) (by omega)).mp z
          omega
        · rw [d2 _ (by omega), m10] at z
          rcases z with z | z
          · have := (nI_eq (by omega) (by omega)).mp z
            omega
          · have := (nI_eq (by omega) (by omega)).mp z
            omega
      · rw [if_neg A1, if_neg B2]
        exact kp_of (fun p hp => d2 p (by unfold P_kp at hp; omega))
      · rw [if_neg A1, if_neg B2]
        exact fr_it (fun i M => by
          unfold f_mDown
          split
          · exact fr_up
          · exact fr_rf) 24
    · have B1 : ¬ nI (e + s + c0) < nI (2 ^ q) := fun z => B (lt.mp z)
      have B2 : nI (e + s + c0) = nI (2 ^ q) := eqq.mpr (by omega)
      have c4 : Mr.1 24 0 0 4 = nI c := h.2.1.2.1
      -- the guess, where one is due
      have gz : ∃ g, g = gS M w r ∧ (1 : Int32) <<< (g &&& 31) > 0 ∧ (¬ nI md = 0 → ∀ (h : Nat) (K2 : zK), K2 (some (.inl g)) M → z_call (h + 50) 50 [.inr (.inr (9, w, 0)), .inr (.inr (4, w, r))] M K2) ∧ (md = 2 → ∃ q2, q2 ≤ 4 ∧ g = nI q2 ∧ ((r_gO (n_crowds Mr) e s c0 q 13).1 = -1 → (if nI 4 ≤ nI q then nI 4 else nI q + 1) = nI q2) ∧
          (¬ (r_gO (n_crowds Mr) e s c0 q 13).1 = -1 → ∃ k, 1 ≤ k ∧ k ≤ 12 ∧ (if 1 ≤ (r_gO (n_crowds Mr) e s c0 q 13).1 - nI s then (r_gO (n_crowds Mr) e s c0 q 13).1 - nI s else 1) = nI k ∧ nI (r_bO k 4) = nI q2)) := by
        rcases hmd with y | ⟨y, y4⟩
        · exact ⟨0, (gA y).symm, pos0, fun z => (z (md0.mpr y)).elim, fun z => by omega⟩
        · obtain ⟨q2, h1, h2, h3, h4⟩ := qbg_N (N := Mr) tb y4 (show 2 ^ q = e + s + c0 by omega) c9
          have h16 : 2 ^ q ≤ 16 := Nat.pow_le_pow_right (n := 2) (by decide) y4
          refine ⟨r_qbg M w r e s c0, (gC (by omega) B).symm, ?_, fun _ h K2 hK => ?_, fun _ => ⟨q2, h1, h2, h3, h4⟩⟩
          · rw [h2]
            exact (shl_q q2 (by omega)).1
          · exact s_qbg m3 m4 m5 ((guess_N (by omega) (by omega) (by omega)).mpr ⟨q, by omega, by omega⟩) (by omega) hK
      obtain ⟨g, gg, g1, g2, g3⟩ := gz
      by_cases C1 : r_ofIt Mr (nI r) 24 = 0
      · refine ⟨g, n_over Mr r c, c + 1, by omega, g1, fun z _ => g2 z, fun _ _ h K2 hK => s_endsF0 hr c4 hc C1 hK, ?_, ?_, ?_, gg⟩
        · rw [if_neg A1, if_neg B1, if_pos (t0.mpr C1), if_neg A1, if_pos B2]
          exact Sim_over h hr hc
        · rw [if_neg A1, if_pos B2]
          exact kp_over hr
        · rw [if_neg A1, if_pos B2]
          unfold n_over n_over2 n_over1
          exact fr_tr (fr_tr (fr_tr (fr_tr fr_up fr_cnt) fr_frees) fr_cnt) fr_logs
      · by_cases C2 : md = 0
        · refine ⟨g, n_frames Mr r (nI q), c, by omega, g1, fun z _ => g2 z, fun _ _ h K2 hK => s_endsF1 hr C1 (m10.trans (md0.mpr C2)) ?_ ?_, ?_, ?_, ?_, gg⟩
          · rw [m9]
            exact (shl_q q hq).2
          · rw [m9]
            exact hK
          · rw [if_neg A1, if_neg B1, if_neg (fun z => C1 (t0.mp z)), if_pos (md0.mpr C2), if_neg A1, if_pos B2]
            exact fr q hq (fun z => by omega) Mr (fun _ => rfl)
          · rw [if_neg A1, if_pos B2]
            exact kp_frames hr
          · rw [if_neg A1, if_pos B2]
            exact fr_frames
        · have y2 : md = 2 := by clear g3; omega
          have y4 : q ≤ 4 := by clear g3; omega
          have h16 : 2 ^ q ≤ 16 := Nat.pow_le_pow_right (n := 2) (by decide) y4
          obtain ⟨q2, u1, u2, u3, u4⟩ := g3 y2
          have same : ∀ p, (n_crowds Mr).1 24 0 0 p = Mr.1 24 0 0 p := fun p => by rw [crowds_C.2.1]
          have mne : ¬ Mr.1 24 0 0 (294 + r) = 0 := by
            rw [m10]
            exact fun z => C2 (md0.mp z)
          have gc : ∀ (h : Nat) (K2 : zK), K2 (some (.inl (r_gO (n_crowds Mr) e s c0 q 13).1)) (n_crowds Mr) → z_call (h + 30) 251 [.inr (.inr (11, 0, 0)), .inl (Mr.1 24 0 0 (338 + r)), .inl (Mr.1 24 0 0 (342 + r)), .inl (Mr.1 24 0 0 (346 + r))] Mr K2 := fun h K2 hK => by
            rw [m6, m7, m8]
            exact s_guessOf (by omega) (by omega) (by omega) (by omega) (by omega) hK
          refine ⟨g, n_frames (n_crowds Mr) r (nI q2), c, by omega, g1, fun z _ => g2 z, fun _ _ h K2 hK => ?_, ?_, ?_, ?_, gg⟩
          · by_cases gm : (r_gO (n_crowds Mr) e s c0 q 13).1 = -1
            · refine s_endsF2 (g := (r_gO (n_crowds Mr) e s c0 q 13).1) (b := 0) (M2 := n_crowds Mr) hr C1 mne (fun K3 q3 => gc _ K3 q3) same (fun z => (z gm).elim) ?_ ?_
              · rw [if_pos gm, m9, u3 gm]
                exact (shl_q q2 (by omega)).2
              · rw [if_pos gm, m9, u3 gm]
                exact hK
            · obtain ⟨k, v1, v2, v3, v4⟩ := u4 gm
              refine s_endsF2 (g := (r_gO (n_crowds Mr) e s c0 q 13).1) (b := nI (r_bO k 4)) (M2 := n_crowds Mr) hr C1 mne (fun K3 q3 => gc _ K3 q3) same (fun _ K3 q3 => ?_) ?_ ?_
              · rw [m7, v3]
                exact s_bO v1 v2 q3
              · rw [if_neg gm, v4]
                exact (shl_q q2 (by omega)).2
              · rw [if_neg gm, v4]
                exact hK
          · rw [if_neg A1, if_neg B1, if_neg (fun z => C1 (t0.mp z)), if_neg (fun z => C2 (md0.mp z)), if_neg A1, if_pos B2, u2]
            exact fr q2 (by omega) (fun _ => u1) (n_crowds Mr) same
          · rw [if_neg A1, if_pos B2]
            exact kp_tr (kp_of (fun p _ => same p)) (kp_frames hr)
          · rw [if_neg A1, if_pos B2]
            exact fr_tr fr_crowds fr_frames
