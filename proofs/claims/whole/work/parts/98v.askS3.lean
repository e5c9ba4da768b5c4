/-! one ask of a slots reader: the whole -/
def m_hr (M : zMem) (w r : Nat) (S : Int32) : zMem := if r_bc S = 0 then m_hear0 M w r (nI r) else if r_bc S = 1 then m_hear1 M w r (r_ntz S).toNatClampNeg (nI r) else m_hear2 M w r (nI r) (r_bc S)
def m_aS2 (Mh : zMem) (w r : Nat) (S J : Int32) : zMem := m_as (m_as3 Mh w r S) w r (nI r) J (gS (m_as3 Mh w r S) w r)
def m_askS (M : zMem) (w r : Nat) (J : Int32) : zMem := m_aS2 (m_hr M w r (r_inSlotZero M w (nI r) &&& (J ^^^ -1))) w r (r_inSlotZero M w (nI r) &&& (J ^^^ -1)) J
theorem ask_S {M Mr : zMem} {w T c b r : Nat} {qJ : Nat → Bool} (h : SimZ z_F z_F M w Mr T c b) (hr : r < 4) (hc : c < 2147482000) (hT : T < 2147483648) (ht : Mr.1 24 0 0 (278 + r) = 1) (hm : Mr.1 24 0 0 (294 + r) = nI 0 ∨ Mr.1 24 0 0 (294 + r) = nI 2)
    (hJ : ∀ t, t < 24 → Mr.1 24 0 0 (694 + t) = if qJ t = true then 1 else 0) (tb : ∀ j, j < 221 → M.2 46 j = tC j) :
    ∃ Ma N' c', c' ≤ c + 2 ∧ (∀ (h : Nat) (K : zK), K none Ma → z_call (h + 70) 42 [.inr (.inr (9, w, 0)), .inl (nI r), .inl (z_mk qJ 24)] M K) ∧ (∀ (h : Nat) (K : zK), K none N' → z_call (h + 70) 214 [.inr (.inr (11, 0, 0)), .inl (nI r)] Mr K) ∧ z_fcw w M Ma ∧ z_fr Mr N' ∧ SimZ z_F z_F Ma w N' T c' (b + 1) ∧ kp r Mr N' ∧ Ma = m_askS M w r (z_mk qJ 24) := by
  obtain ⟨k1, k2, k3, k4, k5, k6⟩ := h.2.2.2.2.2.2.2.2 r hr
  obtain ⟨s1, s2, s3, e, s, c0, q, s4, s5, s6, s7, s8, s9, s10⟩ := (k6 (fun z => z)).2.1 ht hm
  obtain ⟨hsum, hq⟩ := s9
  obtain ⟨md, hmd, emd⟩ : ∃ md, (md = 0 ∨ (md = 2 ∧ q ≤ 4)) ∧ Mr.1 24 0 0 (294 + r) = nI md := by
    rcases hm with z | z
    · exact ⟨0, .inl rfl, z⟩
    · exact ⟨2, .inr ⟨rfl, s10 z⟩, z⟩
  have c8 : M.1 4 w r 8 = nI md := (show M.1 4 w r 8 = Mr.1 24 0 0 (294 + r) from k1.1 8 (by omega)).trans emd
  have f0 : M.1 8 w (2 * r + 1) 0 = nI e := (show M.1 8 w (2 * r + 1) 0 = Mr.1 24 0 0 (338 + r) from s3 0 (by omega)).trans s4
  have f1 : M.1 8 w (2 * r + 1) 1 = nI s := (show M.1 8 w (2 * r + 1) 1 = Mr.1 24 0 0 (342 + r) from s3 1 (by omega)).trans s5
  have f2 : M.1 8 w (2 * r + 1) 2 = nI c0 := (show M.1 8 w (2 * r + 1) 2 = Mr.1 24 0 0 (346 + r) from s3 2 (by omega)).trans s6
  have hasS : ¬ r_hasSlots M w r = 0 := by
    unfold r_hasSlots
    rw [c8]
    rcases hmd with rfl | ⟨rfl, -⟩
    · decide
    · decide
  -- who answers
  generalize eA : (fun t => decide (Mr.1 24 0 0 (550 + t) = nI r ∧ Mr.1 24 0 0 (574 + t) = 0) && !qJ t) = A
  have hA : ∀ t, t < 24 → (A t = true ↔ (Mr.1 24 0 0 (550 + t) = nI r ∧ Mr.1 24 0 0 (694 + t) = 0 ∧ Mr.1 24 0 0 (574 + t) = 0)) := fun t ht2 => by
    rw [← eA, hJ t ht2]
    show (decide (Mr.1 24 0 0 (550 + t) = nI r ∧ Mr.1 24 0 0 (574 + t) = 0) && !qJ t) = true ↔ _
    rw [Bool.and_eq_true, decide_eq_true_iff]
    cases hqj : qJ t with
    | true => exact ⟨fun z => absurd z.2 (by decide), fun z => absurd z.2.1 (by decide)⟩
    | false => exact ⟨fun z => ⟨z.1.1, rfl, z.1.2⟩, fun z => ⟨⟨z.1, z.2.2⟩, rfl⟩⟩
  have eS : r_inSlotZero M w (nI r) &&& (z_mk qJ 24 ^^^ -1) = z_mk A 24 := by
    unfold r_inSlotZero
    rw [z_mkD]
    refine z_mkC (fun i hi => ?_)
    obtain ⟨t4, t5, -⟩ := T_bs (h.2.2.2.1 i hi)
    rw [t4, t5, ← eA]
  have hP : ∀ t, t < 24 → (p_ans Mr r 0 0 t ↔ A t = true) := fun t ht2 => by
    unfold p_ans
    have tr : r_tree Mr r = 0 := by
      unfold r_tree
      rcases hm with z | z
      · rw [z]
        decide
      · rw [z]
        decide
    rw [if_pos tr, hA t ht2, hJ t ht2]
    cases hqj : qJ t with
    | true => exact ⟨fun z => (z.2.1 rfl).elim, fun z => absurd z.2.1 (by decide)⟩
    | false => exact ⟨fun z => ⟨z.1, rfl, z.2.2⟩, fun z => ⟨z.1, by decide, z.2.2⟩⟩
  obtain ⟨g1, g2⟩ := g_ans24 hP
  have hbc : r_bc (z_mk A 24) = nI (fb_ct A 24) := z_bcM A
  have hk24 := fb_ct_le A 24
  generalize ek : fb_ct A 24 = k at *
  -- the start of the answer
  have st0 : SimZ (fun q => q = r) z_F (m_cnt M w 0 1) w (n_gath Mr r 0 0) T c b := Sim_R (Sim_wk _ (Sim_cnt (k := 0) (x := 1) h (by omega))) (fun p => gath_N)
  have G : ∀ p, ¬ p = 5 → (n_gath Mr r 0 0).1 24 0 0 p = Mr.1 24 0 0 p := fun p hp => zf_gath hp
  have came : ¬ M.1 2 w 0 1 < 0 := by
    rw [h.2.1.1]
    exact nI_pos (by omega)
  have c4 : Mr.1 24 0 0 4 = nI c := h.2.1.2.1
  have hJb : ∀ t, t < 24 → (if qJ t = true then (1 : Int32) else 0) = if bt (z_mk qJ 24) t = true then 1 else 0 := fun t ht2 => by
    rw [bt_mk qJ 24 (by omega) t (by omega), decide_eq_true ht2, Bool.true_and]
  -- the calls' common part
  have fin : ∀ (Mh N Ma N' : zMem) (cc : Nat), (∀ (h : Nat) (K : zK), K none Mh → z_call (h + 60) 46 [.inr (.inr (9, w, 0)), .inl (nI r), .inr (.inr (4, w, r)), .inl (z_mk A 24)] M K) → (∀ (h : Nat) (K : zK), K none Ma → z_call (h + 60) 48 [.inr (.inr (9, w, 0)), .inl (nI r), .inr (.inr (4, w, r)), .inl (z_mk A 24), .inl (z_mk qJ 24)] Mh K) → ∀ (h : Nat) (K : zK), K none Ma → z_call (h + 70) 42 [.inr (.inr (9, w, 0)), .inl (nI r), .inl (z_mk qJ 24)] M K := by
    intro Mh N Ma N' cc h1 h2 h' K hK
    have as := @s_askS (h' + 63) w M Mh Ma (nI r) (z_mk qJ 24) K (fun z => z.elim (nI_pos (by omega)) (nI_ge (b := 4) (by omega) (by omega)))
    rw [nI_clamp (by omega), eS] at as
    exact as hasS (fun K2 q2 => h1 (h' + 9) K2 q2) (fun K2 q2 => h2 (h' + 9) K2 q2) hK
  have hJn : ∀ (N : zMem), (∀ t, t < 24 → N.1 24 0 0 (694 + t) = Mr.1 24 0 0 (694 + t)) → ∀ t, t < 24 → N.1 24 0 0 (694 + t) = if bt (z_mk qJ 24) t = true then 1 else 0 := fun N hN t ht2 => ((hN t ht2).trans (hJ t ht2)).trans (hJb t ht2)
  have tbn : ∀ N : zMem, z_fcw w M N → ∀ j, j < 221 → (m_as3 N w r (z_mk A 24)).2 46 j = tC j := fun N hN j hj => by
    rw [fw_as3.2, hN.2]
    exact tb j hj
  rcases Nat.lt_or_ge k 2 with k2l | k2g
  · rcases Nat.lt_or_ge k 1 with k0l | k1g
    · -- nobody
      obtain rfl : k = 0 := by omega
      have st1 := Sim_h0 st0 hr (show c < 2147483000 by omega)
      have eN : ∀ p, 262 ≤ p → ¬ p = 310 + r → (n_empty (n_gath Mr r 0 0) r c).1 24 0 0 p = Mr.1 24 0 0 p := fun p h1 h2 => (empty_N h1 h2).trans (G p (by omega))
      have hk : ∀ a cc d, (a = 3 ∨ (a = 8 ∧ cc = 2 * r + 1)) → (m_hear0 M w r (nI r)).1 a w cc d = M.1 a w cc d := fun a cc d e => hear_keep e
      have eh : m_tallyAdd (m_write (m_cnt (m_cnt M w 0 1) w 1 1) w (nI r) 1 0) w (2 * r) 0 = m_hear0 M w r (nI r) := rfl
      rw [eh] at st1
      have fwh : z_fcw w M (m_hear0 M w r (nI r)) := fw_tr (fw_tr (fw_tr fw_cnt fw_cnt) fw_wr) fw_tadd
      have x := as_k0 (S := z_mk A 24) (e := e) (s := s) (c0 := c0) (q := q) (md := md) st1 hr ⟨(hk _ _ _ (.inl rfl)).trans s1, (eN _ (by omega) (by omega)).trans s2, (hk _ _ _ (.inr ⟨rfl, rfl⟩)).trans f0, (hk _ _ _ (.inr ⟨rfl, rfl⟩)).trans f1, (hk _ _ _ (.inr ⟨rfl, rfl⟩)).trans f2, (eN _ (by omega) (by omega)).trans s4, (eN _ (by omega) (by omega)).trans s5, (eN _ (by omega) (by omega)).trans s6, (eN _ (by omega) (by omega)).trans s8, (eN _ (by omega) (by omega)).trans emd, (eN _ (by omega) (by omega)).trans s7, (eN _ (by omega) (by omega)).trans ht⟩ hbc
      have eB : n_qfE (z_up (n_empty (n_gath Mr r 0 0) r c) 24 0 0 (338 + r) ((n_empty (n_gath Mr r 0 0) r c).1 24 0 0 (338 + r) + 1)) r = n_slE (n_gath Mr r 0 0) r c := rfl
      have BN : ∀ p, 262 ≤ p → ¬ p = 266 + r → ¬ p = 310 + r → ¬ p = 338 + r → (n_slE (n_gath Mr r 0 0) r c).1 24 0 0 p = Mr.1 24 0 0 p := fun p h1 h2 h3 h4 => by
        unfold n_slE
        rw [qfE_N h2, zn_upN h4]
        exact eN p h1 h3
      have frB : z_fr Mr (n_slE (n_gath Mr r 0 0) r c) := by
        unfold n_slE
        exact fr_tr (fr_tr (fr_tr fr_gath fr_empty) fr_up) fr_qfE
      have qE := fun (h' : Nat) (K : zK) => @s_slotE (h' + 65) r c Mr K hr c4 (by omega) g1
      simp only [eB] at x
      generalize n_slE (n_gath Mr r 0 0) r c = B at *
      obtain ⟨Ma, N', c', a1, a2, a3, a4, a5, a6, a7, a8⟩ := ask_fin (J := z_mk qJ 24) x hr (by omega) (by omega) hq hmd (hJn B (fun t ht2 => BN _ (by omega) (by omega) (by omega) (by omega))) (tbn _ fwh)
      refine ⟨Ma, N', c', by omega, fin _ B Ma N' c' (fun h' K hK => s_hear0 hbc came hK) a2, fun h' K hK => ?_, fw_tr fwh (fw_tr fw_as3 a4), fr_tr frB a5, a6, kp_tr (kp_of (fun p hp => ?_)) a7, ?_⟩
      · refine qE h' K (fun v3 => ?_)
        have a3' := a3 (h' + 9) K v3 hK
        rw [BN _ (by omega) (by omega) (by omega) (by omega)] at a3'
        exact a3'
      · unfold P_kp at hp
        exact BN p (by omega) (by omega) (by omega) (by omega)
      · rw [a8]
        unfold m_askS m_hr
        rw [eS, hbc, if_pos (show nI 0 = 0 from rfl)]
        rfl
    · -- one
      obtain rfl : k = 1 := by omega
      obtain ⟨t, t24, at1, au⟩ := ct_one ek
      have g3 : (g_ans Mr r 0 0 24).2 = nI t := g2 t t24 at1 (fun s hs => by
        cases hb : A s with
        | false => rfl
        | true =>
          have := au s (by omega) hb
          omega)
      have hz : r_ntz (z_mk A 24) = nI t := ntz_mk t24 at1 au
      have hb : Mr.1 24 0 0 (550 + t) = nI r := ((hA t t24).mp at1).1
      have hin : ¬ M.1 7 w t 0 = 0 := by
        rw [(S_01 (h.2.2.2.1 t t24)).1, (Sim_bsy h hr t t24 hb).2.1]
        decide
      obtain ⟨sN, hsN, eS2⟩ := k2.2.2.2.2.2.1
      have k4' := k4
      obtain ⟨m, hm24, em, -⟩ := k4'
      obtain ⟨mlt, hl⟩ := reads_lt k4 em t24 hb hm24
      have X : ∀ p, ¬ p = 5 → ¬ p = 342 + r → (z_up (n_gath Mr r 0 0) 24 0 0 (342 + r) ((n_gath Mr r 0 0).1 24 0 0 (342 + r) + 1)).1 24 0 0 p = Mr.1 24 0 0 p := fun p h1 h2 => (zn_upN h2).trans (G p h1)
      have X2 : (z_up (n_gath Mr r 0 0) 24 0 0 (342 + r) ((n_gath Mr r 0 0).1 24 0 0 (342 + r) + 1)).1 24 0 0 (342 + r) = nI (s + 1) := by
        rw [zn_upS, G _ (by omega), s5]
        exact nI_1 s
      have st0' : SimZ (fun q => q = r) z_F (m_cnt M w 0 1) w (z_up (n_gath Mr r 0 0) 24 0 0 (342 + r) ((n_gath Mr r 0 0).1 24 0 0 (342 + r) + 1)) T c b := Sim_stk st0 hr (fun _ _ _ _ => rfl) (fun p hp => zn_upN (by unfold P_stk at hp; omega)) ⟨0, by omega, (X _ (by omega) (by omega)).trans s2⟩
      have st1 := Sim_h1 st0' hr (show c < 2147483000 by omega) t24 ((X _ (by omega) (by omega)).trans hb) hsN ((X _ (by omega) (by omega)).trans eS2) ((X _ (by omega) (by omega)).trans em) hm24 hT
      have hk : ∀ a cc d, (a = 3 ∨ (a = 8 ∧ cc = 2 * r + 1)) → (m_hear1 M w r t (nI r)).1 a w cc d = M.1 a w cc d := fun a cc d e => hear_keep1 e
      have eh : m_tallyAdd (m_readTag (m_write (m_cnt (m_cnt M w 0 1) w 2 1) w (nI r) 2 (nI t)) w r t (nI r)) w (2 * r) 1 = m_hear1 M w r t (nI r) := rfl
      rw [eh] at st1
      have fwh : z_fcw w M (m_hear1 M w r t (nI r)) := fw_tr (fw_tr (fw_tr (fw_tr fw_cnt fw_cnt) fw_wr) fw_readTag) fw_tadd
      have frB : z_fr Mr (n_slR (n_gath Mr r 0 0) r t sN m c) := by
        unfold n_slR
        exact fr_tr (fr_tr fr_gath fr_up) fr_reads
      have qR := fun (h' : Nat) (K : zK) => @s_slotR (h' + 65) r t sN m c Mr K hr t24 hsN mlt g1 g3 eS2 em hb hl c4 (by omega)
      have eB : n_reads (z_up (n_gath Mr r 0 0) 24 0 0 (342 + r) ((n_gath Mr r 0 0).1 24 0 0 (342 + r) + 1)) r t sN m c = n_slR (n_gath Mr r 0 0) r t sN m c := rfl
      have BN : ∀ p, 262 ≤ p → (p < 358 ∨ (694 ≤ p ∧ p < 718)) → ¬ p = 306 + r → ¬ p = 342 + r → (n_slR (n_gath Mr r 0 0) r t sN m c).1 24 0 0 p = Mr.1 24 0 0 p := fun p h1 h2 h3 h4 => by
        rw [← eB, reads_N hr t24 hsN mlt h1 h3 (by omega) (by omega) (by omega) (by omega) (by omega) (by omega) (by omega)]
        exact X p (by omega) h4
      have B342 : (n_slR (n_gath Mr r 0 0) r t sN m c).1 24 0 0 (342 + r) = nI (s + 1) := by
        rw [← eB, reads_N hr t24 hsN mlt (by omega) (by omega) (by omega) (by omega) (by omega) (by omega) (by omega) (by omega) (by omega)]
        exact X2
      have B550 : ∀ t2, t2 < 24 → (n_slR (n_gath Mr r 0 0) r t sN m c).1 24 0 0 (550 + t2) = if t2 = t then -1 else Mr.1 24 0 0 (550 + t2) := fun t2 h2 => by
        by_cases e2 : t2 = t
        · rw [if_pos e2, e2, ← eB]
          exact reads_5 hr t24 hsN mlt
        · rw [if_neg e2, ← eB, reads_N hr t24 hsN mlt (by omega) (by omega) (by omega) (by omega) (by omega) (by omega) (by omega) (by omega) (by omega)]
          exact X _ (by omega) (by omega)
      rw [eB] at st1
      generalize n_slR (n_gath Mr r 0 0) r t sN m c = B at *
      have x := as_k1 (S := z_mk A 24) (e := e) (s := s) (c0 := c0) (q := q) (md := md) st1 hr ((hk _ _ _ (.inl rfl)).trans s1) ((BN _ (by omega) (by omega) (by omega) (by omega)).trans s2) ((hk _ _ _ (.inr ⟨rfl, rfl⟩)).trans f0) ((hk _ _ _ (.inr ⟨rfl, rfl⟩)).trans f1) ((hk _ _ _ (.inr ⟨rfl, rfl⟩)).trans f2) ((BN _ (by omega) (by omega) (by omega) (by omega)).trans s4) B342 ((BN _ (by omega) (by omega) (by omega) (by omega)).trans s6) ((BN _ (by omega) (by omega) (by omega) (by omega)).trans s8) ((BN _ (by omega) (by omega) (by omega) (by omega)).trans emd) ((BN _ (by omega) (by omega) (by omega) (by omega)).trans s7) ((BN _ (by omega) (by omega) (by omega) (by omega)).trans ht) hbc
      obtain ⟨Ma, N', c', a1, a2, a3, a4, a5, a6, a7, a8⟩ := ask_fin (J := z_mk qJ 24) x hr (by omega) (by omega) hq hmd (hJn B (fun t ht2 => BN _ (by omega) (by omega) (by omega) (by omega))) (tbn _ fwh)
      refine ⟨Ma, N', c', by omega, fin _ B Ma N' c' (fun h' K hK => s_hear1 hbc hz t24 hin came hK) a2, fun h' K hK => ?_, fw_tr fwh (fw_tr fw_as3 a4), fr_tr frB a5, Sim_b a6 (by omega), kp_tr ⟨fun p hp => ?_, fun s' t2 h1 h2 h3 y => ?_⟩ a7, ?_⟩
      · refine qR h' K (fun v3 => ?_)
        have a3' := a3 (h' + 9) K v3 hK
        rw [BN _ (by omega) (by omega) (by omega) (by omega)] at a3'
        exact a3'
      · unfold P_kp at hp
        exact BN p (by omega) (by omega) (by omega) (by omega)
      · rw [B550 t2 h3] at y
        by_cases e2 : t2 = t
        · rw [if_pos e2] at y
          exact (nm1 h1 y).elim
        · rw [if_neg e2] at y
          exact y
      · rw [a8]
        unfold m_askS m_hr
        rw [eS, hbc, if_neg (show ¬ nI 1 = 0 by decide), if_pos (show nI 1 = 1 from rfl), hz, nI_clamp (by omega)]
        rfl
  · -- more
    have ne0 : ¬ nI k = 0 := nI_ne0 (by omega) (by omega)
    have ne1 : ¬ nI k = 1 := fun z => by
      have := (nI_eq (b := 1) (by omega) (by decide)).mp z
      omega
    have st1 := Sim_h2 st0 hr (show c < 2147483000 by omega) k2g hk24 (zf_gath5.trans g1)
    have eN : ∀ p, 262 ≤ p → ¬ p = 314 + r → (n_clashes (n_gath Mr r 0 0) r c).1 24 0 0 p = Mr.1 24 0 0 p := fun p h1 h2 => (clash_N h1 h2).trans (G p (by omega))
    have hk : ∀ a cc d, (a = 3 ∨ (a = 8 ∧ cc = 2 * r + 1)) → (m_hear2 M w r (nI r) (nI k)).1 a w cc d = M.1 a w cc d := fun a cc d e => hear_keep e
    have eh : m_tallyAdd (m_write (m_cnt (m_cnt M w 0 1) w 3 1) w (nI r) 3 (nI k)) w (2 * r) (nI k) = m_hear2 M w r (nI r) (nI k) := rfl
    rw [eh] at st1
    have fwh : z_fcw w M (m_hear2 M w r (nI r) (nI k)) := fw_tr (fw_tr (fw_tr fw_cnt fw_cnt) fw_wr) fw_tadd
    have frB : z_fr Mr (n_slC (n_gath Mr r 0 0) r c) := by
      unfold n_slC
      exact fr_tr (fr_tr (fr_tr (fr_tr fr_gath fr_clashes) fr_up) (fr_mdrop 24)) fr_qfC
    have qC := fun (h' : Nat) (K : zK) => @s_slotC (h' + 65) r c Mr K hr c4 (by omega) (fun z => ne0 (g1.symm.trans z)) (fun z => ne1 (g1.symm.trans z))
    have eB : n_qfC (z_it (f_mDrop r) 24 (z_up (n_clashes (n_gath Mr r 0 0) r c) 24 0 0 (346 + r) ((n_clashes (n_gath Mr r 0 0) r c).1 24 0 0 (346 + r) + 1))) r = n_slC (n_gath Mr r 0 0) r c := rfl
    have hh : ∀ (h : Nat) (K : zK), K none (m_hear2 M w r (nI r) (nI k)) → z_call (h + 60) 46 [.inr (.inr (9, w, 0)), .inl (nI r), .inr (.inr (4, w, r)), .inl (z_mk A 24)] M K := fun h' K hK => s_hear2 (by rw [hbc]; exact ne0) (by rw [hbc]; exact ne1) came (by rw [hbc]; exact hK)
    generalize n_slC (n_gath Mr r 0 0) r c = B at *
    generalize eW : m_hear2 M w r (nI r) (nI k) = Mh at *
    generalize n_clashes (n_gath Mr r 0 0) r c = C at *
    generalize eD : z_it (f_mDrop r) 24 (z_up C 24 0 0 (346 + r) (C.1 24 0 0 (346 + r) + 1)) = D at *
    obtain ⟨x, BC⟩ := as_k2 (e := e) (s := s) (c0 := c0) (q := q) (md := md) st1 hr ⟨(hk _ _ _ (.inl rfl)).trans s1, (eN _ (by omega) (by omega)).trans s2, (hk _ _ _ (.inr ⟨rfl, rfl⟩)).trans f0, (hk _ _ _ (.inr ⟨rfl, rfl⟩)).trans f1, (hk _ _ _ (.inr ⟨rfl, rfl⟩)).trans f2, (eN _ (by omega) (by omega)).trans s4, (eN _ (by omega) (by omega)).trans s5, (eN _ (by omega) (by omega)).trans s6, (eN _ (by omega) (by omega)).trans s8, (eN _ (by omega) (by omega)).trans emd, (eN _ (by omega) (by omega)).trans s7, (eN _ (by omega) (by omega)).trans ht⟩ k2g hk24 hbc (fun t ht2 => by rw [eN _ (by omega) (by omega), eN _ (by omega) (by omega), eN _ (by omega) (by omega)]; exact hA t ht2) eD eB
    have BN : ∀ p, 262 ≤ p → ¬ p = 266 + r → ¬ p = 314 + r → ¬ p = 346 + r → (p < 574 ∨ 598 ≤ p) → B.1 24 0 0 p = Mr.1 24 0 0 p := fun p h1 h2 h3 h4 h5 => (BC p h2 h4 h5).trans (eN p h1 h3)
    obtain ⟨Ma, N', c', a1, a2, a3, a4, a5, a6, a7, a8⟩ := ask_fin (J := z_mk qJ 24) x hr (by omega) (by omega) hq hmd (hJn B (fun t ht2 => BN _ (by omega) (by omega) (by omega) (by omega) (by omega))) (tbn _ fwh)
    refine ⟨Ma, N', c', by omega, fin _ B Ma N' c' hh a2, fun h' K hK => ?_, fw_tr fwh (fw_tr fw_as3 a4), fr_tr frB a5, a6, kp_tr (kp_of (fun p hp => ?_)) a7, ?_⟩
    · refine qC h' K (fun v3 => ?_)
      have a3' := a3 (h' + 9) K v3 hK
      rw [BN _ (by omega) (by omega) (by omega) (by omega) (by omega)] at a3'
      exact a3'
    · unfold P_kp at hp
      exact BN p (by omega) (by omega) (by omega) (by omega) (by omega)
    · rw [a8]
      unfold m_askS m_hr
      rw [eS, hbc, if_neg ne0, if_neg ne1]
      exact eW.symm ▸ rfl
