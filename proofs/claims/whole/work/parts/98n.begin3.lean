/-! begin -/
theorem fw_start1 {M : zMem} {w r : Nat} {x a b c d v : Int32} : z_fcw w M (m_start1 M w r x a b c d v) := by
  unfold m_start1
  refine fw_tr (fw_tr ?_ (fw_it (fun i M => ?_) 24)) fw_wr
  · unfold m_rdStart
    exact fw_tr (fw_tr (fw_tr (fw_tr (fw_tr (fw_tr (fw_tr (fw_tr (fw_tr fw_rf (fw_up (by decide))) (fw_up (by decide))) (fw_up (by decide))) (fw_up (by decide))) (fw_up (by decide))) (fw_up (by decide))) (fw_up (by decide))) fw_tcl) fw_pcl
  · unfold f_busy
    split
    · exact fw_up (by decide)
    · exact fw_rf
theorem fw_draw {M : zMem} {w i : Nat} {x q : Int32} : z_fcw w M (f_draw w x q i M) := by
  unfold f_draw m_draw
  split
  · exact fw_tr (fw_up (by decide)) (fw_up (by decide))
  · exact fw_rf
theorem fw_nf {M : zMem} {w r : Nat} {x q : Int32} : z_fcw w M (m_newFrame M w r x q) := by
  unfold m_newFrame m_frame0
  exact fw_tr (fw_tr (fw_tr (fw_tr (fw_up (by decide)) fw_tcl) (fw_up (by decide))) (fw_up (by decide))) (fw_it (fun i M => fw_draw) 24)
theorem fw_start {M : zMem} {w r n : Nat} {x d : Int32} : z_fcw w M (m_start M w r n x d) := by
  unfold m_start
  split
  · split
    · exact fw_tr fw_pcl (fw_it (fun i M => fw_padd) n)
    · exact fw_padd
  · exact fw_nf
theorem fr_b1 {M : zMem} {r : Nat} : ∀ n, z_fr M (z_it (f_b1 r) n M) := fr_it (fun i M => fr_up)
theorem fr_begP {M : zMem} {r s c : Nat} {ta so mo : Int32} : z_fr M (n_begP M r s c ta so mo) := by
  unfold n_begP n_beg3 n_beg2 n_beg1
  refine fr_tr (fr_tr (fr_tr (fr_tr ?_ fr_logs) fr_up) fr_up) fr_up
  refine fr_tr (fr_tr (fr_tr (fr_means (j := r) (s := s) (ta := ta) (so := so)) ?_) (fr_b1 5)) (fr_it (fun i M => ?_) 24)
  · exact fr_tr (fr_tr (fr_tr (fr_tr (fr_tr (fr_tr fr_up fr_up) fr_up) fr_up) fr_up) fr_up) fr_up
  · unfold f_b2
    split
    · exact fr_rf
    · exact fr_up
theorem fr_frames {M : zMem} {r : Nat} {q : Int32} : z_fr M (n_frames M r q) := by
  unfold n_frames n_fr0
  refine fr_tr (fr_tr (fr_tr (fr_tr (fr_tr (fr_tr (fr_tr fr_up fr_up) fr_up) fr_up) fr_up) fr_up) fr_cnt) (fr_it (fun i M => ?_) 24)
  unfold f_fr n_draw
  split
  · exact fr_tr fr_up fr_up
  · exact fr_rf
theorem fr_begT {M : zMem} {r : Nat} : z_fr M (n_begT M r) := fr_tr (fr_tr fr_up fr_up) fr_up
theorem fr_begL {M : zMem} {r l : Nat} : z_fr M (n_begL M r l) := fr_tr (fr_it (fun i M => fr_tr fr_up fr_up) l) fr_up
theorem shl_q : ∀ q, q ≤ 8 → (1 : Int32) <<< (nI q &&& 31) > 0 ∧ ¬ (1 : Int32) <<< (nI q &&& 31) = 0 := by decide
theorem qf_8 {x : Nat} (h : x ≤ 64) : (nI x + 4) / 8 = nI ((x + 4) / 8) := by
  have e : nI x + 4 = nI (x + 4) := nI_add x 4
  rw [e]
  exact pk_div (d := 8) (by omega) (by decide) (by decide)
theorem two_begin {J : zMem} {b : Nat} {r se ta so mo : Int32} (h : SB J b) (hb : b < 2147000000) : z_two J 129 208 [.inl r, .inl se, .inl ta, .inl so, .inl mo] b := by
  obtain ⟨T, c, hT, hc, hs⟩ := h.1
  have h4 := hs.2.2.2.1
  have h9 := hs.2.2.2.2.2.2.2.2
  by_cases e : c_mBegin J r se ta so mo
  · obtain ⟨e1, e2, e3⟩ := id e
    obtain ⟨j, hj, e4, on1, idl⟩ := idle_iff.mp e1
    obtain ⟨j2, s, x, y, hj2, hs4, hx, hy, rfl, rfl, rfl, rfl⟩ := ask_N e2
    have : j2 = j := (nI_eq (by omega) (by omega)).mp e4
    subst this
    obtain ⟨mo, hmo, rfl⟩ := (isIn_N (N := 3) (by decide)).mp e3
    have cl : (nI j2).toNatClampNeg = j2 := nI_clamp (by omega)
    obtain ⟨k1, k2, k3, k4, ⟨l, l1, l2, l3, l4⟩, k6⟩ := h9 j2 hj
    obtain ⟨rest3, rest8⟩ := (k6 (fun z => z)).1 idl
    obtain ⟨qf, hqf, eqf⟩ := k2.2.2.2.1
    generalize ev : z_mk (p_stock J 0 (nI j2) (nI s) (nI x) (nI y)) 24 = v
    -- the class's states
    generalize eM1 : m_rdStart J 0 j2 (nI s) (nI x) (nI y) (nI mo) = M1
    generalize eM2 : z_it (f_busy 0 v (nI j2)) 24 M1 = M2
    generalize eM3 : m_start1 J 0 j2 (nI j2) (nI s) (nI x) (nI y) (nI mo) v = M3
    have eM3' : m_write M2 0 (nI j2) 0 (r_bc v) = M3 := by
      rw [← eM3]
      unfold m_start1
      rw [eM1, eM2]
    generalize eJ2 : m_start M3 0 j2 l.length (nI j2) (nI mo) = J2
    have fJ : z_fcw 0 J J2 := by
      rw [← eJ2, ← eM3]
      exact fw_tr fw_start1 fw_start
    have same : ∀ q, J2.1 24 0 0 q = J.1 24 0 0 q := fun q => (fw_0 fJ).1 _ _ _ _ (by omega)
    have hs2 : SimZ z_F z_F J 0 J2 T c b := Sim_R hs same
    have h42 := hs2.2.2.2.1
    have bc : r_means J2 j2 s (nI x) (nI y) 24 = r_bc v := by
      rw [← ev]
      exact e_means h42 hs4 hy
    -- the reference's states
    have eRm : ∀ p, (n_means J2 j2 s (nI x) (nI y)).1 24 0 0 p = J.1 24 0 0 p := fun p => rk_means.trans (same p)
    generalize eN1 : n_means J2 j2 s (nI x) (nI y) = N1 at *
    have st1 := Sim_beg (s := s) (mo := mo) (ta := nI x) (so := nI y) (x := r_qf N1 16 0 0) (Sim_R hs eRm) hj hs4 (by omega) ((eRm _).trans on1) ((eRm _).trans idl)
    rw [eM1] at st1
    have N3k : ∀ p, 358 ≤ p → (n_bg N1 j2 s (nI x) (nI y) (nI mo) (r_qf N1 16 0 0)).1 24 0 0 p = J.1 24 0 0 p := fun p hp => by
      rw [rd_bg hj, if_neg (by omega), if_neg (by omega), if_neg (by omega), if_neg (by omega), if_neg (by omega), if_neg (by omega), if_neg (by omega), if_neg (by omega)]
      exact eRm p
    have N3z : ∀ p, p = 306 + j2 ∨ p = 310 + j2 ∨ p = 314 + j2 → (n_bg N1 j2 s (nI x) (nI y) (nI mo) (r_qf N1 16 0 0)).1 24 0 0 p = 0 := fun p hp => by
      rw [rd_bg hj, if_pos (by omega)]
    have N3t : (n_bg N1 j2 s (nI x) (nI y) (nI mo) (r_qf N1 16 0 0)).1 24 0 0 (278 + j2) = 1 := by
      rw [rd_bg hj, if_neg (by omega), if_neg (by omega), if_neg (by omega), if_neg (by omega), if_neg (by omega), if_pos rfl]
    have N3m : (n_bg N1 j2 s (nI x) (nI y) (nI mo) (r_qf N1 16 0 0)).1 24 0 0 (294 + j2) = nI mo := by
      rw [rd_bg hj, if_neg (by omega), if_pos rfl]
    have N3d : (n_bg N1 j2 s (nI x) (nI y) (nI mo) (r_qf N1 16 0 0)).1 24 0 0 (354 + j2) = r_qf N1 16 0 0 := by
      rw [rd_bg hj, if_neg (by omega), if_neg (by omega), if_neg (by omega), if_neg (by omega), if_neg (by omega), if_neg (by omega), if_neg (by omega), if_pos rfl]
    have N3q : (n_bg N1 j2 s (nI x) (nI y) (nI mo) (r_qf N1 16 0 0)).1 24 0 0 (266 + j2) = nI qf := by
      rw [rd_bg hj, if_neg (by omega), if_neg (by omega), if_neg (by omega), if_neg (by omega), if_neg (by omega), if_neg (by omega), if_neg (by omega), if_neg (by omega), eRm, eqf]
    have N340 : ∀ t, t < 24 → (n_bg N1 j2 s (nI x) (nI y) (nI mo) (r_qf N1 16 0 0)).1 40 0 0 t = r_would J2 j2 s (nI x) (nI y) t := fun t ht => by
      rw [bg_o (by decide), ← eN1]
      exact mean_at 24 J2 t ht
    generalize eN3 : n_bg N1 j2 s (nI x) (nI y) (nI mo) (r_qf N1 16 0 0) = N3 at *
    obtain ⟨-, b2⟩ := rd_b2 (r := j2) (M := N3) 24 (Nat.le_refl _)
    have vb : ∀ t, t < 24 → (bt v t = true ↔ c_would J2 j2 s (nI x) (nI y) t) := fun t ht => by
      rw [← ev, bt_mk _ 24 (by decide) t (by omega), decide_eq_true ht, Bool.true_and]
      exact e_stock (h42 t ht) hs4 hy
    have wb : ∀ t, t < 24 → (¬ N3.1 40 0 0 t = 0 ↔ c_would J2 j2 s (nI x) (nI y) t) := fun t ht => by
      rw [N340 t ht]
      unfold r_would
      rw [z_pb0, Classical.not_not]
    have st2 : SimZ (fun q => q = j2) z_F M2 0 (z_it (f_b2 j2) 24 N3) T c b := by
      rw [← eM2]
      refine Sim_busyA (S := c_would J2 j2 s (nI x) (nI y)) st1 hj rfl (fun t ht z => ?_) N3t (N3z _ (by omega)) (fun a c d z => ?_) (fun t ht z => ?_) (fun t ht z => ?_) (fun p hp => ?_) (fun t ht z => ?_) (fun t ht z => ?_)
      · obtain ⟨z1, z2, z3, -⟩ := z
        rw [same] at z1 z2
        unfold r_reaches at z3
        rw [same] at z3
        rw [N3k _ (by omega), N3k _ (by omega), N3k _ (by omega)]
        exact ⟨(S_01 (h4 t ht)).2.resolve_left z1, z2, z3⟩
      · rw [rd_busy 24 (Nat.le_refl _), if_neg (fun y => z ⟨y.1.1, y.1.2.2.2⟩)]
      · rw [rd_busy 24 (Nat.le_refl _), if_pos ⟨⟨rfl, rfl, ht, rfl⟩, (vb t ht).mpr z⟩]
      · rw [rd_busy 24 (Nat.le_refl _), if_neg (fun y => z ((vb t ht).mp y.2))]
      · rw [b2, if_neg (by omega)]
      · rw [b2, if_pos ⟨by omega, by rw [show 550 + t - 550 = t by omega]; exact (wb t ht).mpr z⟩]
      · rw [b2, if_neg (fun y => z ((wb t ht).mp (by have y2 := y.2; rw [show 550 + t - 550 = t by omega] at y2; exact y2)))]
    have R4 : ∀ p, p < 550 ∨ 574 ≤ p → (z_it (f_b2 j2) 24 N3).1 24 0 0 p = N3.1 24 0 0 p := fun p hp => by rw [b2, if_neg (by omega)]
    have B4 : ∀ t, t < 24 → ((z_it (f_b2 j2) 24 N3).1 24 0 0 (550 + t) = nI j2 ↔ c_would J2 j2 s (nI x) (nI y) t) := fun t ht => by
      have ww := wb t ht
      rw [b2, show 550 + t - 550 = t by omega]
      by_cases z : c_would J2 j2 s (nI x) (nI y) t
      · rw [if_pos ⟨by omega, ww.mpr z⟩]
        exact ⟨fun _ => z, fun _ => rfl⟩
      · rw [if_neg (fun y => z (ww.mp y.2)), N3k _ (by omega)]
        refine ⟨fun y => ?_, fun y => (z y).elim⟩
        -- nobody is busy with an idle reader
        rcases hs.2.2.2.2.2.1 t ht with q | ⟨q, q1, q2, q3, q4⟩
        · rw [q] at y
          exact (nm1 hj y).elim
        · have : q = j2 := (nI_eq (by omega) (by omega)).mp (q2.symm.trans y)
          subst this
          rw [idl] at q3
          exact absurd q3 (by decide)
    generalize eN4 : z_it (f_b2 j2) 24 N3 = N4 at *
    have st3 := Sim_log (r := nI j2) (k := 0) (n := r_bc v) st2 (by omega)
    rw [eM3'] at st3
    have st4 := Sim_zero3 st3 hj
    have eN6 : z_up (z_up (z_up (n_logs N4 c (nI j2) 0 (r_bc v)) 24 0 0 (326 + j2) 0) 24 0 0 (334 + j2) 0) 24 0 0 (302 + j2) 0 = n_begP J2 j2 s c (nI x) (nI y) (nI mo) := by
      unfold n_begP n_beg3 n_beg2
      rw [eN1, bc]
      unfold n_bg at eN3
      rw [eN3, eN4]
    have R6 : ∀ p, ¬ p = 4 → p < 22 ∨ 262 ≤ p → ¬ p = 326 + j2 → ¬ p = 334 + j2 → ¬ p = 302 + j2 → (n_begP J2 j2 s c (nI x) (nI y) (nI mo)).1 24 0 0 p = N4.1 24 0 0 p := fun p z1 z2 z3 z4 z5 => by
      rw [← eN6, zn_upN z5, zn_upN z4, zn_upN z3, zf_logs z2 z1]
    have R6a : (n_begP J2 j2 s c (nI x) (nI y) (nI mo)).1 24 0 0 (326 + j2) = 0 := by rw [← eN6, zn_upN (by omega), zn_upN (by omega), zn_upS]
    have R6b : (n_begP J2 j2 s c (nI x) (nI y) (nI mo)).1 24 0 0 (334 + j2) = 0 := by rw [← eN6, zn_upN (by omega), zn_upS]
    have R6c : (n_begP J2 j2 s c (nI x) (nI y) (nI mo)).1 24 0 0 (302 + j2) = 0 := by rw [← eN6, zn_upS]
    rw [eN6] at st4
    generalize eN : n_begP J2 j2 s c (nI x) (nI y) (nI mo) = N6 at *
    -- the class's cells
    have C3 : ∀ a c d, ¬ a = 2 → ¬ a = 21 → ¬ a = 7 → M3.1 a 0 c d = M1.1 a 0 c d := fun a c d z1 z2 z3 => by
      rw [← eM3', zf_wr (by omega), ← eM2, rd_busy 24 (Nat.le_refl _), if_neg (fun y => z3 y.1.1)]
    have Crow : M3.1 3 0 (3 * j2) 1 = 0 := by
      rw [C3 _ _ _ (by decide) (by decide) (by decide), ← eM1, rd_start, if_neg (by omega), if_neg (by omega), if_neg (by omega), if_neg (by omega), if_neg (by omega), if_neg (by omega), if_neg (by omega), if_neg (by omega)]
      exact rest3
    have Cask : M3.1 3 0 (3 * j2 + 1) 1 = 0 := by
      rw [C3 _ _ _ (by decide) (by decide) (by decide), ← eM1, rd_start, if_pos ⟨rfl, rfl, rfl⟩]
    have Cfr : ∀ k, k < 3 → M3.1 8 0 (2 * j2 + 1) k = 0 := fun k hk => by
      rw [C3 _ _ _ (by decide) (by decide) (by decide), ← eM1, rd_start, if_neg (by omega), if_neg (by omega), if_neg (by omega), if_neg (by omega), if_neg (by omega), if_neg (by omega), if_neg (by omega), if_neg (by omega)]
      exact rest8 k hk
    have Cln : M3.1 3 0 (3 * j2 + 2) 1 = nI l.length := by
      rw [C3 _ _ _ (by decide) (by decide) (by decide), ← eM1, rd_start, if_neg (by omega), if_neg (by omega), if_neg (by omega), if_neg (by omega), if_neg (by omega), if_neg (by omega), if_neg (by omega), if_neg (by omega)]
      exact l1.1
    have Cmo : M3.1 4 0 j2 8 = nI mo := by
      rw [C3 _ _ _ (by decide) (by decide) (by decide), ← eM1, rd_start, if_neg (by omega), if_neg (by omega), if_neg (by omega), if_pos ⟨rfl, rfl, rfl⟩]
    have Cqf : M3.1 4 0 j2 2 = nI qf := by
      rw [C3 _ _ _ (by decide) (by decide) (by decide), ← eM1, rd_start, if_neg (by omega), if_neg (by omega), if_neg (by omega), if_neg (by omega), if_neg (by omega), if_neg (by omega), if_neg (by omega), if_neg (by omega)]
      exact (k1.1 2 (by omega)).trans eqf
    have came : M2.1 2 0 0 1 = nI c := st2.2.1.1
    have qfC : r_qByQf M3 0 j2 = nI ((qf + 4) / 8) := by
      unfold r_qByQf
      rw [Cqf]
      exact qf_8 hqf
    have Rqf : N6.1 24 0 0 (266 + j2) = nI qf := by rw [R6 _ (by omega) (by omega) (by omega) (by omega) (by omega), R4 _ (by omega), N3q]
    have qfR : r_qOf N6 j2 = nI ((qf + 4) / 8) := by
      unfold r_qOf
      rw [Rqf]
      exact qf_8 hqf
    have Rmo : N6.1 24 0 0 (294 + j2) = nI mo := by rw [R6 _ (by omega) (by omega) (by omega) (by omega) (by omega), R4 _ (by omega), N3m]
    have Rtk : N6.1 24 0 0 (278 + j2) = 1 := by rw [R6 _ (by omega) (by omega) (by omega) (by omega) (by omega), R4 _ (by omega), N3t]
    have q8 : (qf + 4) / 8 ≤ 8 := by omega
    -- the class's call
    have callC : ∀ (h : Nat) (K : zK), K (some (.inl (r_bc v))) J2 → z_call (h + 200) 129 [.inr (.inr (10, 0, 0)), .inl (nI j2), .inl (nI s), .inl (nI x), .inl (nI y), .inl (nI mo)] J K := fun h K hK => by
      refine w9_begin (v := r_bc v) (M2 := J2) (fun K2 q => ?_) hK
      refine s_start (n := l.length) (v := v) (fun K3 q3 => s_stockOf1 (ask_iff.mpr e2) (by rw [ev]; exact q3)) (isIn_rd.mp e2.1) ?_ (by rw [← ev]; exact mk_m1 _) (nI_pos (by omega)) (nI_le (b := 3) hmo (by omega)) ?_ ?_ ?_ ?_ (by omega) ?_
      · rw [cl]
        exact (free_iff (h9 j2 hj)).mpr ⟨on1, idl⟩
      · rw [cl, eM1, eM2, came]
        exact nI_pos (by omega)
      · intro _
        rw [cl, eM3, qfC]
        exact (shl_q _ q8).1
      · rw [cl, eM3, Crow]
        decide
      · rw [cl, eM3]
        exact Cln
      · rw [cl, eM3, eJ2]
        exact q
    have hz : ∀ p, ¬ nI 2 ≤ r_cq (n_means J2 j2 s (nI x) (nI y)) (nI 16) p 24 := fun p => cq_hz h42 hs2.2.2.2.2.2.2.1 p
    have em2 : c_mBegin J2 (nI j2) (nI s) (nI x) (nI y) (nI mo) := by
      unfold c_mBegin r_idle at *
      simp only [same]
      exact e
    have c4 : J2.1 24 0 0 4 = nI c := (same 4).trans hs.2.1.2.1
    have bc' : r_means J2 j2 s (nI x) (nI y) 24 = r_bc v := bc
    have fin : ∀ J3, (∀ (h : Nat) (K : zK), K (some (.inl (r_bc v))) J3 → z_call (h + 200) 208 [.inr (.inr (11, 0, 0)), .inl (nI j2), .inl (nI s), .inl (nI x), .inl (nI y), .inl (nI mo)] J2 K) → z_fr J2 J3 → SimZ z_F z_F J2 0 J3 T (c + 1) b → z_two J 129 208 [.inl (nI j2), .inl (nI s), .inl (nI x), .inl (nI y), .inl (nI mo)] b := fun J3 g1 g2 g3 => two_s h (v := .inl (r_bc v)) (fun h K hK => callC h K hK) (fun h K hK => g1 h K hK) (fw_0 fJ) g2 ⟨T, c + 1, hT, by omega, Sim_b g3 (by omega)⟩
    have fP : z_fr J2 N6 := by rw [← eN]; exact fr_begP
    have hsl : ∀ m, m < 4 → (r_hasSlots M3 0 j2 = 0 ↔ (mo = 1 ∨ mo = 3)) := fun _ _ => by
      unfold r_hasSlots
      rw [Cmo]
      rcases (show mo = 0 ∨ mo = 1 ∨ mo = 2 ∨ mo = 3 by omega) with rfl | rfl | rfl | rfl <;> decide
    have stS : ∀ q, q ≤ 8 → (mo = 2 → q ≤ 4) → (mo = 0 ∨ mo = 2) → J2 = m_newFrame M3 0 j2 (nI j2) (nI q) → SimZ z_F z_F J2 0 (n_frames N6 j2 (nI q)) T (c + 1) b := fun q hq hq4 hm eJ => by
      obtain ⟨f1, f2, f3⟩ := Sim_frame (q := q) st4 hj rfl hq (fun z => hq4 ((nI_eq (b := 2) (by omega) (by decide)).mp (Rmo.symm.trans z))) Crow R6a
      rw [← eJ] at f1 f2
      refine Sim_in f1 hj (fun s _ ne z => (ne z).elim) ⟨fun z => ?_, fun _ _ => f2, fun _ z => ?_⟩
      · rw [f3 _ (.inl rfl), Rtk] at z
        exact absurd z (by decide)
      · rw [f3 _ (.inr rfl), Rmo] at z
        rcases z with z | z
        · have := (nI_eq (by omega) (by omega)).mp z
          omega
        · have := (nI_eq (by omega) (by omega)).mp z
          omega
    rcases (show mo = 0 ∨ mo = 1 ∨ mo = 2 ∨ mo = 3 by omega) with rfl | rfl | rfl | rfl
    · -- SLOTS
      have eJ : J2 = m_newFrame M3 0 j2 (nI j2) (nI ((qf + 4) / 8)) := by
        rw [← eJ2]
        unfold m_start
        rw [if_neg (fun z => by have := (hsl 0 (by omega)).mp z; omega), if_pos (show nI 0 = 0 from rfl), qfC]
      refine fin (n_frames N6 j2 (r_qOf N6 j2)) (fun h K hK => ?_) (fr_tr fP fr_frames) ?_
      · refine s_mBegP (mo := 0) hz c4 (by omega) hj hs4 (by omega) em2 (fun u8 => ?_)
        rw [eN, bc']
        refine s_mBegS hj ?_ hK
        rw [qfR]
        exact (shl_q _ q8).2
      · rw [qfR]
        exact stS _ q8 (fun z => by omega) (.inl rfl) eJ
    · -- TREE
      have eJ : J2 = m_pfxAdd M3 0 (3 * j2) 0 := by
        rw [← eJ2]
        unfold m_start
        rw [if_pos ((hsl 0 (by omega)).mpr (by omega)), if_neg (by decide)]
      refine fin (n_begT N6 j2) (fun h K hK => ?_) (fr_tr fP fr_begT) ?_
      · refine s_mBegP (mo := 1) hz c4 (by omega) hj hs4 (by omega) em2 (fun u8 => ?_)
        rw [eN, bc']
        exact s_mBegT hj hK
      · have q1 : ∀ p, ¬ p = 326 + j2 → ¬ (814 + 2700 * j2 ≤ p ∧ p < 3514 + 2700 * j2) → (n_begT N6 j2).1 24 0 0 p = N6.1 24 0 0 p := fun p z1 z2 => by
          unfold n_begT
          have g0 : a_rw j2 0 = 814 + 2700 * j2 := by unfold a_rw; omega
          rw [zn_upN z1, zn_upN (by omega), zn_upN (by omega)]
        have q2 : ∀ a c d, ¬ (c = 3 * j2 ∧ (a = 22 ∨ (a = 3 ∧ d = 1))) → J2.1 a 0 c d = M3.1 a 0 c d := fun a c d z => by
          rw [eJ]
          unfold m_pfxAdd
          rw [Crow, if_pos (show (0 : Int32) < 512 by decide), z_up1, if_neg (by omega), z_up1, if_neg (by omega)]
        refine Sim_tree0 (mo := 1) (ro := [(0, 0, false)]) st4 hj q2 q1 (by rw [eJ]; exact back_T Crow) (by decide) ⟨by decide, by decide, rfl⟩ (by decide) Cask Cfr R6b R6c ?_ ?_ ?_ Rtk Rmo (.inl rfl) (fun _ => ?_)
        · rw [R6 _ (by omega) (by omega) (by omega) (by omega) (by omega), R4 _ (by omega), N3z _ (by omega)]
        · rw [R6 _ (by omega) (by omega) (by omega) (by omega) (by omega), R4 _ (by omega), N3z _ (by omega)]
        · rw [R6 _ (by omega) (by omega) (by omega) (by omega) (by omega), R4 _ (by omega), N3z _ (by omega)]
        · rw [R6 _ (by omega) (by omega) (by omega) (by omega) (by omega), R4 _ (by omega), N3d]
          have qn := qf_N (N := N1) (R := N6.1 24 0 0) (r := j2) (fun D P hD hP => ?_) 16 0 0 (by omega) (by decide)
          · have z0 : nI 0 = (0 : Int32) := rfl
            have xs : x_sum (fun x => x_qn (N6.1 24 0 0) j2 (16 - x.1) x) [(0, 0, false)] = x_qn (N6.1 24 0 0) j2 16 (0, 0, false) := Nat.add_zero _
            rw [z0] at qn
            rw [xs]
            exact qn
          · rw [← eN1, cq_means h42 hs4 hy hD hP]
            refine congrArg nI ?_
            unfold x_cn
            refine fb_ct_cong (fun t ht => ?_)
            rw [x_inQ]
            unfold q_in
            have i1 : x_id (N6.1 24 0 0) t = x_id (J2.1 24 0 0) t := by
              unfold x_id
              rw [R6 _ (by omega) (by omega) (by omega) (by omega) (by omega), R4 _ (by omega), N3k _ (by omega), same]
            have i2 : p_stock J 0 (nI j2) (nI s) (nI x) (nI y) t = decide (N6.1 24 0 0 (550 + t) = nI j2) := by
              have w1 := e_stock (j := j2) (ta := nI x) (h42 t ht) hs4 hy
              have w2 := B4 t ht
              rw [← R6 (550 + t) (by omega) (by omega) (by omega) (by omega) (by omega)] at w2
              by_cases z : c_would J2 j2 s (nI x) (nI y) t
              · rw [w1.mpr z, decide_eq_true (w2.mpr z)]
              · rw [decide_eq_false (fun y => z (w2.mp y))]
                cases hp : p_stock J 0 (nI j2) (nI s) (nI x) (nI y) t with
                | false => rfl
                | true => exact (z (w1.mp hp)).elim
            rw [i1, i2]
    · -- FRAMES
      have eJ : J2 = m_newFrame M3 0 j2 (nI j2) (nI 2) := by
        rw [← eJ2]
        unfold m_start
        rw [if_neg (fun z => by have := (hsl 0 (by omega)).mp z; omega), if_neg (by decide)]
        rfl
      refine fin (n_frames N6 j2 (nI 2)) (fun h K hK => ?_) (fr_tr fP fr_frames) ?_
      · refine s_mBegP (mo := 2) hz c4 (by omega) hj hs4 (by omega) em2 (fun u8 => ?_)
        rw [eN, bc']
        exact s_mBegF hj hK
      · exact stS 2 (by omega) (fun _ => by omega) (.inr rfl) eJ
    · -- LEARNT TREE
      have eJ : J2 = z_it (f_pfxBack 0 (3 * j2) (3 * j2 + 2) l.length) l.length (m_pfxClear M3 0 (3 * j2)) := by
        rw [← eJ2]
        unfold m_start
        rw [if_pos ((hsl 0 (by omega)).mpr (by omega)), if_pos (show nI 3 = 3 from rfl)]
      have ln := st4.2.2.2.2.2.2.2.2 j2 hj
      have l330 : N6.1 24 0 0 (330 + j2) = nI l.length := by
        rw [R6 _ (by omega) (by omega) (by omega) (by omega) (by omega), R4 _ (by omega), ← eN3, rd_bg hj, if_neg (by omega), if_neg (by omega), if_neg (by omega), if_neg (by omega), if_neg (by omega), if_neg (by omega), if_neg (by omega), if_neg (by omega), eRm]
        exact l1.2.1
      have l1' : S_list M3 0 (3 * j2 + 2) (N6.1 24 0 0) (a_ln j2 0) (330 + j2) l := S_listW (by omega) l1 (Cln.trans l1.1.symm) (fun q _ => by
        rw [C3 _ _ _ (by decide) (by decide) (by decide), ← eM1, rd_start, if_neg (by omega), if_neg (by omega), if_neg (by omega), if_neg (by omega), if_neg (by omega), if_neg (by omega), if_neg (by omega), if_neg (by omega)]) (l330.trans l1.2.1.symm) (fun p p1 p2 => by
        unfold a_ln at p1
        rw [R6 _ (by omega) (by omega) (by omega) (by omega) (by omega), R4 _ (by omega), N3k _ (by omega)])
      have ne : ¬ l = [] := fun z => by
        subst z
        have : (0 : Nat) = 65536 := l2
        omega
      refine fin (n_begL N6 j2 l.length) (fun h K hK => ?_) (fr_tr fP fr_begL) ?_
      · refine s_mBegP (mo := 3) hz c4 (by omega) hj hs4 (by omega) em2 (fun u8 => ?_)
        rw [eN, bc']
        exact s_mBegL hj l330 (by omega) hK
      · have q1 : ∀ p, ¬ p = 326 + j2 → ¬ (814 + 2700 * j2 ≤ p ∧ p < 3514 + 2700 * j2) → (n_begL N6 j2 l.length).1 24 0 0 p = N6.1 24 0 0 p := fun p z1 z2 => by
          unfold n_begL
          have g0 : a_rw j2 0 = 814 + 2700 * j2 := by unfold a_rw; omega
          rw [zn_upN z1, (rd_b3 hj l.length (by omega)).2 p (by omega)]
        have q2 : ∀ a c d, ¬ (c = 3 * j2 ∧ (a = 22 ∨ (a = 3 ∧ d = 1))) → J2.1 a 0 c d = M3.1 a 0 c d := fun a c d z => by
          rw [eJ]
          exact (rd_back (n := l.length) (by omega) (by omega) Cln l.length (Nat.le_refl _)).2.1 a c d z
        refine Sim_tree0 (mo := 3) (ro := l) st4 hj q2 q1 (by rw [eJ]; exact back_L l1' l2 l4 hj) ne l2 l4 Cask Cfr R6b R6c ?_ ?_ ?_ Rtk Rmo (.inr rfl) (fun z => by omega)
        · rw [R6 _ (by omega) (by omega) (by omega) (by omega) (by omega), R4 _ (by omega), N3z _ (by omega)]
        · rw [R6 _ (by omega) (by omega) (by omega) (by omega) (by omega), R4 _ (by omega), N3z _ (by omega)]
        · rw [R6 _ (by omega) (by omega) (by omega) (by omega) (by omega), R4 _ (by omega), N3z _ (by omega)]
  · refine two_q h (v := .inl (-1)) (fun _ K hK => ?_) (fun _ K hK => s_mBegin0 e hK)
    refine w9_begin (v := -1) (M2 := J) (fun K2 q => ?_) hK
    by_cases a : c_canAsk r se ta so
    · refine s_start0 (v := z_mk (p_stock J 0 r se ta so) 24) (fun K3 q3 => s_stockOf1 (ask_iff.mpr a) q3) ?_ q
      by_cases c0 : r < 0 ∨ r ≥ 4
      · exact .inl c0
      · obtain ⟨j, hj, rfl, cl, i3⟩ := rd_of c0
        rw [cl]
        by_cases c1 : r_isFree J 0 j = 0
        · exact .inr (.inl c1)
        · by_cases c2 : r_isIn mo 0 (nI 3) = 0
          · rcases (cls_in (N := 3) (by decide)).mp c2 with z | z
            · exact .inr (.inr (.inr (.inl z)))
            · exact .inr (.inr (.inr (.inr (fun y => Int32.not_le.mpr (Int32.lt_of_le_of_lt y (by decide)) z))))
          · exact (e ⟨idle_iff.mpr ⟨j, hj, rfl, (free_iff (h9 j hj)).mp c1⟩, a, c2⟩).elim
    · exact s_start0 (v := -1) (fun K3 q3 => s_stockOf0 (fun z => a (ask_iff.mp z)) q3) (.inr (.inr (.inl rfl))) q
