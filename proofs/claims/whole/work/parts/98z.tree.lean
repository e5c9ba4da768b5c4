/-! behind a query -/
theorem least_1 {P : Nat → Prop} {i j : Nat} (h1 : P i) (h2 : ∀ k, k < i → ¬ P k) (h3 : P j) (h4 : ∀ k, k < j → ¬ P k) : i = j := by
  rcases Nat.lt_trichotomy i j with l | l | l
  · exact (h4 i l h1).elim
  · exact l
  · exact (h2 j l h3).elim
noncomputable def g_join (r : Nat) : Nat → zMem → zMem
  | 0, N => N
  | m + 1, N => @dite _ (∃ i, i + 1 < m + 1 ∧ p_join N r i) (Classical.propDecidable _) (fun h => g_join r m (n_join N r (Classical.choose (pk_least _ h)) (m + 1))) (fun _ => N)
theorem g_joinY {r m i : Nat} {N : zMem} (hi : i + 1 < m + 1) (hj : p_join N r i) (hl : ∀ j, j < i → ¬ p_join N r j) : g_join r (m + 1) N = g_join r m (n_join N r i (m + 1)) := by
  have h : ∃ i, i + 1 < m + 1 ∧ p_join N r i := ⟨i, hi, hj⟩
  rw [g_join, dif_pos h]
  have sp := Classical.choose_spec (pk_least _ h)
  have e : Classical.choose (pk_least _ h) = i := least_1 (P := fun i => i + 1 < m + 1 ∧ p_join N r i) sp.1 sp.2 ⟨hi, hj⟩ (fun k hk z => hl k hk z.2)
  rw [e]
theorem g_joinN {r m : Nat} {N : zMem} (h : ∀ i, i + 1 < m → ¬ p_join N r i) : g_join r m N = N := by
  cases m with
  | zero => rfl
  | succ m => rw [g_join, dif_neg (fun ⟨i, a, b⟩ => h i a b)]
theorem g_join_I {M : zMem} {r : Nat} {al : List zX} (hr : r < 4) : ∀ (m : Nat) (N : zMem), I_ln M r al m N → ∃ m', I_ln M r al m' (g_join r m N) ∧ ∀ i, i + 1 < m' → ¬ p_join (g_join r m N) r i
  | 0, N, h => ⟨0, h, fun i hi => by omega⟩
  | m + 1, N, h => by
    by_cases e : ∃ i, i + 1 < m + 1 ∧ p_join N r i
    · obtain ⟨i, h1, h2⟩ := pk_least _ e
      have h3 : ∀ j, j < i → ¬ p_join N r j := fun j hj z => h2 j hj ⟨by omega, z⟩
      rw [g_joinY h1.1 h1.2 h3]
      exact g_join_I hr m _ (I_s hr h h1.1 h1.2)
    · have h2 : ∀ i, i + 1 < m + 1 → ¬ p_join N r i := fun i a b => e ⟨i, a, b⟩
      rw [g_joinN h2]
      exact ⟨m + 1, h, h2⟩
/-- new learnt ones -/
theorem Sim_lrn {O : Nat → Prop} {M M2 Mr Mr2 : zMem} {w T c b r : Nat} (h : SimZ (fun q => q = r) O M w Mr T c b) (hr : r < 4) (hM : ∀ a cc d, ¬ ((a = 3 ∨ a = 22) ∧ cc = 3 * r + 2) → M2.1 a w cc d = M.1 a w cc d) (hR : ∀ p, ¬ p = 330 + r → (p < 11614 + 2700 * r ∨ 14314 + 2700 * r ≤ p) → Mr2.1 24 0 0 p = Mr.1 24 0 0 p) (hl : S_ln M2 w (Mr2.1 24 0 0) r) : SimZ (fun q => q = r) O M2 w Mr2 T c b := by
  obtain ⟨k1, k2, k3, k4, k5, k6⟩ := h.2.2.2.2.2.2.2.2 r hr
  refine Sim_rd h hr (fun a c d e => hM a c d (by unfold C_own at e; omega)) (fun p e => hR p (by unfold P_own P_bd at e; omega) (by unfold P_own P_bd at e; omega)) (hR _ (by omega) (by omega)) (fun t ht e => (hR _ (by omega) (by omega)).trans (Sim_bsy h hr t ht e).1) ⟨⟨fun k hk => ?_, fun k hk => ?_⟩, ?_, ?_, ?_, hl, fun z => (z rfl).elim⟩ (Nat.le_refl _) (fun s _ _ z => z)
  · have q1 : ∀ k, k < 12 → 262 ≤ rp_of k ∧ rp_of k < 323 := by decide
    have q2 := q1 k hk
    rw [hM _ _ _ (by omega), hR _ (by omega) (by omega)]
    exact k1.1 k hk
  · have q1 : ∀ k, k < 3 → 306 ≤ tp_of k ∧ tp_of k < 318 := by decide
    have q2 := q1 k hk
    rw [hM _ _ _ (by omega), hR _ (by omega) (by omega)]
    exact k1.2 k hk
  · unfold S_rv at *
    rw [hR (262 + r) (by omega) (by omega), hR (278 + r) (by omega) (by omega), hR (266 + r) (by omega) (by omega), hR (270 + r) (by omega) (by omega), hR (282 + r) (by omega) (by omega), hR (294 + r) (by omega) (by omega), hR (298 + r) (by omega) (by omega), hR (326 + r) (by omega) (by omega)]
    exact k2
  · unfold S_sum at *
    rw [hR (310 + r) (by omega) (by omega), hR (314 + r) (by omega) (by omega)]
    exact k3
  · obtain ⟨m, m1, m2, m3, m4⟩ := k4
    refine ⟨m, m1, (hR _ (by omega) (by omega)).trans m2, fun j hj => ?_, fun i j hi hj => ?_⟩
    · obtain ⟨a, t, t1, t2, t3⟩ := m3 j hj
      rw [hM _ _ _ (by omega), hR _ (by omega) (by omega)]
      refine ⟨a, t, t1, t2, ?_⟩
      rw [hR _ (by omega) (by omega)]
      exact t3
    · rw [hR _ (by omega) (by omega), hR _ (by omega) (by omega)]
      exact m4 i j hi hj
theorem fw_off {w i : Nat} {M N : zMem} (h : z_off w i M N) : z_fcw w M N := ⟨fun a b c d e => h.1 a b c d (by omega), h.2⟩
theorem tree_fin {M N : zMem} {w T c b r : Nat} {al ro : List zX} (h : SimZ (fun q => q = r) z_F M w N T c b) (hr : r < 4) (hc : c < 2147483000) (ht : N.1 24 0 0 (278 + r) = 1) (hm : N.1 24 0 0 (294 + r) = nI 1 ∨ N.1 24 0 0 (294 + r) = nI 3)
    (hB : S_back M w (3 * r) (N.1 24 0 0) (a_rw r 0) (326 + r) ro) (hD : S_list M w (3 * r + 1) (N.1 24 0 0) (a_dn r 0) (334 + r) al) (ch : x_ch 0 (al ++ ro) 65536) (len : al.length + ro.length + x_sum (fun x => (16 - x.1) * (x_cn (N.1 24 0 0) r x / 2)) ro ≤ 488) (r306 : N.1 24 0 0 (306 + r) = nI (x_ne al).length) (f8 : ∀ k, k < 3 → M.1 8 w (2 * r + 1) k = 0) (r302 : N.1 24 0 0 (302 + r) = 0)
    (due : N.1 24 0 0 (294 + r) = 1 → N.1 24 0 0 (350 + r) = 1 → ∃ e m c, N.1 24 0 0 (310 + r) = nI e ∧ N.1 24 0 0 (306 + r) = nI m ∧ N.1 24 0 0 (314 + r) = nI c ∧ N.1 24 0 0 (354 + r) = nI (e + m + c + x_sum (fun x => x_qn (N.1 24 0 0) r (16 - x.1) x) ro)) :
    ∃ N' c', c' ≤ c + 1 ∧ (M.1 3 w (3 * r) 1 = 0 → ¬ (m_finish3 (m_aq2 M w r al.length) w r (nI r)).1 2 w 0 1 < 0) ∧ (∀ (h : Nat) (K : zK) (v2 v3 v4 v5 v6 : zV), K none N' → z_run (z_nop k_X10_query) (z_call (h + 60)) K 193 [.inr (.inr (11, 0, 0)), .inl (nI r), v2, v3, v4, v5, v6] [] N) ∧ z_fcw w M (m_aq M w r al.length (nI r)) ∧ z_fr N N' ∧ SimZ z_F z_F (m_aq M w r al.length (nI r)) w N' T c' b ∧ kp r N N' := by
  have off := z_off_joined (w := w) (i := 3 * r + 2) (j := 3 * r + 1) (M := M) al.length
  have eaq : z_it (f_joined w (3 * r + 2) (3 * r + 1)) al.length (m_pfxClear M w (3 * r + 2)) = m_aq2 M w r al.length := rfl
  rw [eaq] at off
  have came : ¬ (m_finish3 (m_aq2 M w r al.length) w r (nI r)).1 2 w 0 1 < 0 := by
    rw [fin3_came, off.1 _ _ _ _ (by omega), h.2.1.1]
    exact nI_pos (by omega)
  by_cases e : ro = []
  · -- the end
    subst e
    have s0 : M.1 3 w (3 * r) 1 = 0 := hB.1
    rw [List.append_nil] at ch
    have hlen : al.length ≤ 488 := by omega
    have lr : L_R (N.1 24 0 0) (a_dn r 0) al := lr_of al _ (fun j hj => (hD.2.2 j hj).2)
    have i0 : I_ln N r al al.length (n_learn0 N r al.length) := I_0 hr rfl (by omega) lr ch
    obtain ⟨m', im, nj⟩ := g_join_I hr al.length _ i0
    obtain ⟨l, q1, q2, q3, q4, q5, q6, q7, q8⟩ := I_red im nj
    obtain ⟨l', m2, g1, g2, g3, g4, g5, g6, g7⟩ := lc_all (M := M) (w := w) (i := 3 * r + 2) (j := 3 * r + 1) (al := al) (by omega) ⟨hD.1, fun j hj => (hD.2.2 j hj).1⟩ (by omega) ch al.length (Nat.le_refl _)
    rw [eaq] at g1
    rw [List.take_length] at g3 g6
    have em : m2 = 65536 := x_fun g3 ch
    subst em
    have el : l' = l := x_uniq 16 0 l' l (Nat.le_refl _) g4 q4 g5 q5 (g6.trans q6.symm)
    subst el
    have l24 : (x_ne al).length ≤ 24 := by
      obtain ⟨m, m1, m3, -⟩ := (h.2.2.2.2.2.2.2.2 r hr).2.2.2.1
      have hf : (x_ne al).length ≤ al.length := List.length_filter_le _ _
      have := (nI_eq (by omega) (by omega)).mp (m3.symm.trans r306)
      omega
    have l296 : l'.length ≤ 296 := by
      have a := x_len 16 0 l' (Nat.le_refl _) q4 q5
      rw [q6] at a
      have b2 := x_bfM l24 16
      rw [x_296] at b2
      omega
    generalize eG : g_join r al.length (n_learn0 N r al.length) = G at *
    have st := Sim_lrn (M2 := m_aq2 M w r al.length) (Mr2 := G) h hr (fun a cc d z => off.1 a w cc d (fun y => z ⟨y.1, y.2.2⟩)) q7 ⟨l', ⟨g1.1, q3.trans (congrArg nI q1.symm), fun j hj => ⟨g1.2 j hj, lr_at l' _ q2 j hj⟩⟩, q4, q5, l296⟩
    have so := Sim_over st hr hc
    have e4 : G.1 24 0 0 4 = nI c := st.2.1.2.1
    have eM : m_aq M w r al.length (nI r) = m_finish (m_aq2 M w r al.length) w r (nI r) := if_pos s0
    rw [eM]
    refine ⟨n_over G r c, c + 1, Nat.le_refl _, fun _ => came, fun h' K v2 v3 v4 v5 v6 hK => ?_, fw_tr (fw_off off) fw_fin, fr_tr q8 ?_, so, kp_tr (kp_of (fun p hp => q7 p (by unfold P_kp at hp; omega) (by unfold P_kp at hp; omega))) (kp_over hr)⟩
    · refine s_q193 (h := h' + 57) (m := 0) hr hB.2.1 (by omega) (fun z => by omega) (fun _ => ⟨fun d1 d2 => ?_, ?_⟩)
      · obtain ⟨e, m, cc, u1, u2, u3, u4⟩ := due d1 d2
        rw [u1, u2, u3, u4, nI_add, nI_add]
        rfl
      · refine s_q252 (fun m N2 => I_ln N r al m N2 ∧ g_join r m N2 = G) hr hD.2.1 (by omega) ⟨i0, eG⟩ (fun m N2 z => I_i z.1) (fun m N2 i z1 z2 z3 z4 => ⟨I_s hr z1.1 z2 z3, ?_⟩) (fun m N2 z1 z2 => ⟨c, ?_, hc, ?_⟩)
        · obtain ⟨m0, rfl⟩ : ∃ m0, m = m0 + 1 := ⟨m - 1, by omega⟩
          rw [← z1.2, g_joinY z2 z3 z4]
          rfl
        · rw [← g_joinN z2, z1.2]
          exact e4
        · rw [← g_joinN z2, z1.2]
          exact hK
    · unfold n_over n_over2 n_over1
      exact fr_tr (fr_tr (fr_tr (fr_tr fr_up fr_cnt) fr_frees) fr_cnt) fr_logs
  · -- on it goes
    have hl : 0 < ro.length := List.length_pos_iff.mpr e
    have s0 : ¬ M.1 3 w (3 * r) 1 = 0 := by
      rw [hB.1]
      exact nI_ne0 (by omega) (by omega)
    have eM : m_aq M w r al.length (nI r) = M := if_neg s0
    rw [eM]
    refine ⟨N, c, by omega, fun z => (s0 z).elim, fun h' K v2 v3 v4 v5 v6 hK => s_q193 (h := h' + 57) (m := ro.length) hr hB.2.1 (by omega) (fun _ => hK) (fun z => by omega), fw_rf, fr_rf, ?_, kp_of (fun _ _ => rfl)⟩
    refine Sim_in h hr (fun s _ ne z => (ne z).elim) ⟨fun z => ?_, fun _ z => ?_, fun _ _ => ⟨ro, al, hB, hD, e, ch, len, r306, f8, r302, due⟩⟩
    · rw [ht] at z
      exact absurd z (by decide)
    · rcases hm with y | y
      · rw [y] at z
        exact absurd z (by decide)
      · rw [y] at z
        exact absurd z (by decide)
