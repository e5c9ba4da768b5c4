/-! one ask of a tree reader: the whole -/
theorem x_sz2 (x : zX) (e : Bool) : x_sz (x.1, x.2.1, e) = x_sz x := rfl
theorem ch_flag {l : List zX} {x : zX} {e : Bool} {hi : Nat} : ∀ (al : List zX) (lo : Nat), x_ch lo (al ++ x :: l) hi → x_ch lo (al ++ (x.1, x.2.1, e) :: l) hi
  | [], _, h => ⟨h.1, h.2.1, h.2.2⟩
  | y :: al, _, h => ⟨h.1, h.2.1, ch_flag al _ h.2.2⟩
theorem ne_snoc (al : List zX) (D P : Nat) (e : Bool) : (x_ne (al ++ [(D, P, e)])).length = (x_ne al).length + if e = true then 0 else 1 := by
  rw [x_neA, List.length_append]
  cases e <;> rfl
/-- what lies under others -/
theorem x_apart {R : Nat → Int32} {x y : zX} {al ro : List zX} {t : Nat} (ch : x_ch 0 (al ++ x :: ro) 65536) (hy : y ∈ ro) (hx : x_id R t / x_sz x = x.2.1) : ¬ x_id R t / x_sz y = y.2.1 := by
  intro z
  obtain ⟨m, -, h2⟩ := x_app.mp ch
  obtain ⟨a1, a2, a3⟩ := h2
  have b := (x_mem a3 hy).2.1
  have p1 := x_pos x
  have p2 := x_pos y
  have q1 := Nat.div_add_mod (x_id R t) (x_sz x)
  have q2 := Nat.div_add_mod (x_id R t) (x_sz y)
  have m1 := Nat.mod_lt (x_id R t) p1
  rw [hx, Nat.mul_comm] at q1
  rw [z, Nat.mul_comm] at q2
  omega
theorem nI_ge' {a : Nat} (h : a < 16) (z : nI a ≥ 16) : False := by
  have d : ∀ a, a < 16 → ¬ nI a ≥ 16 := by decide
  exact d a h z
theorem ct_two {a : Nat → Bool} (h : 2 ≤ fb_ct a 24) : ∃ s t, s < 24 ∧ t < 24 ∧ ¬ s = t ∧ a s = true ∧ a t = true := by
  obtain ⟨t, ht, e⟩ := fb_ct_pos.mp (show 0 < fb_ct a 24 by omega)
  have l := fb_ct_upd a false (i := t) (n := 24) ht
  rw [if_pos e, if_neg (by decide)] at l
  obtain ⟨s, hs, es⟩ := fb_ct_pos.mp (show 0 < fb_ct (fun k => if k = t then false else a k) 24 by omega)
  have es : (if s = t then false else a s) = true := es
  by_cases c : s = t
  · rw [if_pos c] at es
    exact absurd es (by decide)
  · rw [if_neg c] at es
    exact ⟨s, t, hs, ht, c, es, e⟩
theorem reads_306 {N : zMem} {r t s m c : Nat} (hr : r < 4) (ht : t < 24) (hs : s < 4) (hm : m < 24) : (n_reads N r t s m c).1 24 0 0 (306 + r) = nI (m + 1) := by
  rw [← reads_row hr ht hs hm, rdd_R hr ht hm, if_pos rfl]
theorem empty_310 {N : zMem} {r c : Nat} (hr : r < 4) : (n_empty N r c).1 24 0 0 (310 + r) = N.1 24 0 0 (310 + r) + 1 := by
  unfold n_empty
  rw [zf_logs (by omega) (by omega), cnt_at, if_neg (by omega), zn_upS]
theorem clash_314 {N : zMem} {r c : Nat} (hr : r < 4) : (n_clashes N r c).1 24 0 0 (314 + r) = N.1 24 0 0 (314 + r) + 1 := by
  unfold n_clashes
  rw [zf_logs (by omega) (by omega), cnt_at, if_neg (by omega), zn_upS]
noncomputable def m_aT3 (M : zMem) (w r : Nat) (p J : Int32) : zMem := m_aT2 (m_hr M w r (r_begunBy M w (nI r) p &&& (J ^^^ -1))) w r p (r_bc (r_begunBy M w (nI r) p &&& (J ^^^ -1)))
noncomputable def m_askT (M : zMem) (w r : Nat) (J : Int32) : zMem := m_aT3 (m_pfxTake M w (3 * r)) w r (r_pfxTake M w (3 * r)) J
theorem ask_T {M Mr : zMem} {w T c b r : Nat} {qJ : Nat → Bool} (h : SimZ z_F z_F M w Mr T c b) (hr : r < 4) (hc : c < 2147482000) (hT : T < 2147483648) (ht : Mr.1 24 0 0 (278 + r) = 1) (hm : Mr.1 24 0 0 (294 + r) = nI 1 ∨ Mr.1 24 0 0 (294 + r) = nI 3)
    (hJ : ∀ t, t < 24 → Mr.1 24 0 0 (694 + t) = if qJ t = true then 1 else 0) (hcl : Mr.1 24 0 0 (350 + r) = 1 → ∀ t, t < 24 → Mr.1 24 0 0 (550 + t) = nI r → qJ t = false) :
    ∃ Ma N' c', c' ≤ c + 2 ∧ (∀ (h : Nat) (K : zK), K none Ma → z_call (h + 70) 42 [.inr (.inr (9, w, 0)), .inl (nI r), .inl (z_mk qJ 24)] M K) ∧ (∀ (h : Nat) (K : zK), K none N' → z_call (h + 70) 216 [.inr (.inr (11, 0, 0)), .inl (nI r)] Mr K) ∧ z_fcw w M Ma ∧ z_fr Mr N' ∧ SimZ z_F z_F Ma w N' T c' (b + 1) ∧ kp r Mr N' ∧ Ma = m_askT M w r (z_mk qJ 24) := by
  obtain ⟨k1, k2, k3, k4, k5, k6⟩ := h.2.2.2.2.2.2.2.2 r hr
  obtain ⟨ro, al, B, D, ne, ch, len, r306, f8, r302, due⟩ := (k6 (fun z => z)).2.2 ht hm
  obtain ⟨x, ro, rfl⟩ := List.exists_cons_of_ne_nil ne
  obtain ⟨x1, x2, x3⟩ := x_ok ch (Nat.le_refl _) (x := x) (by simp)
  obtain ⟨B1, B2, B3⟩ := B
  rw [List.length_cons] at B1 B2 len
  rw [x_sum] at len
  have B0 : M.1 22 w (3 * r) ro.length = x_cd (x.1, x.2.1, false) ∧ Mr.1 24 0 0 (a_rw r 0) = nI x.1 ∧ Mr.1 24 0 0 (a_rw r 0 + 1) = nI x.2.1 := by
    have q := B3 0 (by rw [List.length_cons]; omega)
    rw [show (x :: ro).length - 1 - 0 = ro.length by rw [List.length_cons]; omega] at q
    exact q
  have Bt : ∀ j (hj : j < ro.length), M.1 22 w (3 * r) (ro.length - 1 - j) = x_cd (ro[j].1, ro[j].2.1, false) ∧ Mr.1 24 0 0 (a_rw r 0 + 3 * j + 3) = nI ro[j].1 ∧ Mr.1 24 0 0 (a_rw r 0 + 3 * j + 4) = nI ro[j].2.1 := fun j hj => by
    have q := B3 (j + 1) (by rw [List.length_cons]; omega)
    rw [show (x :: ro).length - 1 - (j + 1) = ro.length - 1 - j by rw [List.length_cons]; omega, show a_rw r 0 + 3 * (j + 1) = a_rw r 0 + 3 * j + 3 by omega] at q
    exact q
  obtain ⟨e1, e2⟩ := pt_eq (i := 3 * r) (k := ro.length) B1 (by omega)
  rw [B0.1] at e2
  have c8 : M.1 4 w r 8 = Mr.1 24 0 0 (294 + r) := k1.1 8 (by omega)
  have hasT : r_hasSlots M w r = 0 := by
    unfold r_hasSlots
    rw [c8]
    rcases hm with z | z
    · rw [z]
      decide
    · rw [z]
      decide
  have M1at : ∀ a cc d, ¬ (a = 3 ∧ cc = 3 * r ∧ d = 1) → (m_pfxTake M w (3 * r)).1 a w cc d = M.1 a w cc d := fun a cc d e => by
    rw [e1, z_up1, if_neg (by omega)]
  have M1s : (m_pfxTake M w (3 * r)).1 3 w (3 * r) 1 = nI ro.length := by
    rw [e1, zn_upS]
  have fwM1 : z_fcw w M (m_pfxTake M w (3 * r)) := fw_ptake
  -- who answers
  generalize eA : (fun t => x_in (Mr.1 24 0 0) r x t && !qJ t) = A
  have eS : r_begunBy (m_pfxTake M w (3 * r)) w (nI r) (x_cd (x.1, x.2.1, false)) &&& (z_mk qJ 24 ^^^ -1) = z_mk A 24 := by
    unfold r_begunBy
    rw [z_mkD]
    refine z_mkC (fun i hi => ?_)
    have hT2 := h.2.2.2.1 i hi
    obtain ⟨t4, -, -⟩ := T_bs hT2
    rw [← eA, M1at _ _ _ (by omega), t4]
    show (decide (Mr.1 24 0 0 (550 + i) = nI r ∧ _) && !qJ i) = (x_in (Mr.1 24 0 0) r x i && !qJ i)
    congr 1
    unfold x_in
    by_cases c1 : Mr.1 24 0 0 (550 + i) = nI r
    · have hin := (Sim_bsy h hr i hi c1).2.1
      have eid : r_id (m_pfxTake M w (3 * r)) w i = nI (x_id (Mr.1 24 0 0) i) := by
        unfold r_id
        rw [M1at _ _ _ (by omega), (T_in hT2 hin).1, id_N]
      have q := kd_beg (x := (x.1, x.2.1, false)) (D := x_id (Mr.1 24 0 0) i) x1 x2 (x_idL _ _)
      rw [eid, decide_eq_true c1, Bool.true_and]
      by_cases c2 : x_id (Mr.1 24 0 0) i / x_sz x = x.2.1
      · rw [decide_eq_true c2, decide_eq_true ⟨c1, q.mpr c2⟩]
      · rw [decide_eq_false c2, decide_eq_false (fun z => c2 (q.mp z.2))]
    · rw [decide_eq_false c1, Bool.false_and, decide_eq_false (fun z => c1 z.1)]
  have hP : ∀ t, t < 24 → (p_ans Mr r (Mr.1 24 0 0 (a_rw r 0)) (Mr.1 24 0 0 (a_rw r 0 + 1)) t ↔ A t = true) := fun t ht2 => by
    have tr : ¬ r_tree Mr r = 0 := by
      unfold r_tree
      rcases hm with z | z
      · rw [z]
        decide
      · rw [z]
        decide
    have eid : r_idOf Mr t = nI (x_id (Mr.1 24 0 0) t) := id_N _ _
    have q := mb_N (d := x_id (Mr.1 24 0 0) t) (b := x.1) (p := x.2.1) (x_idL _ _) x1 (by omega)
    unfold p_ans
    rw [if_neg tr, B0.2.1, B0.2.2, eid, q, hJ t ht2, ← eA]
    show _ ↔ (x_in (Mr.1 24 0 0) r x t && !qJ t) = true
    unfold x_in
    have es : x_sz x = 2 ^ (16 - x.1) := rfl
    rw [Bool.and_eq_true, Bool.and_eq_true, decide_eq_true_iff, decide_eq_true_iff, es]
    cases hqj : qJ t with
    | true => exact ⟨fun z => (z.2.1 rfl).elim, fun z => absurd z.2 (by decide)⟩
    | false => exact ⟨fun z => ⟨⟨z.1, z.2.2⟩, rfl⟩, fun z => ⟨z.1.1, by decide, z.1.2⟩⟩
  obtain ⟨g1, g2⟩ := g_ans24 hP
  have hbc : r_bc (z_mk A 24) = nI (fb_ct A 24) := z_bcM A
  have hk24 := fb_ct_le A 24
  have hAx : ∀ t, A t = true → x_in (Mr.1 24 0 0) r x t = true ∧ qJ t = false := fun t z => by
    rw [← eA] at z
    have z2 : (x_in (Mr.1 24 0 0) r x t && !qJ t) = true := z
    rw [Bool.and_eq_true] at z2
    exact ⟨z2.1, by simpa using z2.2⟩
  have kle : fb_ct A 24 ≤ x_cn (Mr.1 24 0 0) r x := fb_ct_sub (fun t _ z => (hAx t z).1)
  have keq : Mr.1 24 0 0 (350 + r) = 1 → x_cn (Mr.1 24 0 0) r x = fb_ct A 24 := fun z => fb_ct_cong (fun t ht2 => by
    rw [← eA]
    show _ = (x_in (Mr.1 24 0 0) r x t && !qJ t)
    cases hx : x_in (Mr.1 24 0 0) r x t with
    | false => rfl
    | true =>
      unfold x_in at hx
      rw [Bool.and_eq_true, decide_eq_true_iff] at hx
      rw [hcl z t ht2 hx.1]
      rfl)
  generalize ek : fb_ct A 24 = k at *
  have st1 : SimZ (fun q => q = r) z_F (m_pfxTake M w (3 * r)) w Mr T c b := Sim_stk (Sim_wk _ h) hr (fun a cc d e => M1at a cc d (fun z => e (.inr ⟨.inl z.1, .inl z.2.1⟩))) (fun _ _ => rfl) k2.2.2.2.2.2.2.2.2
  have came : ¬ (m_pfxTake M w (3 * r)).1 2 w 0 1 < 0 := by
    rw [st1.2.1.1]
    exact nI_pos (by omega)
  have c4 : Mr.1 24 0 0 4 = nI c := h.2.1.2.1
  have bb1 : Mr.1 24 0 0 (a_rw r 0) = nI x.1 := B0.2.1
  have bb2 : Mr.1 24 0 0 (a_rw r 0 + 1) = nI x.2.1 := B0.2.2
  have idE : ∀ N : zMem, (∀ t, t < 24 → N.1 24 0 0 (478 + t) = Mr.1 24 0 0 (478 + t)) → ∀ t, t < 24 → x_id (N.1 24 0 0) t = x_id (Mr.1 24 0 0) t := fun N hN t ht2 => by
    unfold x_id
    rw [hN t ht2]
  have eRw : a_rw r 0 = 814 + 2700 * r := by unfold a_rw; omega
  have eDn : ∀ d, a_dn r d = 22414 + 2700 * r + 3 * d := fun d => by unfold a_dn; omega
  have lrD : L_R (Mr.1 24 0 0) (a_dn r 0) al := lr_of al _ (fun j hj => (D.2.2 j hj).2)
  have fin : ∀ (Mh Ma : zMem), (∀ (h : Nat) (K : zK), K none Mh → z_call (h + 60) 46 [.inr (.inr (9, w, 0)), .inl (nI r), .inr (.inr (4, w, r)), .inl (z_mk A 24)] (m_pfxTake M w (3 * r)) K) → (∀ (h : Nat) (K : zK), K none Ma → z_call (h + 60) 53 [.inr (.inr (9, w, 0)), .inl (nI r), .inr (.inr (4, w, r)), .inl (x_cd (x.1, x.2.1, false)), .inl (nI k)] Mh K) → ∀ (h : Nat) (K : zK), K none Ma → z_call (h + 70) 42 [.inr (.inr (9, w, 0)), .inl (nI r), .inl (z_mk qJ 24)] M K := by
    intro Mh Ma h1 h2 h' K hK
    have as := @s_askT (h' + 63) w M Mh Ma (nI r) (z_mk qJ 24) K (fun z => z.elim (nI_pos (by omega)) (nI_ge (b := 4) (by omega) (by omega)))
    rw [nI_clamp (by omega), e2, eS, hbc] at as
    exact as hasT (fun K2 q2 => h1 (h' + 9) K2 q2) (fun K2 q2 => h2 (h' + 9) K2 q2) hK
  rcases Nat.lt_or_ge k 2 with k2l | k2g
  · -- nobody or one: it is asked
    have len24 : ro.length + 1 < 890 := by omega
    have hcn : Mr.1 24 0 0 (350 + r) = 1 → x_qn (Mr.1 24 0 0) r (16 - x.1) x = 1 := fun z => qn_1 (by rw [keq z]; exact k2l)
    -- the row and the done ones
    have st2 : SimZ (fun q => q = r) z_F (m_cnt (m_pfxTake M w (3 * r)) w 0 1) w (n_gath Mr r (Mr.1 24 0 0 (a_rw r 0)) (Mr.1 24 0 0 (a_rw r 0 + 1))) T c b := Sim_R (Sim_cnt (k := 0) (x := 1) st1 (by omega)) (fun p => gath_N)
    have Qat : ∀ (e : Int32) (q : Nat), 262 ≤ q → (n_qD Mr r al.length (ro.length + 1) e).1 24 0 0 q = if q = 326 + r then nI ro.length else if a_rw r 0 ≤ q ∧ q < a_rw r 0 + 3 * ro.length then Mr.1 24 0 0 (q + 3) else if q = 334 + r then nI (al.length + 1) else if q = a_dn r al.length + 2 then e else if q = a_dn r al.length + 1 then nI x.2.1 else if q = a_dn r al.length then nI x.1 else Mr.1 24 0 0 q := fun e q hq => by
      unfold n_qD
      rw [qD2_at hr (by omega) (by omega) (by omega), Nat.add_sub_cancel, bb1, bb2, zf_gath (by omega), zf_gath (by omega)]
    have stQ : ∀ e : Int32, SimZ (fun q => q = r) z_F (m_cnt (m_pfxTake M w (3 * r)) w 0 1) w (n_qD Mr r al.length (ro.length + 1) e) T c b := fun e => by
      refine Sim_stk st2 hr (fun _ _ _ _ => rfl) (fun p hp => ?_) ⟨ro.length, by omega, ?_⟩
      · unfold P_stk at hp
        have := eDn al.length
        unfold n_qD
        rw [qD2_at hr (by omega) (by omega) (by omega), if_neg (by omega), if_neg (by omega), if_neg (by omega), if_neg (by omega), if_neg (by omega), if_neg (by omega)]
      · rw [Qat _ _ (by omega), if_pos rfl]
    have frQ : ∀ e : Int32, z_fr Mr (n_qD Mr r al.length (ro.length + 1) e) := fun e => by
      unfold n_qD n_qD2 n_qD1
      exact fr_tr (fr_tr (fr_tr (fr_tr (fr_tr (fr_tr fr_gath fr_up) fr_up) fr_up) fr_up) fr_cp) fr_up
    -- what both cases end in
    have both : ∀ (Mh N : zMem) (e : Int32), e = (if k = 0 then 1 else 0) → SimZ (fun q => q = r) z_F Mh w N T (c + 1) (b + 1) → (∀ a cc d, a = 3 ∨ a = 22 ∨ (a = 8 ∧ cc = 2 * r + 1) → Mh.1 a w cc d = (m_pfxTake M w (3 * r)).1 a w cc d) → (∀ p, (262 ≤ p ∧ p < 358 ∧ ¬ p = 306 + r ∧ ¬ p = 310 + r) ∨ (478 ≤ p ∧ p < 502) ∨ (694 ≤ p ∧ p < 718) ∨ 814 ≤ p → N.1 24 0 0 p = (n_qD Mr r al.length (ro.length + 1) e).1 24 0 0 p) → (∀ t, t < 24 → N.1 24 0 0 (550 + t) = Mr.1 24 0 0 (550 + t) ∨ (N.1 24 0 0 (550 + t) = -1 ∧ x_id (Mr.1 24 0 0) t / x_sz x = x.2.1)) → N.1 24 0 0 (306 + r) = Mr.1 24 0 0 (306 + r) + nI k → N.1 24 0 0 (310 + r) = Mr.1 24 0 0 (310 + r) + nI (1 - k) →
        ∃ Ma N' c', c' ≤ c + 1 + 1 ∧ (∀ (h : Nat) (K : zK), K none Ma → z_call (h + 60) 53 [.inr (.inr (9, w, 0)), .inl (nI r), .inr (.inr (4, w, r)), .inl (x_cd (x.1, x.2.1, false)), .inl (nI k)] Mh K) ∧ (∀ (h : Nat) (K : zK) (v2 v3 v4 v5 v6 : zV), K none N' → z_run (z_nop k_X10_query) (z_call (h + 60)) K 193 [.inr (.inr (11, 0, 0)), .inl (nI r), v2, v3, v4, v5, v6] [] N) ∧ z_fcw w Mh Ma ∧ z_fr N N' ∧ SimZ z_F z_F Ma w N' T c' (b + 1) ∧ kp r N N' ∧ Ma = m_aT2 Mh w r (x_cd (x.1, x.2.1, false)) (nI k) := by
      intro Mh N e he st kC kN kB k306 k310
      have kk : k = 0 ∨ k = 1 := by omega
      have Q := Qat e
      generalize n_qD Mr r al.length (ro.length + 1) e = Y at *
      have Nk : ∀ p, 262 ≤ p → p < 358 → ¬ p = 306 + r → ¬ p = 310 + r → ¬ p = 326 + r → ¬ p = 334 + r → N.1 24 0 0 p = Mr.1 24 0 0 p := fun p p1 p2 p3 p4 p5 p6 => by
        rw [kN p (.inl ⟨p1, p2, p3, p4⟩), Q p p1, if_neg p5, if_neg (by omega), if_neg p6, if_neg (by have := eDn al.length; omega), if_neg (by have := eDn al.length; omega), if_neg (by have := eDn al.length; omega)]
      have hid := idE N (fun t ht2 => by
        have := eDn al.length
        rw [kN _ (.inr (.inl (by omega))), Q _ (by omega), if_neg (by omega), if_neg (by omega), if_neg (by omega), if_neg (by omega), if_neg (by omega), if_neg (by omega)])
      have cns : ∀ y, x_cn (N.1 24 0 0) r y ≤ x_cn (Mr.1 24 0 0) r y := x_cnS (fun t ht2 y => by
        rcases kB t ht2 with z | ⟨z, -⟩
        · exact ⟨z ▸ y, hid t ht2⟩
        · rw [z] at y
          exact (nm1 hr y).elim)
      have qns : ∀ y, y ∈ ro → x_qn (N.1 24 0 0) r (16 - y.1) y = x_qn (Mr.1 24 0 0) r (16 - y.1) y := fun y hy => by
        have oy := x_ok ch (Nat.le_refl _) (x := y) (by simp [hy])
        refine qn_loc hid (16 - y.1) y (by omega) (fun t ht2 z => ?_)
        rcases kB t ht2 with q | ⟨-, q⟩
        · rw [q]
        · exact (x_apart ch hy q z).elim
      have r306' : (x_ne (al ++ [(x.1, x.2.1, decide (k = 0))])).length = (x_ne al).length + k := by
        rw [ne_snoc]
        rcases kk with rfl | rfl <;> rfl
      refine ask_T1 (x := x) (x2 := (x.1, x.2.1, decide (k = 0))) (al := al) (ro := ro) (k := k) st hr (by omega) ?_ ?_ ?_ (fun j hj => ?_) ?_ (fun j hj => ?_) ⟨?_, fun j hj => ?_⟩ ?_ ?_ ?_ ?_ ?_ (fun i hi => ?_) ?_ (fun z1 z2 => ?_) ⟨x1, x2⟩ rfl (by omega)
      · exact (Nk _ (by omega) (by omega) (by omega) (by omega) (by omega) (by omega)).trans ht
      · rw [Nk _ (by omega) (by omega) (by omega) (by omega) (by omega) (by omega)]
        exact hm
      · exact (kC _ _ _ (.inl rfl)).trans M1s
      · rw [kC _ _ _ (.inr (.inl rfl)), M1at _ _ _ (by omega)]
        exact (Bt j hj).1
      · rw [kN _ (.inl (by omega)), Q _ (by omega), if_pos rfl]
      · rw [kN _ (.inr (.inr (.inr (by omega)))), kN _ (.inr (.inr (.inr (by omega)))), Q _ (by omega), Q _ (by omega), if_neg (by omega), if_pos (by omega), if_neg (by omega), if_pos (by omega)]
        exact (Bt j hj).2
      · exact (kC _ _ _ (.inl rfl)).trans ((M1at _ _ _ (by omega)).trans D.1)
      · rw [kC _ _ _ (.inr (.inl rfl)), M1at _ _ _ (by omega)]
        exact (D.2.2 j hj).1
      · rw [kN _ (.inl (by omega)), Q _ (by omega), if_neg (by omega), if_neg (by omega), if_pos rfl]
      · have ed := eDn al.length
        have ed0 := eDn 0
        refine (lr_app al _ _).mpr ⟨lr_C lrD (fun p p1 p2 => ?_), ⟨⟨?_, ?_, ?_⟩, trivial⟩⟩
        · rw [kN _ (.inr (.inr (.inr (by omega)))), Q _ (by omega), if_neg (by omega), if_neg (by omega), if_neg (by omega), if_neg (by omega), if_neg (by omega), if_neg (by omega)]
        · rw [show a_dn r 0 + 3 * al.length = a_dn r al.length by omega, kN _ (.inr (.inr (.inr (by omega)))), Q _ (by omega), if_neg (by omega), if_neg (by omega), if_neg (by omega), if_neg (by omega), if_neg (by omega), if_pos rfl]
        · rw [show a_dn r 0 + 3 * al.length = a_dn r al.length by omega, kN _ (.inr (.inr (.inr (by omega)))), Q _ (by omega), if_neg (by omega), if_neg (by omega), if_neg (by omega), if_neg (by omega), if_pos rfl]
        · rw [show a_dn r 0 + 3 * al.length = a_dn r al.length by omega, kN _ (.inr (.inr (.inr (by omega)))), Q _ (by omega), if_neg (by omega), if_neg (by omega), if_neg (by omega), if_pos rfl, he]
          rcases kk with rfl | rfl <;> rfl
      · rw [List.append_assoc]
        exact ch_flag al 0 ch
      · have sl := x_sumL (f := fun y => (16 - y.1) * (x_cn (N.1 24 0 0) r y / 2)) (g := fun y => (16 - y.1) * (x_cn (Mr.1 24 0 0) r y / 2)) (fun y => Nat.mul_le_mul_left _ (Nat.div_le_div_right (cns y))) ro
        omega
      · rw [k306, r306, nI_add, r306']
      · rw [kC _ _ _ (.inr (.inr ⟨rfl, rfl⟩)), M1at _ _ _ (by omega)]
        exact f8 i hi
      · exact (Nk _ (by omega) (by omega) (by omega) (by omega) (by omega) (by omega)).trans r302
      · rw [Nk _ (by omega) (by omega) (by omega) (by omega) (by omega) (by omega)] at z1 z2
        obtain ⟨e0, m0, c0, u1, u2, u3, u4⟩ := due z1 z2
        refine ⟨e0 + (1 - k), m0 + k, c0, ?_, ?_, ?_, ?_⟩
        · rw [k310, u1, nI_add]
        · rw [k306, u2, nI_add]
        · exact (Nk _ (by omega) (by omega) (by omega) (by omega) (by omega) (by omega)).trans u3
        · rw [Nk _ (by omega) (by omega) (by omega) (by omega) (by omega) (by omega), u4, x_sum, hcn z2]
          have sE := x_sumE ro qns
          rw [sE]
          congr 1
          omega
    have QN : ∀ (e : Int32) (p : Nat), 262 ≤ p → p < 814 → ¬ p = 326 + r → ¬ p = 334 + r → (n_qD Mr r al.length (ro.length + 1) e).1 24 0 0 p = Mr.1 24 0 0 p := fun e p p1 p2 p3 p4 => by
      have := eDn al.length
      rw [Qat e p p1, if_neg p3, if_neg (by omega), if_neg p4, if_neg (by omega), if_neg (by omega), if_neg (by omega)]
    rcases (show k = 0 ∨ k = 1 by omega) with rfl | rfl
    · -- nobody
      have stH := Sim_h0 (stQ 1) hr (show c < 2147483000 by omega)
      have eh : m_tallyAdd (m_write (m_cnt (m_cnt (m_pfxTake M w (3 * r)) w 0 1) w 1 1) w (nI r) 1 0) w (2 * r) 0 = m_hear0 (m_pfxTake M w (3 * r)) w r (nI r) := rfl
      have kC : ∀ a cc d, a = 3 ∨ a = 22 ∨ (a = 8 ∧ cc = 2 * r + 1) → (m_hear0 (m_pfxTake M w (3 * r)) w r (nI r)).1 a w cc d = (m_pfxTake M w (3 * r)).1 a w cc d := fun a cc d e => by
        rw [← eh, tal_0 (by omega), zf_wr (by omega), mcnt_at, if_neg (by omega), mcnt_at, if_neg (by omega)]
      rw [eh] at stH
      have fwh : z_fcw w (m_pfxTake M w (3 * r)) (m_hear0 (m_pfxTake M w (3 * r)) w r (nI r)) := fw_tr (fw_tr (fw_tr fw_cnt fw_cnt) fw_wr) fw_tadd
      obtain ⟨Ma, N', c', f1, f2, f3, f4, f5, f6, f7, f8'⟩ := both (m_hear0 (m_pfxTake M w (3 * r)) w r (nI r)) (n_empty (n_qD Mr r al.length (ro.length + 1) 1) r c) 1 rfl stH kC (fun p hp => empty_N (by omega) (by omega)) (fun t ht2 => .inl ((empty_N (by omega) (by omega)).trans (QN 1 _ (by omega) (by omega) (by omega) (by omega)))) (by
        rw [empty_N (by omega) (by omega), QN 1 _ (by omega) (by omega) (by omega) (by omega)]
        exact (Int32.add_zero _).symm) (by
        rw [empty_310 hr, QN 1 _ (by omega) (by omega) (by omega) (by omega)]
        rfl)
      refine ⟨Ma, N', c', by omega, fin _ Ma (fun h' K hK => s_hear0 hbc came hK) f2, fun h' K hK => ?_, fw_tr fwM1 (fw_tr fwh f4), fr_tr (frQ 1) (fr_tr fr_empty f5), f6, kp_tr (kp_of (fun p hp => ?_)) f7, ?_⟩
      · refine s_queryD (h := h' + 66) (m := ro.length + 1) (d := al.length) hr B2 (by omega) (by omega) D.2.1 (by omega) ?_ (fun _ => ⟨c, c4, by omega, fun v2 v3 v4 v5 v6 => f3 (h' + 9) K v2 v3 v4 v5 v6 hK⟩) (fun z => (z g1).elim)
        rw [g1]
        decide
      · unfold P_kp at hp
        exact (empty_N (by omega) (by omega)).trans (QN 1 p (by omega) (by omega) (by omega) (by omega))
      · rw [f8']
        unfold m_askT m_aT3 m_hr
        rw [e2, eS, hbc, if_pos (show nI 0 = 0 from rfl)]
    · -- one
      obtain ⟨t, t24, at1, au⟩ := ct_one ek
      have g3 := g2 t t24 at1 (fun s hs => by
        cases hb : A s with
        | false => rfl
        | true =>
          have := au s (by omega) hb
          omega)
      have hz : r_ntz (z_mk A 24) = nI t := ntz_mk t24 at1 au
      have hxi := (hAx t at1).1
      unfold x_in at hxi
      rw [Bool.and_eq_true, decide_eq_true_iff, decide_eq_true_iff] at hxi
      obtain ⟨hb, hid1⟩ := hxi
      have hin : ¬ (m_pfxTake M w (3 * r)).1 7 w t 0 = 0 := by
        rw [M1at _ _ _ (by omega), (S_01 (h.2.2.2.1 t t24)).1, (Sim_bsy h hr t t24 hb).2.1]
        decide
      obtain ⟨sN, hsN, eS2⟩ := k2.2.2.2.2.2.1
      have k4' := k4
      obtain ⟨m, hm24, em, -⟩ := k4'
      obtain ⟨mlt, hl⟩ := reads_lt k4 em t24 hb hm24
      have stH := Sim_b (b2 := b + 1) (Sim_h1 (stQ 0) hr (show c < 2147483000 by omega) t24 ((QN 0 _ (by omega) (by omega) (by omega) (by omega)).trans hb) hsN ((QN 0 _ (by omega) (by omega) (by omega) (by omega)).trans eS2) ((QN 0 _ (by omega) (by omega) (by omega) (by omega)).trans em) hm24 hT) (by omega)
      have eh : m_tallyAdd (m_readTag (m_write (m_cnt (m_cnt (m_pfxTake M w (3 * r)) w 0 1) w 2 1) w (nI r) 2 (nI t)) w r t (nI r)) w (2 * r) 1 = m_hear1 (m_pfxTake M w (3 * r)) w r t (nI r) := rfl
      have rk22 : ∀ (X : zMem) (cc d : Nat), (m_readTag X w r t (nI r)).1 22 w cc d = X.1 22 w cc d := fun X cc d => by
        have e1 : (m_readTag1 X w r t).1 22 w cc d = X.1 22 w cc d := by
          unfold m_readTag1 m_setFlag
          split
          · split
            · rw [zn_upO (by omega), zn_upO (by omega)]
            · rw [zn_upO (by omega)]
          · rw [zn_upO (by omega)]
        have e2 : (m_readTag2 X w r t).1 22 w cc d = X.1 22 w cc d := by
          unfold m_readTag2
          rw [zn_upO (by omega), e1]
        unfold m_readTag m_note m_release
        split
        · rw [zn_upO (by omega), zn_upO (by omega), zn_upO (by omega), zn_upO (by omega), e2]
        · rw [zn_upO (by omega), zn_upO (by omega), zn_upO (by omega), zn_upO (by omega), zn_upO (by omega), e2]
      have kC : ∀ a cc d, a = 3 ∨ a = 22 ∨ (a = 8 ∧ cc = 2 * r + 1) → (m_hear1 (m_pfxTake M w (3 * r)) w r t (nI r)).1 a w cc d = (m_pfxTake M w (3 * r)).1 a w cc d := fun a cc d e => by
        rw [← eh, tal_0 (by omega)]
        rcases e with rfl | rfl | ⟨rfl, e⟩
        · rw [rt_keep (by omega), zf_wr (by omega), mcnt_at, if_neg (by omega), mcnt_at, if_neg (by omega)]
        · rw [rk22, zf_wr (by omega), mcnt_at, if_neg (by omega), mcnt_at, if_neg (by omega)]
        · rw [rt_keep (by omega), zf_wr (by omega), mcnt_at, if_neg (by omega), mcnt_at, if_neg (by omega)]
      rw [eh] at stH
      have fwh : z_fcw w (m_pfxTake M w (3 * r)) (m_hear1 (m_pfxTake M w (3 * r)) w r t (nI r)) := fw_tr (fw_tr (fw_tr (fw_tr fw_cnt fw_cnt) fw_wr) fw_readTag) fw_tadd
      have B550 : ∀ t2, t2 < 24 → ¬ t2 = t → (n_reads (n_qD Mr r al.length (ro.length + 1) 0) r t sN m c).1 24 0 0 (550 + t2) = Mr.1 24 0 0 (550 + t2) := fun t2 h2 e2 => by
        rw [reads_N hr t24 hsN mlt (by omega) (by omega) (by omega) (by omega) (by omega) (by omega) (by omega) (by omega) (by omega)]
        exact QN 0 _ (by omega) (by omega) (by omega) (by omega)
      obtain ⟨Ma, N', c', f1, f2, f3, f4, f5, f6, f7, f8'⟩ := both (m_hear1 (m_pfxTake M w (3 * r)) w r t (nI r)) (n_reads (n_qD Mr r al.length (ro.length + 1) 0) r t sN m c) 0 rfl stH kC (fun p hp => reads_N hr t24 hsN mlt (by omega) (by omega) (by omega) (by omega) (by omega) (by omega) (by omega) (by omega) (by omega)) (fun t2 ht2 => by
        by_cases e2 : t2 = t
        · subst e2
          exact .inr ⟨reads_5 hr t24 hsN mlt, hid1⟩
        · exact .inl (B550 t2 ht2 e2)) (by
        rw [reads_306 hr t24 hsN mlt, em, nI_add]) (by
        rw [reads_N hr t24 hsN mlt (by omega) (by omega) (by omega) (by omega) (by omega) (by omega) (by omega) (by omega) (by omega), QN 0 _ (by omega) (by omega) (by omega) (by omega)]
        exact (Int32.add_zero _).symm)
      refine ⟨Ma, N', c', by omega, fin _ Ma (fun h' K hK => s_hear1 hbc hz t24 hin came hK) f2, fun h' K hK => ?_, fw_tr fwM1 (fw_tr fwh f4), fr_tr (frQ 0) (fr_tr fr_reads f5), f6, kp_tr ⟨fun p hp => ?_, fun s' t2 h1 h2 h3 y => ?_⟩ f7, ?_⟩
      · refine s_queryD (h := h' + 66) (m := ro.length + 1) (d := al.length) hr B2 (by omega) (by omega) D.2.1 (by omega) ?_ (fun z => ?_) (fun _ => ⟨t, sN, m, c, t24, hsN, mlt, g3, eS2, em, hb, hl, c4, by omega, fun v2 v3 v4 v5 v6 => f3 (h' + 9) K v2 v3 v4 v5 v6 hK⟩)
        · rw [g1]
          decide
        · rw [g1] at z
          exact absurd z (by decide)
      · unfold P_kp at hp
        rw [reads_N hr t24 hsN mlt (by omega) (by omega) (by omega) (by omega) (by omega) (by omega) (by omega) (by omega) (by omega)]
        exact QN 0 p (by omega) (by omega) (by omega) (by omega)
      · by_cases e2 : t2 = t
        · subst e2
          rw [reads_5 hr t24 hsN mlt] at y
          exact (nm1 h1 y).elim
        · rw [B550 t2 h3 e2] at y
          exact y
      · rw [f8']
        unfold m_askT m_aT3 m_hr
        rw [e2, eS, hbc, if_neg (show ¬ nI 1 = 0 by decide), if_pos (show nI 1 = 1 from rfl), hz, nI_clamp (by omega)]
  · -- more: its halves
    have ne0 : ¬ nI k = 0 := nI_ne0 (by omega) (by omega)
    have ne1 : ¬ nI k = 1 := fun z => by
      have := (nI_eq (b := 1) (by omega) (by decide)).mp z
      omega
    have nle : ¬ nI k ≤ 1 := Int32.not_le.mpr (show (1 : Int32) < nI k from nI_lt (a := 1) (b := k) (by omega) (by omega))
    have xlt : x.1 < 16 := by
      rcases Nat.lt_or_ge x.1 16 with z | z
      · exact z
      · obtain ⟨s, t, s1, t1, ne2, a1, a2⟩ := ct_two (a := A) (by omega)
        have b1 := (hAx s a1).1
        have b2 := (hAx t a2).1
        unfold x_in at b1 b2
        rw [Bool.and_eq_true, decide_eq_true_iff, decide_eq_true_iff] at b1 b2
        have one : x_sz x = 1 := by
          unfold x_sz
          rw [show 16 - x.1 = 0 by omega]
        rw [one, Nat.div_one] at b1 b2
        refine (ne2 (h.2.2.2.2.2.2.1 s t s1 t1 (Sim_bsy h hr s s1 b1.1).2.1 (Sim_bsy h hr t t1 b2.1).2.1 ?_)).elim
        rw [id_N, id_N, b1.2, b2.2]
    have st2 : SimZ (fun q => q = r) z_F (m_cnt (m_pfxTake M w (3 * r)) w 0 1) w (n_gath Mr r (Mr.1 24 0 0 (a_rw r 0)) (Mr.1 24 0 0 (a_rw r 0 + 1))) T c b := Sim_R (Sim_cnt (k := 0) (x := 1) st1 (by omega)) (fun p => gath_N)
    have stC := Sim_h2 st2 hr (show c < 2147483000 by omega) k2g hk24 (zf_gath5.trans g1)
    have eh : m_tallyAdd (m_write (m_cnt (m_cnt (m_pfxTake M w (3 * r)) w 0 1) w 3 1) w (nI r) 3 (nI k)) w (2 * r) (nI k) = m_hear2 (m_pfxTake M w (3 * r)) w r (nI r) (nI k) := rfl
    have kC : ∀ a cc d, a = 3 ∨ a = 22 ∨ (a = 8 ∧ cc = 2 * r + 1) → (m_hear2 (m_pfxTake M w (3 * r)) w r (nI r) (nI k)).1 a w cc d = (m_pfxTake M w (3 * r)).1 a w cc d := fun a cc d e => by
      rw [← eh, tal_0 (by omega), zf_wr (by omega), mcnt_at, if_neg (by omega), mcnt_at, if_neg (by omega)]
    rw [eh] at stC
    have fwh : z_fcw w (m_pfxTake M w (3 * r)) (m_hear2 (m_pfxTake M w (3 * r)) w r (nI r) (nI k)) := fw_tr (fw_tr (fw_tr fw_cnt fw_cnt) fw_wr) fw_tadd
    have callH : ∀ (h : Nat) (K : zK), K none (m_hear2 (m_pfxTake M w (3 * r)) w r (nI r) (nI k)) → z_call (h + 60) 46 [.inr (.inr (9, w, 0)), .inl (nI r), .inr (.inr (4, w, r)), .inl (z_mk A 24)] (m_pfxTake M w (3 * r)) K := fun h' K hK => s_hear2 (by rw [hbc]; exact ne0) (by rw [hbc]; exact ne1) came (by rw [hbc]; exact hK)
    have frC : z_fr Mr (n_qC Mr r c (ro.length + 1)) := by
      unfold n_qC n_qC2 z_su
      refine fr_tr (fr_tr (fr_tr (fr_tr fr_gath fr_clashes) fr_cp) (fr_it (fun i M => ?_) 2)) fr_up
      exact fr_tr fr_up fr_up
    have Cat : ∀ p, 262 ≤ p → ¬ p = 314 + r → (n_clashes (n_gath Mr r (Mr.1 24 0 0 (a_rw r 0)) (Mr.1 24 0 0 (a_rw r 0 + 1))) r c).1 24 0 0 p = Mr.1 24 0 0 p := fun p p1 p2 => (clash_N p1 p2).trans (zf_gath (by omega))
    have C314 : (n_clashes (n_gath Mr r (Mr.1 24 0 0 (a_rw r 0)) (Mr.1 24 0 0 (a_rw r 0 + 1))) r c).1 24 0 0 (314 + r) = Mr.1 24 0 0 (314 + r) + 1 := by
      rw [clash_314 hr, zf_gath (by omega)]
    have eqC : n_qC Mr r c (ro.length + 1) = n_qC2 (n_clashes (n_gath Mr r (Mr.1 24 0 0 (a_rw r 0)) (Mr.1 24 0 0 (a_rw r 0 + 1))) r c) r (ro.length + 1) (nI x.1) (nI x.2.1) := by
      unfold n_qC
      rw [bb1, bb2]
    have callR : ∀ (h : Nat) (K : zK), K none (n_qC Mr r c (ro.length + 1)) → z_call (h + 70) 216 [.inr (.inr (11, 0, 0)), .inl (nI r)] Mr K := fun h' K hK => s_queryC (h := h' + 66) hr B2 (by omega) (by omega) c4 (by omega) (by rw [g1]; exact nle) hK
    generalize n_clashes (n_gath Mr r (Mr.1 24 0 0 (a_rw r 0)) (Mr.1 24 0 0 (a_rw r 0 + 1))) r c = C at *
    have eAll : m_askT M w r (z_mk qJ 24) = m_aT2 (m_hear2 (m_pfxTake M w (3 * r)) w r (nI r) (nI k)) w r (x_cd (x.1, x.2.1, false)) (nI k) := by
      unfold m_askT m_aT3 m_hr
      rw [e2, eS, hbc, if_neg ne0, if_neg ne1]
    generalize m_hear2 (m_pfxTake M w (3 * r)) w r (nI r) (nI k) = Mh at *
    -- the class's row
    have l16 : ¬ (nI k ≤ 1 ∨ r_lengthOf (x_cd (x.1, x.2.1, false)) ≥ 16) := fun z => by
      rcases z with z | z
      · exact nle z
      · rw [kd_len (x := (x.1, x.2.1, false)) x1 x2] at z
        exact nI_ge' xlt z
    have q1 : r_longer (x_cd (x.1, x.2.1, false)) 1 = x_cd (x.1 + 1, 2 * x.2.1 + 1, false) := kd_long (d := 1) xlt x3 (by omega)
    have q0 : r_longer (x_cd (x.1, x.2.1, false)) 0 = x_cd (x.1 + 1, 2 * x.2.1, false) := kd_long (d := 0) xlt x3 (by omega)
    have sM : Mh.1 3 w (3 * r) 1 = nI ro.length := (kC _ _ _ (.inl rfl)).trans M1s
    have eM : m_aq1 Mh w r (x_cd (x.1, x.2.1, false)) (nI k) = m_pfxAdd (m_pfxAdd Mh w (3 * r) (x_cd (x.1 + 1, 2 * x.2.1 + 1, false))) w (3 * r) (x_cd (x.1 + 1, 2 * x.2.1, false)) := by
      unfold m_aq1
      rw [if_neg l16, q1, q0]
    have off := (z_off_add (w := w) (i := 3 * r) (M := Mh) (x := x_cd (x.1 + 1, 2 * x.2.1 + 1, false))).tr (z_off_add (x := x_cd (x.1 + 1, 2 * x.2.1, false)))
    have e5 := pa_eq (i := 3 * r) (x := x_cd (x.1 + 1, 2 * x.2.1 + 1, false)) sM (show ro.length < 512 by omega)
    have s5 : (m_pfxAdd Mh w (3 * r) (x_cd (x.1 + 1, 2 * x.2.1 + 1, false))).1 3 w (3 * r) 1 = nI (ro.length + 1) := sz_add sM (by omega)
    have e6 := pa_eq (i := 3 * r) (x := x_cd (x.1 + 1, 2 * x.2.1, false)) s5 (show ro.length + 1 < 512 by omega)
    rw [← eM] at off e6
    have s6 : (m_aq1 Mh w r (x_cd (x.1, x.2.1, false)) (nI k)).1 3 w (3 * r) 1 = nI (ro.length + 2) := by
      rw [e6, zn_upS]
    have v6 : ∀ j, (m_aq1 Mh w r (x_cd (x.1, x.2.1, false)) (nI k)).1 22 w (3 * r) j = if j = ro.length + 1 then x_cd (x.1 + 1, 2 * x.2.1, false) else if j = ro.length then x_cd (x.1 + 1, 2 * x.2.1 + 1, false) else Mh.1 22 w (3 * r) j := fun j => by
      rw [e6, zn_upO (by decide)]
      by_cases c1 : j = ro.length + 1
      · rw [if_pos c1, c1, zn_upS]
      · rw [if_neg c1, zn_upN c1, e5, zn_upO (by decide)]
        by_cases c2 : j = ro.length
        · rw [if_pos c2, c2, zn_upS]
        · rw [if_neg c2, zn_upN c2]
    have aq : ∀ (h : Nat) (K : zK), K none (m_aq1 Mh w r (x_cd (x.1, x.2.1, false)) (nI k)) → z_call (h + 60) 53 [.inr (.inr (9, w, 0)), .inl (nI r), .inr (.inr (4, w, r)), .inl (x_cd (x.1, x.2.1, false)), .inl (nI k)] Mh K := fun h' K hK => by
      have n0 : ¬ (m_aq1 Mh w r (x_cd (x.1, x.2.1, false)) (nI k)).1 3 w (3 * r) 1 = 0 := by
        rw [s6]
        exact nI_ne0 (by omega) (by omega)
      have hD : Mh.1 3 w (3 * r + 1) 1 = nI al.length := (kC _ _ _ (.inl rfl)).trans ((M1at _ _ _ (by omega)).trans D.1)
      refine s_aq (h := h' + 55) (n := al.length) ?_ ?_ ?_ ?_ (by omega) (fun z => (n0 z).elim) ?_
      · rw [sM]
        exact nI_pos (by omega)
      · rw [hD]
        exact nI_pos (by omega)
      · rw [q1, s5]
        exact nI_pos (by omega)
      · rw [off.1 _ _ _ _ (by omega)]
        exact hD
      · unfold m_aq
        rw [if_neg n0]
        exact hK
    have eAl2 : m_askT M w r (z_mk qJ 24) = m_aq1 Mh w r (x_cd (x.1, x.2.1, false)) (nI k) := by
      rw [eAll]
      unfold m_aT2 m_aq
      rw [if_neg (by rw [s6]; exact nI_ne0 (by omega) (by omega))]
    have o : ∀ a cc d, ¬ ((a = 3 ∨ a = 22) ∧ cc = 3 * r) → (m_aq1 Mh w r (x_cd (x.1, x.2.1, false)) (nI k)).1 a w cc d = Mh.1 a w cc d := fun a cc d e => off.1 a w cc d (fun z => e ⟨z.1, z.2.2⟩)
    have fwo : z_fcw w Mh (m_aq1 Mh w r (x_cd (x.1, x.2.1, false)) (nI k)) := fw_off off
    generalize m_aq1 Mh w r (x_cd (x.1, x.2.1, false)) (nI k) = M5 at *
    -- the reference's row
    have nn : nI x.1 + 1 = nI (x.1 + 1) := nI_1 _
    have n2 : nI 2 * nI x.2.1 + nI 1 = nI (2 * x.2.1 + 1) := by rw [pk_mul, nI_add]
    have n3 : nI 2 * nI x.2.1 + nI 0 = nI (2 * x.2.1) := by rw [pk_mul, nI_add]; rfl
    have Nat_ : ∀ q, (n_qC Mr r c (ro.length + 1)).1 24 0 0 q = if q = 326 + r then nI (ro.length + 2) else if q = a_rw r 0 + 4 then nI (2 * x.2.1 + 1) else if q = a_rw r 0 + 3 then nI (x.1 + 1) else if q = a_rw r 0 + 1 then nI (2 * x.2.1) else if q = a_rw r 0 then nI (x.1 + 1) else if a_rw r 0 + 6 ≤ q ∧ q < a_rw r 0 + 3 * (ro.length + 1) + 3 then C.1 24 0 0 (q - 3) else C.1 24 0 0 q := fun q => by
      rw [eqC, qC2_at hr (by omega) (by omega), nn, n2, n3]
    generalize n_qC Mr r c (ro.length + 1) = N at *
    have Nk : ∀ p, 262 ≤ p → p < 814 ∨ 3514 + 2700 * r ≤ p → ¬ p = 314 + r → ¬ p = 326 + r → N.1 24 0 0 p = Mr.1 24 0 0 p := fun p p1 p2 p3 p4 => by
      rw [Nat_, if_neg p4, if_neg (by omega), if_neg (by omega), if_neg (by omega), if_neg (by omega), if_neg (by omega)]
      exact Cat p p1 p3
    have stF : SimZ (fun q => q = r) z_F M5 w N T (c + 1) (b + 1) := by
      refine Sim_stk stC hr (fun a cc d e => o a cc d (fun z => e (.inr ⟨z.1, .inl z.2⟩))) (fun p hp => ?_) ⟨ro.length + 2, by omega, ?_⟩
      · unfold P_stk at hp
        rw [Nat_, if_neg (by omega), if_neg (by omega), if_neg (by omega), if_neg (by omega), if_neg (by omega), if_neg (by omega)]
      · rw [Nat_, if_pos rfl]
    have hid := idE N (fun t ht2 => Nk _ (by omega) (by omega) (by omega) (by omega))
    have cnE : ∀ y, x_cn (N.1 24 0 0) r y = x_cn (Mr.1 24 0 0) r y := x_cnE (fun t ht2 y => ⟨by rw [← Nk _ (by omega) (by omega) (by omega) (by omega)]; exact y, hid t ht2⟩) (fun t ht2 y => by rw [Nk _ (by omega) (by omega) (by omega) (by omega)]; exact y)
    have hi := (x_mem ch (y := x) (by simp)).2.2
    have two := cn_two (R := Mr.1 24 0 0) (r := r) (x := x) false false xlt hi
    refine ⟨M5, N, c + 1, by omega, fin _ M5 callH aq, callR, fw_tr fwM1 (fw_tr fwh fwo), frC, ?_, kp_of (fun p hp => Nk p (by unfold P_kp at hp; omega) (by unfold P_kp at hp; omega) (by unfold P_kp at hp; omega) (by unfold P_kp at hp; omega)), eAl2.symm⟩
    have nk : ∀ p, 262 ≤ p → p < 358 → ¬ p = 314 + r → ¬ p = 326 + r → N.1 24 0 0 p = Mr.1 24 0 0 p := fun p p1 p2 p3 p4 => Nk p p1 (by omega) p3 p4
    refine Sim_in stF hr (fun s _ ne z => (ne z).elim) ⟨fun z => ?_, fun _ z => ?_, fun _ _ => ⟨(x.1 + 1, 2 * x.2.1, false) :: (x.1 + 1, 2 * x.2.1 + 1, false) :: ro, al, ⟨?_, ?_, fun j hj => ?_⟩, ⟨?_, ?_, fun j hj => ?_⟩, by simp, x_split ch xlt false false, ?_, ?_, fun i hi => ?_, ?_, fun z1 z2 => ?_⟩⟩
    · rw [nk _ (by omega) (by omega) (by omega) (by omega), ht] at z
      exact absurd z (by decide)
    · rw [nk _ (by omega) (by omega) (by omega) (by omega)] at z
      rcases hm with y | y
      · rw [y] at z
        exact absurd z (by decide)
      · rw [y] at z
        exact absurd z (by decide)
    · exact s6
    · rw [Nat_, if_pos rfl]
      rfl
    · have hl : ((x.1 + 1, 2 * x.2.1, false) :: (x.1 + 1, 2 * x.2.1 + 1, false) :: ro).length = ro.length + 2 := rfl
      rw [hl] at hj
      rw [hl]
      rcases j with _ | _ | j
      · refine ⟨?_, ?_, ?_⟩
        · rw [v6, if_pos (by omega)]
          rfl
        · rw [Nat_, if_neg (by omega), if_neg (by omega), if_neg (by omega), if_neg (by omega), if_pos (by omega)]
          rfl
        · rw [Nat_, if_neg (by omega), if_neg (by omega), if_neg (by omega), if_pos (by omega)]
          rfl
      · refine ⟨?_, ?_, ?_⟩
        · rw [v6, if_neg (by omega), if_pos (by omega)]
          rfl
        · rw [Nat_, if_neg (by omega), if_neg (by omega), if_pos (by omega)]
          rfl
        · rw [Nat_, if_neg (by omega), if_pos (by omega)]
          rfl
      · have hj2 : j < ro.length := by omega
        obtain ⟨t1, t2, t3⟩ := Bt j hj2
        refine ⟨?_, ?_, ?_⟩
        · rw [v6, if_neg (by omega), if_neg (by omega), show ro.length + 2 - 1 - (j + 1 + 1) = ro.length - 1 - j by omega, kC _ _ _ (.inr (.inl rfl)), M1at _ _ _ (by omega)]
          exact t1
        · rw [Nat_, if_neg (by omega), if_neg (by omega), if_neg (by omega), if_neg (by omega), if_neg (by omega), if_pos (by omega), show a_rw r 0 + 3 * (j + 1 + 1) - 3 = a_rw r 0 + 3 * j + 3 by omega, Cat _ (by omega) (by omega)]
          exact t2
        · rw [Nat_, if_neg (by omega), if_neg (by omega), if_neg (by omega), if_neg (by omega), if_neg (by omega), if_pos (by omega), show a_rw r 0 + 3 * (j + 1 + 1) + 1 - 3 = a_rw r 0 + 3 * j + 4 by omega, Cat _ (by omega) (by omega)]
          exact t3
    · exact (o _ _ _ (by omega)).trans ((kC _ _ _ (.inl rfl)).trans ((M1at _ _ _ (by omega)).trans D.1))
    · exact (nk _ (by omega) (by omega) (by omega) (by omega)).trans D.2.1
    · have ed0 := eDn 0
      have d2 := D.2.2 j hj
      rw [o _ _ _ (by omega), kC _ _ _ (.inr (.inl rfl)), M1at _ _ _ (by omega), Nk _ (by omega) (by omega) (by omega) (by omega), Nk _ (by omega) (by omega) (by omega) (by omega), Nk _ (by omega) (by omega) (by omega) (by omega)]
      exact d2
    · have e1 : x_sum (fun y => (16 - y.1) * (x_cn (N.1 24 0 0) r y / 2)) ro = x_sum (fun y => (16 - y.1) * (x_cn (Mr.1 24 0 0) r y / 2)) ro := x_sumE ro (fun y _ => by rw [cnE])
      have pt := x_pot (a := 15 - x.1) two (by omega)
      rw [List.length_cons, List.length_cons, x_sum, x_sum, e1, cnE, cnE]
      rw [show 15 - x.1 + 1 = 16 - x.1 by omega] at pt
      show al.length + (ro.length + 1 + 1) + ((16 - (x.1 + 1)) * (x_cn (Mr.1 24 0 0) r (x.1 + 1, 2 * x.2.1, false) / 2) + ((16 - (x.1 + 1)) * (x_cn (Mr.1 24 0 0) r (x.1 + 1, 2 * x.2.1 + 1, false) / 2) + _)) ≤ 488
      rw [show 16 - (x.1 + 1) = 15 - x.1 by omega]
      generalize (15 - x.1) * (x_cn (Mr.1 24 0 0) r (x.1 + 1, 2 * x.2.1, false) / 2) = u1 at *
      generalize (15 - x.1) * (x_cn (Mr.1 24 0 0) r (x.1 + 1, 2 * x.2.1 + 1, false) / 2) = u2 at *
      generalize (16 - x.1) * (x_cn (Mr.1 24 0 0) r x / 2) = u3 at *
      omega
    · exact (nk _ (by omega) (by omega) (by omega) (by omega)).trans r306
    · rw [o _ _ _ (by omega), kC _ _ _ (.inr (.inr ⟨rfl, rfl⟩)), M1at _ _ _ (by omega)]
      exact f8 i hi
    · exact (nk _ (by omega) (by omega) (by omega) (by omega)).trans r302
    · rw [nk _ (by omega) (by omega) (by omega) (by omega)] at z1 z2
      obtain ⟨e0, m0, c0, u1, u2, u3, u4⟩ := due z1 z2
      refine ⟨e0, m0, c0 + 1, ?_, ?_, ?_, ?_⟩
      · exact (nk _ (by omega) (by omega) (by omega) (by omega)).trans u1
      · exact (nk _ (by omega) (by omega) (by omega) (by omega)).trans u2
      · rw [Nat_, if_neg (by omega), if_neg (by omega), if_neg (by omega), if_neg (by omega), if_neg (by omega), if_neg (by omega), C314, u3]
        exact nI_1 _
      · have sE : x_sum (fun y => x_qn (N.1 24 0 0) r (16 - y.1) y) ro = x_sum (fun y => x_qn (Mr.1 24 0 0) r (16 - y.1) y) ro := x_sumE ro (fun y _ => x_qnE cnE _ _)
        have qx : x_qn (Mr.1 24 0 0) r (16 - x.1) x = 1 + x_qn (Mr.1 24 0 0) r (16 - (x.1 + 1)) (x.1 + 1, 2 * x.2.1, false) + x_qn (Mr.1 24 0 0) r (16 - (x.1 + 1)) (x.1 + 1, 2 * x.2.1 + 1, false) := by
          rw [show 16 - x.1 = (16 - (x.1 + 1)) + 1 by omega, x_qn, if_neg (by rw [keq z2]; omega)]
        rw [nk _ (by omega) (by omega) (by omega) (by omega), u4, x_sum, x_sum, x_sum, sE, x_qnE cnE, x_qnE cnE, qx]
        congr 1
        dsimp only
        omega
