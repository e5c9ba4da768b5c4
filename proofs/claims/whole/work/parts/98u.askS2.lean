/-! behind the answer -/
theorem ask_fin {Mh N : zMem} {w T c b r e s c0 q md : Nat} {J S : Int32}
    (hx : SimZ (fun q => q = r) z_F (m_as3 Mh w r S) w (z_up N 24 0 0 (302 + r) (N.1 24 0 0 (302 + r) + 1)) T c b ∧ S_mid (m_as3 Mh w r S) w ((z_up N 24 0 0 (302 + r) (N.1 24 0 0 (302 + r) + 1)).1 24 0 0) r e s c0 q md) (hr : r < 4) (hc : c < 2147483000) (hsum : e + s + c0 ≤ 2 ^ q) (hq : q ≤ 8) (hmd : md = 0 ∨ (md = 2 ∧ q ≤ 4)) (hJ : ∀ t, t < 24 → N.1 24 0 0 (694 + t) = if bt J t = true then 1 else 0) (tb : ∀ j, j < 221 → (m_as3 Mh w r S).2 46 j = tC j) :
    ∃ Ma N' c', c' ≤ c + 1 ∧ (∀ (h : Nat) (K : zK), K none Ma → z_call (h + 60) 48 [.inr (.inr (9, w, 0)), .inl (nI r), .inr (.inr (4, w, r)), .inl S, .inl J] Mh K) ∧ (∀ (h : Nat) (K : zK) (v3 : zV), K none N' → z_run (z_nop k_X10_slot) (z_call (h + 60)) K 176 [.inr (.inr (11, 0, 0)), .inl (nI r), .inl (if N.1 24 0 0 (294 + r) = 0 then 1 else 0), v3] [] N) ∧ z_fcw w (m_as3 Mh w r S) Ma ∧ z_fr N N' ∧ SimZ z_F z_F Ma w N' T c' b ∧ kp r N N' ∧ Ma = m_as (m_as3 Mh w r S) w r (nI r) J (gS (m_as3 Mh w r S) w r) := by
  have s_as' := @s_as
  obtain ⟨h, mid⟩ := hx
  generalize e3 : m_as3 Mh w r S = M3 at *
  have R : ∀ p, ¬ p = 302 + r → (z_up N 24 0 0 (302 + r) (N.1 24 0 0 (302 + r) + 1)).1 24 0 0 p = N.1 24 0 0 p := fun p hp => zn_upN hp
  obtain ⟨g, E, c', hc', g1, g2, g3, g4, g5, g6, g7⟩ := slot_end (J := J) h hr hc mid hsum hq hmd (fun t ht => (R _ (by omega)).trans (hJ t ht)) tb
  obtain ⟨k1, k2, -⟩ := h.2.2.2.2.2.2.2.2 r hr
  obtain ⟨x, hx, ex⟩ := k2.2.2.2.1
  have c2 : M3.1 4 w r 2 = nI x := (show M3.1 4 w r 2 = _ from k1.1 2 (by omega)).trans ex
  have c9 : M3.1 4 w r 9 = nI q := (show M3.1 4 w r 9 = _ from k1.1 9 (by omega)).trans mid.2.2.2.2.2.2.2.2.1
  have ex' : N.1 24 0 0 (266 + r) = nI x := (R _ (by omega)).symm.trans ex
  refine ⟨m_as M3 w r (nI r) J g, _, c', hc', fun h' K hK => ?_, fun h' K v3 hK => ?_, fw_as, fr_tr fr_up g6, g4, kp_tr (kp_of (fun p hp => R p (by unfold P_kp at hp; omega))) g5, by rw [g7]⟩
  · have as := @s_as' (h' + 54) w r Mh (nI r) S J g K
    rw [e3] at as
    refine as (fun _ => ?_) ?_ g1 ?_ (fun a b2 K2 q2 => g2 a b2 (h' + 9) K2 q2) hK
    · unfold r_qByQf
      rw [c2, qf_8 hx]
      exact (shl_q _ (by omega)).1
    · rw [c9]
      exact (shl_q _ hq).1
    · rw [fin3_came, h.2.1.1]
      exact nI_pos (by omega)
  · have e1 : r_qOf (z_up N 24 0 0 (302 + r) (N.1 24 0 0 (302 + r) + 1)) r = r_qOf N r := by
      unfold r_qOf
      rw [R _ (by omega)]
    rw [e1, R _ (by omega), R _ (by omega), zn_upS] at g3
    refine s_sl176 (h := h' + 56) (E := E) hr (fun _ _ => ?_) (fun a b2 K2 q2 => g3 a b2 (h' + 10) K2 q2) hK
    unfold r_qOf
    rw [ex', qf_8 hx]
    exact (shl_q _ (by omega)).2
theorem Sim_wk {O : Nat → Prop} {M Mr : zMem} {w T c b : Nat} (Z : Nat → Prop) (h : SimZ z_F O M w Mr T c b) : SimZ Z O M w Mr T c b := by
  obtain ⟨h1, h2, h3, h4, h5, h6, h7, h8, h9⟩ := h
  refine ⟨h1, h2, h3, h4, h5, h6, h7, h8, fun q hq => ?_⟩
  obtain ⟨k1, k2, k3, k4, k5, k6⟩ := h9 q hq
  exact ⟨k1, k2, k3, k4, k5, fun _ => k6 (fun z => z)⟩
theorem tal_0 {M : zMem} {w r a cc d : Nat} {x : Int32} (h : ¬ (a = 8 ∧ cc = 2 * r)) : (m_tallyAdd M w (2 * r) x).1 a w cc d = M.1 a w cc d := by
  unfold m_tallyAdd
  split
  · rw [z_up1, if_neg (by omega)]
  · split
    · rw [z_up1, if_neg (by omega)]
    · rw [z_up1, if_neg (by omega)]
theorem rt_keep {M : zMem} {w r t a cc d : Nat} {x : Int32} (h : a = 3 ∨ a = 8 ∨ a = 4) : (m_readTag M w r t x).1 a w cc d = M.1 a w cc d := by
  have e1 : (m_readTag1 M w r t).1 a w cc d = M.1 a w cc d := by
    unfold m_readTag1 m_setFlag
    split
    · split
      · rw [zn_upO (by omega), zn_upO (by omega)]
      · rw [zn_upO (by omega)]
    · rw [zn_upO (by omega)]
  have e2 : (m_readTag2 M w r t).1 a w cc d = M.1 a w cc d := by
    unfold m_readTag2
    rw [zn_upO (by omega), e1]
  unfold m_readTag m_note m_release
  split
  · rw [zn_upO (by omega), zn_upO (by omega), zn_upO (by omega), zn_upO (by omega), e2]
  · rw [zn_upO (by omega), zn_upO (by omega), zn_upO (by omega), zn_upO (by omega), zn_upO (by omega), e2]
theorem hear_keep {M : zMem} {w r k a cc d : Nat} {x y z : Int32} (h : a = 3 ∨ (a = 8 ∧ cc = 2 * r + 1)) : (m_tallyAdd (m_write (m_cnt (m_cnt M w 0 1) w k 1) w x y z) w (2 * r) z).1 a w cc d = M.1 a w cc d := by
  rw [tal_0 (by omega), zf_wr (by omega), mcnt_at, if_neg (by omega), mcnt_at, if_neg (by omega)]
theorem hear_keep1 {M : zMem} {w r t k a cc d : Nat} {x y z u v : Int32} (h : a = 3 ∨ (a = 8 ∧ cc = 2 * r + 1)) : (m_tallyAdd (m_readTag (m_write (m_cnt (m_cnt M w 0 1) w k 1) w x y z) w r t u) w (2 * r) v).1 a w cc d = M.1 a w cc d := by
  rw [tal_0 (by omega), rt_keep (by omega), zf_wr (by omega), mcnt_at, if_neg (by omega), mcnt_at, if_neg (by omega)]
theorem gath_N {Mr : zMem} {r p : Nat} {b2 p2 : Int32} : (n_gath Mr r b2 p2).1 24 0 0 p = (n_counts Mr 0 1).1 24 0 0 p := by
  unfold n_gath
  rw [cnt_at, cnt_at]
  rfl
theorem empty_N {N : zMem} {r c p : Nat} (h1 : 262 ≤ p) (h2 : ¬ p = 310 + r) : (n_empty N r c).1 24 0 0 p = N.1 24 0 0 p := by
  unfold n_empty
  rw [zf_logs (by omega) (by omega), cnt_at, if_neg (by omega), zn_upN h2]
theorem clash_N {N : zMem} {r c p : Nat} (h1 : 262 ≤ p) (h2 : ¬ p = 314 + r) : (n_clashes N r c).1 24 0 0 p = N.1 24 0 0 p := by
  unfold n_clashes
  rw [zf_logs (by omega) (by omega), cnt_at, if_neg (by omega), zn_upN h2]
theorem reads_N {N : zMem} {r t s m c p : Nat} (hr : r < 4) (ht : t < 24) (hs : s < 4) (hm : m < 24) (h1 : 262 ≤ p) (h2 : ¬ p = 306 + r) (h3 : ¬ p = 358 + 24 * r + m) (h4 : ¬ p = 622 + t) (h5 : ¬ p = 598 + t) (h6 : ¬ p = 550 + t) (h7 : ¬ p = 574 + t) (h8 : ¬ p = 718 + 4 * t + s) (h9 : ¬ p = 646 + t) : (n_reads N r t s m c).1 24 0 0 p = N.1 24 0 0 p := by
  rw [← reads_row hr ht hs hm, rdd_R hr ht hm, if_neg h2, if_neg h3, if_neg h4, if_neg h5, if_neg (by omega), rd_yy ht hs, if_neg (by omega), if_neg h8, if_neg (by omega), zf_logs (by omega) (by omega), cnt_at, if_neg (by omega)]
theorem reads_5 {N : zMem} {r t s m c : Nat} (hr : r < 4) (ht : t < 24) (hs : s < 4) (hm : m < 24) : (n_reads N r t s m c).1 24 0 0 (550 + t) = -1 := by
  rw [← reads_row hr ht hs hm, rdd_R hr ht hm, if_neg (by omega), if_neg (by omega), if_neg (by omega), if_neg (by omega), if_pos (by omega)]
