/-! one ask of a slots reader -/
theorem fin3_came {M : zMem} {w r : Nat} {x : Int32} : (m_finish3 M w r x).1 2 w 0 1 = M.1 2 w 0 1 := by
  unfold m_finish3 m_finish2 m_rest m_releaseAll m_tallyClear m_pfxClear
  rw [zn_upO (by decide), zn_upO (by decide), zn_upO (by decide), zn_upO (by decide), zn_upO (by decide), zn_upO (by decide), rd_rel 24 (Nat.le_refl _), if_neg (by omega)]
  unfold m_finish1
  rw [zn_upO (by decide), zn_upO (by decide)]
theorem fw_down {w : Nat} {M : zMem} {x j : Int32} : z_fcw w M (m_down M w x j) := fw_it (fun i M => by
  unfold f_down
  split
  · exact fw_up (by decide)
  · exact fw_rf) 24
theorem fw_drop {w : Nat} {M : zMem} {s : Int32} : z_fcw w M (m_drop M w s) := fw_it (fun i M => by
  unfold f_drop
  split
  · exact fw_up (by decide)
  · exact fw_rf) 24
theorem fw_fin {w r : Nat} {M : zMem} {x : Int32} : z_fcw w M (m_finish M w r x) := fw_tr (B := m_finish3 M w r x) (by
  unfold m_finish3 m_finish2 m_finish1
  exact fw_tr (fw_tr (fw_tr (fw_tr (fw_up (by decide)) (fw_up (by decide))) fw_relA) fw_rest) (fw_up (by decide))) fw_wr
theorem fw_as {w r : Nat} {M : zMem} {x j g : Int32} : z_fcw w M (m_as M w r x j g) := by
  unfold m_as
  split
  · exact fw_nf
  · split
    · exact fw_down
    · split
      · exact fw_fin
      · exact fw_nf
theorem fw_as3 {w r : Nat} {M : zMem} {s : Int32} : z_fcw w M (m_as3 M w r s) := by
  have e2 : z_fcw w M (m_as2 M w r s) := by
    unfold m_as2 m_as1
    split
    · exact fw_tadd
    · exact fw_tr fw_tadd fw_drop
  unfold m_as3 m_stepQf
  split
  · split
    · exact fw_tr e2 (fw_up (by decide))
    · split
      · exact e2
      · exact fw_tr e2 (fw_up (by decide))
  · exact e2
theorem fw_note {w r : Nat} {M : zMem} {t : Int32} : z_fcw w M (m_note M w r t) := by
  unfold m_note
  split
  · exact fw_rf
  · exact fw_up (by decide)
theorem fw_readTag {w r t : Nat} {M : zMem} {x : Int32} : z_fcw w M (m_readTag M w r t x) := by
  unfold m_readTag m_readTag2 m_readTag1
  exact fw_tr (fw_tr (fw_tr (fw_tr (fw_tr fw_set (fw_up (by decide))) (fw_up (by decide))) (fw_up (by decide))) fw_rel) fw_note
theorem fr_gath {M : zMem} {r : Nat} {b p : Int32} : z_fr M (n_gath M r b p) := by
  unfold n_gath z_an
  exact fr_tr (fr_tr (fr_up11 (by decide)) (fr_up11 (by decide))) fr_cnt
theorem fr_empty {M : zMem} {r c : Nat} : z_fr M (n_empty M r c) := fr_tr (fr_tr fr_up fr_cnt) fr_logs
theorem fr_clashes {M : zMem} {r c : Nat} : z_fr M (n_clashes M r c) := fr_tr (fr_tr fr_up fr_cnt) fr_logs
theorem fr_reads {M : zMem} {r t s m c : Nat} : z_fr M (n_reads M r t s m c) := by
  unfold n_reads n_reads3 n_reads2 n_reads1
  exact fr_tr (fr_tr (fr_tr (fr_tr (fr_tr (fr_tr (fr_tr (fr_tr fr_turns fr_cnt) fr_free) fr_up) fr_up) fr_up) fr_up) fr_cnt) fr_logs
theorem fr_qfE {M : zMem} {r : Nat} : z_fr M (n_qfE M r) := by
  unfold n_qfE
  split
  · exact fr_up
  · exact fr_rf
theorem fr_qfC {M : zMem} {r : Nat} : z_fr M (n_qfC M r) := by
  unfold n_qfC
  split
  · exact fr_up
  · exact fr_rf
theorem fr_mdrop {M : zMem} {r : Nat} : ∀ n, z_fr M (z_it (f_mDrop r) n M) := fr_it (fun i M => by
  unfold f_mDrop
  split
  · exact fr_up
  · exact fr_rf)
theorem mid_fin {A B : zMem} {w T c b r e s c0 q md : Nat} (h : SimZ (fun q => q = r) z_F A w B T c b) (hr : r < 4) (m1 : A.1 3 w (3 * r) 1 = 0) (m2 : B.1 24 0 0 (326 + r) = 0) (m3 : A.1 8 w (2 * r + 1) 0 = nI e) (m4 : A.1 8 w (2 * r + 1) 1 = nI s) (m5 : A.1 8 w (2 * r + 1) 2 = nI c0) (m6 : B.1 24 0 0 (338 + r) = nI e) (m7 : B.1 24 0 0 (342 + r) = nI s) (m8 : B.1 24 0 0 (346 + r) = nI c0) (m9 : B.1 24 0 0 (298 + r) = nI q) (m10 : B.1 24 0 0 (294 + r) = nI md) (m11 : B.1 24 0 0 (302 + r) + 1 = nI (e + s + c0)) (m12 : B.1 24 0 0 (278 + r) = 1) : SimZ (fun q => q = r) z_F A w (z_up B 24 0 0 (302 + r) (B.1 24 0 0 (302 + r) + 1)) T c b ∧ S_mid A w ((z_up B 24 0 0 (302 + r) (B.1 24 0 0 (302 + r) + 1)).1 24 0 0) r e s c0 q md := by
  have R : ∀ p, ¬ p = 302 + r → (z_up B 24 0 0 (302 + r) (B.1 24 0 0 (302 + r) + 1)).1 24 0 0 p = B.1 24 0 0 p := fun p hp => zn_upN hp
  refine ⟨Sim_stk h hr (fun a c d _ => rfl) (fun p hp => R p (by unfold P_stk at hp; omega)) ⟨0, by omega, (R _ (by omega)).trans m2⟩, m1, (R _ (by omega)).trans m2, m3, m4, m5, (R _ (by omega)).trans m6, (R _ (by omega)).trans m7, (R _ (by omega)).trans m8, (R _ (by omega)).trans m9, (R _ (by omega)).trans m10, ?_, (R _ (by omega)).trans m12⟩
  rw [zn_upS]
  exact m11
theorem qfE_N {N : zMem} {r p : Nat} (hp : ¬ p = 266 + r) : (n_qfE N r).1 24 0 0 p = N.1 24 0 0 p := by
  unfold n_qfE
  split
  · exact zn_upN hp
  · rfl
theorem qfC_N {N : zMem} {r p : Nat} (hp : ¬ p = 266 + r) : (n_qfC N r).1 24 0 0 p = N.1 24 0 0 p := by
  unfold n_qfC
  split
  · exact zn_upN hp
  · rfl
/-- QF's step behind an answer -/
theorem Sim_stepE {M N : zMem} {w T c b r : Nat} (h : SimZ (fun q => q = r) z_F M w N T c b) (hr : r < 4) : SimZ (fun q => q = r) z_F (if M.1 4 w r 8 = 0 then m_stepQf M w r 0 else M) w (n_qfE N r) T c b := by
  obtain ⟨k1, k2, -⟩ := h.2.2.2.2.2.2.2.2 r hr
  obtain ⟨x, hx, ex⟩ := k2.2.2.2.1
  obtain ⟨y, hy, hy2, ey⟩ := k2.2.2.2.2.1
  have c8 : M.1 4 w r 8 = N.1 24 0 0 (294 + r) := k1.1 8 (by omega)
  have c2 : M.1 4 w r 2 = N.1 24 0 0 (266 + r) := k1.1 2 (by omega)
  have c3 : M.1 4 w r 3 = N.1 24 0 0 (270 + r) := k1.1 3 (by omega)
  unfold n_qfE
  rw [c8]
  by_cases e : N.1 24 0 0 (294 + r) = 0
  · rw [if_pos e, if_pos e]
    unfold m_stepQf
    rw [if_pos rfl, c2, c3, ex, ey, (qf_E hx hy2).1, (qf_E hx hy2).2]
    exact Sim_qf h hr (by omega)
  · rw [if_neg e, if_neg e]
    exact h
theorem Sim_stepC {M N : zMem} {w T c b r k : Nat} (h : SimZ (fun q => q = r) z_F M w N T c b) (hr : r < 4) (hk : 2 ≤ k) (hk2 : k ≤ 24) : SimZ (fun q => q = r) z_F (if M.1 4 w r 8 = 0 then m_stepQf M w r (nI k) else M) w (n_qfC N r) T c b := by
  obtain ⟨k1, k2, -⟩ := h.2.2.2.2.2.2.2.2 r hr
  obtain ⟨x, hx, ex⟩ := k2.2.2.2.1
  obtain ⟨y, hy, hy2, ey⟩ := k2.2.2.2.2.1
  have c8 : M.1 4 w r 8 = N.1 24 0 0 (294 + r) := k1.1 8 (by omega)
  have c2 : M.1 4 w r 2 = N.1 24 0 0 (266 + r) := k1.1 2 (by omega)
  have c3 : M.1 4 w r 3 = N.1 24 0 0 (270 + r) := k1.1 3 (by omega)
  unfold n_qfC
  rw [c8]
  by_cases e : N.1 24 0 0 (294 + r) = 0
  · rw [if_pos e, if_pos e]
    unfold m_stepQf
    rw [if_neg (show ¬ nI k = 0 from nI_ne0 (by omega) (by omega)), if_neg (show ¬ nI k ≤ 1 from Int32.not_le.mpr (show (1 : Int32) < nI k from nI_lt (a := 1) (b := k) (by omega) (by omega))), c2, c3, ex, ey, (qf_C hx hy2).1, (qf_C hx hy2).2]
    exact Sim_qf h hr (by omega)
  · rw [if_neg e, if_neg e]
    exact h
theorem step_M {M : zMem} {w r a cc d : Nat} {k : Int32} (h : ¬ a = 4) : (if M.1 4 w r 8 = 0 then m_stepQf M w r k else M).1 a w cc d = M.1 a w cc d := by
  unfold m_stepQf
  split
  · split
    · exact zn_upO h
    · split
      · rfl
      · exact zn_upO h
  · rfl
theorem tal_at {M : zMem} {w r k a cc d : Nat} (hk : k < 3) : (m_tallyAdd M w (2 * r + 1) (nI k)).1 a w cc d = if a = 8 ∧ cc = 2 * r + 1 ∧ d = k then M.1 8 w (2 * r + 1) k + 1 else M.1 a w cc d := by
  unfold m_tallyAdd
  rcases (show k = 0 ∨ k = 1 ∨ k = 2 by omega) with rfl | rfl | rfl
  · rw [if_pos (show nI 0 = 0 from rfl), z_up1]
    simp only [true_and]
  · rw [if_neg (by decide), if_pos (show nI 1 = 1 from rfl), z_up1]
    simp only [true_and]
  · rw [if_neg (by decide), if_neg (by decide), z_up1]
    simp only [true_and]
theorem tal_2 {M : zMem} {w i k : Nat} (hk : 2 ≤ k) (hk2 : k ≤ 24) : m_tallyAdd M w i (nI k) = m_tallyAdd M w i (nI 2) := by
  unfold m_tallyAdd
  rw [if_neg (show ¬ nI k = 0 from nI_ne0 (by omega) (by omega)), if_neg (show ¬ nI k = 1 from fun z => by have := (nI_eq (b := 1) (by omega) (by decide)).mp z; omega), if_neg (by decide), if_neg (by decide)]
/-- the frame's tally told, QF stepped, the slot counted -/
theorem as_k0 {M N : zMem} {w T c b r e s c0 q md : Nat} {S : Int32} (h : SimZ (fun q => q = r) z_F M w N T c b) (hr : r < 4) (mid : S_mid M w (N.1 24 0 0) r e s c0 q md) (hS : r_bc S = 0) :
    let B := n_qfE (z_up N 24 0 0 (338 + r) (N.1 24 0 0 (338 + r) + 1)) r
    SimZ (fun q => q = r) z_F (m_as3 M w r S) w (z_up B 24 0 0 (302 + r) (B.1 24 0 0 (302 + r) + 1)) T c b ∧ S_mid (m_as3 M w r S) w ((z_up B 24 0 0 (302 + r) (B.1 24 0 0 (302 + r) + 1)).1 24 0 0) r (e + 1) s c0 q md := by
  intro B
  obtain ⟨m1, m2, m3, m4, m5, m6, m7, m8, m9, m10, m11, m12⟩ := mid
  have e2 : m_as2 M w r S = m_tallyAdd M w (2 * r + 1) (nI 0) := by
    unfold m_as2 m_as1
    rw [hS, if_pos (by decide)]
    rfl
  have e3 : m_as3 M w r S = if (m_tallyAdd M w (2 * r + 1) (nI 0)).1 4 w r 8 = 0 then m_stepQf (m_tallyAdd M w (2 * r + 1) (nI 0)) w r 0 else m_tallyAdd M w (2 * r + 1) (nI 0) := by
    unfold m_as3
    rw [e2, hS]
  have R : ∀ p, ¬ p = 338 + r → (z_up N 24 0 0 (338 + r) (N.1 24 0 0 (338 + r) + 1)).1 24 0 0 p = N.1 24 0 0 p := fun p hp => zn_upN hp
  have s1 : SimZ (fun q => q = r) z_F (m_tallyAdd M w (2 * r + 1) (nI 0)) w (z_up N 24 0 0 (338 + r) (N.1 24 0 0 (338 + r) + 1)) T c b := Sim_stk h hr (fun a cc d e => by rw [tal_at (by omega), if_neg (fun z => e (.inl ⟨z.1, z.2.1⟩))]) (fun p hp => R p (by unfold P_stk at hp; omega)) ⟨0, by omega, (R _ (by omega)).trans m2⟩
  have s2 := Sim_stepE s1 hr
  rw [← e3] at s2
  have B' : ∀ p, ¬ p = 266 + r → ¬ p = 338 + r → B.1 24 0 0 p = N.1 24 0 0 p := fun p h1 h2 => (qfE_N h1).trans (R p h2)
  have B8 : B.1 24 0 0 (338 + r) = nI (e + 1) := by
    refine (qfE_N (by omega)).trans ?_
    rw [zn_upS, m6]
    exact nI_1 e
  have A' : ∀ a cc d, ¬ a = 4 → (m_as3 M w r S).1 a w cc d = (m_tallyAdd M w (2 * r + 1) (nI 0)).1 a w cc d := fun a cc d ne => by
    rw [e3]
    exact step_M ne
  refine mid_fin s2 hr ?_ ?_ ?_ ?_ ?_ B8 ?_ ?_ ?_ ?_ ?_ ?_
  · rw [A' _ _ _ (by decide), tal_at (by omega), if_neg (by omega)]
    exact m1
  · exact (B' _ (by omega) (by omega)).trans m2
  · rw [A' _ _ _ (by decide), tal_at (by omega), if_pos ⟨rfl, rfl, rfl⟩, m3]
    exact nI_1 e
  · rw [A' _ _ _ (by decide), tal_at (by omega), if_neg (by omega)]
    exact m4
  · rw [A' _ _ _ (by decide), tal_at (by omega), if_neg (by omega)]
    exact m5
  · exact (B' _ (by omega) (by omega)).trans m7
  · exact (B' _ (by omega) (by omega)).trans m8
  · exact (B' _ (by omega) (by omega)).trans m9
  · exact (B' _ (by omega) (by omega)).trans m10
  · rw [B' _ (by omega) (by omega), m11, show e + 1 + s + c0 = e + s + c0 + 1 by omega]
    exact nI_1 _
  · exact (B' _ (by omega) (by omega)).trans m12
/-- the reference's frame tally of SINGLES was told before -/
theorem as_k1 {M N : zMem} {w T c b r e s c0 q md : Nat} {S : Int32} (h : SimZ (fun q => q = r) z_F M w N T c b) (hr : r < 4) (m1 : M.1 3 w (3 * r) 1 = 0) (m2 : N.1 24 0 0 (326 + r) = 0) (m3 : M.1 8 w (2 * r + 1) 0 = nI e) (m4 : M.1 8 w (2 * r + 1) 1 = nI s) (m5 : M.1 8 w (2 * r + 1) 2 = nI c0) (m6 : N.1 24 0 0 (338 + r) = nI e) (m7 : N.1 24 0 0 (342 + r) = nI (s + 1)) (m8 : N.1 24 0 0 (346 + r) = nI c0) (m9 : N.1 24 0 0 (298 + r) = nI q) (m10 : N.1 24 0 0 (294 + r) = nI md) (m11 : N.1 24 0 0 (302 + r) = nI (e + s + c0)) (m12 : N.1 24 0 0 (278 + r) = 1) (hS : r_bc S = 1) :
    SimZ (fun q => q = r) z_F (m_as3 M w r S) w (z_up N 24 0 0 (302 + r) (N.1 24 0 0 (302 + r) + 1)) T c b ∧ S_mid (m_as3 M w r S) w ((z_up N 24 0 0 (302 + r) (N.1 24 0 0 (302 + r) + 1)).1 24 0 0) r e (s + 1) c0 q md := by
  have e2 : m_as2 M w r S = m_tallyAdd M w (2 * r + 1) (nI 1) := by
    unfold m_as2 m_as1
    rw [hS, if_pos (by decide)]
    rfl
  have e3 : m_as3 M w r S = m_tallyAdd M w (2 * r + 1) (nI 1) := by
    unfold m_as3
    rw [e2, hS]
    unfold m_stepQf
    rw [if_neg (show ¬ (1 : Int32) = 0 by decide), if_pos (show (1 : Int32) ≤ 1 by decide)]
    exact ite_self _
  have s1 : SimZ (fun q => q = r) z_F (m_tallyAdd M w (2 * r + 1) (nI 1)) w N T c b := Sim_stk h hr (fun a cc d e => by rw [tal_at (by omega), if_neg (fun z => e (.inl ⟨z.1, z.2.1⟩))]) (fun p hp => rfl) ⟨0, by omega, m2⟩
  rw [e3]
  refine mid_fin s1 hr ?_ m2 ?_ ?_ ?_ m6 m7 m8 m9 m10 ?_ m12
  · rw [tal_at (by omega), if_neg (by omega)]
    exact m1
  · rw [tal_at (by omega), if_neg (by omega)]
    exact m3
  · rw [tal_at (by omega), if_pos ⟨rfl, rfl, rfl⟩, m4]
    exact nI_1 s
  · rw [tal_at (by omega), if_neg (by omega)]
    exact m5
  · rw [m11, show e + (s + 1) + c0 = e + s + c0 + 1 by omega]
    exact nI_1 _
theorem as_k2 {M N B D : zMem} {w T c b r e s c0 q md k : Nat} {a : Nat → Bool} (h : SimZ (fun q => q = r) z_F M w N T c b) (hr : r < 4) (mid : S_mid M w (N.1 24 0 0) r e s c0 q md) (hk : 2 ≤ k) (hk2 : k ≤ 24) (hS : r_bc (z_mk a 24) = nI k) (ha : ∀ t, t < 24 → (a t = true ↔ (N.1 24 0 0 (550 + t) = nI r ∧ N.1 24 0 0 (694 + t) = 0 ∧ N.1 24 0 0 (574 + t) = 0))) (hD : z_it (f_mDrop r) 24 (z_up N 24 0 0 (346 + r) (N.1 24 0 0 (346 + r) + 1)) = D) (hB : n_qfC D r = B) :
    (SimZ (fun q => q = r) z_F (m_as3 M w r (z_mk a 24)) w (z_up B 24 0 0 (302 + r) (B.1 24 0 0 (302 + r) + 1)) T c b ∧ S_mid (m_as3 M w r (z_mk a 24)) w ((z_up B 24 0 0 (302 + r) (B.1 24 0 0 (302 + r) + 1)).1 24 0 0) r e s (c0 + 1) q md) ∧ ∀ p, ¬ p = 266 + r → ¬ p = 346 + r → (p < 574 ∨ 598 ≤ p) → B.1 24 0 0 p = N.1 24 0 0 p := by
  obtain ⟨m1, m2, m3, m4, m5, m6, m7, m8, m9, m10, m11, m12⟩ := mid
  have e2 : m_as2 M w r (z_mk a 24) = m_drop (m_tallyAdd M w (2 * r + 1) (nI 2)) w (z_mk a 24) := by
    unfold m_as2 m_as1
    rw [hS, if_neg (show ¬ nI k ≤ 1 from Int32.not_le.mpr (show (1 : Int32) < nI k from nI_lt (a := 1) (b := k) (by omega) (by omega))), tal_2 hk hk2]
  have e3 : m_as3 M w r (z_mk a 24) = if (m_drop (m_tallyAdd M w (2 * r + 1) (nI 2)) w (z_mk a 24)).1 4 w r 8 = 0 then m_stepQf (m_drop (m_tallyAdd M w (2 * r + 1) (nI 2)) w (z_mk a 24)) w r (nI k) else m_drop (m_tallyAdd M w (2 * r + 1) (nI 2)) w (z_mk a 24) := by
    unfold m_as3
    rw [e2, hS]
  have R : ∀ p, ¬ p = 346 + r → (z_up N 24 0 0 (346 + r) (N.1 24 0 0 (346 + r) + 1)).1 24 0 0 p = N.1 24 0 0 p := fun p hp => zn_upN hp
  have s1 : SimZ (fun q => q = r) z_F (m_tallyAdd M w (2 * r + 1) (nI 2)) w (z_up N 24 0 0 (346 + r) (N.1 24 0 0 (346 + r) + 1)) T c b := Sim_stk h hr (fun a cc d e => by rw [tal_at (by omega), if_neg (fun z => e (.inl ⟨z.1, z.2.1⟩))]) (fun p hp => R p (by unfold P_stk at hp; omega)) ⟨0, by omega, (R _ (by omega)).trans m2⟩
  obtain ⟨s2, s2k⟩ := Sim_drop (a := a) s1 hr (fun t ht => by rw [R _ (by omega), R _ (by omega), R _ (by omega)]; exact ha t ht) 24 (Nat.le_refl _)
  rw [hD] at s2 s2k
  have ed : z_it (f_drop w (z_mk a 24)) 24 (m_tallyAdd M w (2 * r + 1) (nI 2)) = m_drop (m_tallyAdd M w (2 * r + 1) (nI 2)) w (z_mk a 24) := rfl
  rw [ed] at s2
  have s3 := Sim_stepC s2 hr hk hk2
  rw [← e3, hB] at s3
  have B' : ∀ p, ¬ p = 266 + r → ¬ p = 346 + r → (p < 574 ∨ 598 ≤ p) → B.1 24 0 0 p = N.1 24 0 0 p := fun p h1 h2 h3 => hB ▸ ((qfC_N h1).trans (s2k p (by omega))).trans (R p h2)
  have B8 : B.1 24 0 0 (346 + r) = nI (c0 + 1) := by
    rw [← hB]
    refine ((qfC_N (by omega)).trans (s2k _ (by omega))).trans ?_
    rw [zn_upS, m8]
    exact nI_1 c0
  have dn : ∀ a2 cc d, ¬ a2 = 7 → ∀ M2 : zMem, (m_drop M2 w (z_mk a 24)).1 a2 w cc d = M2.1 a2 w cc d := fun a2 cc d ne M2 => by
    unfold m_drop
    have g : ∀ n, (z_it (f_drop w (z_mk a 24)) n M2).1 a2 w cc d = M2.1 a2 w cc d := fun n => by
      induction n with
      | zero => rfl
      | succ n ih =>
        rw [z_itS]
        refine Eq.trans ?_ ih
        unfold f_drop
        split
        · exact zn_upO ne
        · rfl
    exact g 24
  have A' : ∀ a2 cc d, ¬ a2 = 4 → ¬ a2 = 7 → (m_as3 M w r (z_mk a 24)).1 a2 w cc d = (m_tallyAdd M w (2 * r + 1) (nI 2)).1 a2 w cc d := fun a2 cc d ne ne2 => by
    rw [e3]
    exact (step_M ne).trans (dn _ _ _ ne2 _)
  refine ⟨mid_fin s3 hr ?_ ?_ ?_ ?_ ?_ ?_ ?_ B8 ?_ ?_ ?_ ?_, B'⟩
  · rw [A' _ _ _ (by decide) (by decide), tal_at (by omega), if_neg (by omega)]
    exact m1
  · exact (B' _ (by omega) (by omega) (by omega)).trans m2
  · rw [A' _ _ _ (by decide) (by decide), tal_at (by omega), if_neg (by omega)]
    exact m3
  · rw [A' _ _ _ (by decide) (by decide), tal_at (by omega), if_neg (by omega)]
    exact m4
  · rw [A' _ _ _ (by decide) (by decide), tal_at (by omega), if_pos ⟨rfl, rfl, rfl⟩, m5]
    exact nI_1 c0
  · exact (B' _ (by omega) (by omega) (by omega)).trans m6
  · exact (B' _ (by omega) (by omega) (by omega)).trans m7
  · exact (B' _ (by omega) (by omega) (by omega)).trans m9
  · exact (B' _ (by omega) (by omega) (by omega)).trans m10
  · rw [B' _ (by omega) (by omega) (by omega), m11, show e + s + (c0 + 1) = e + s + c0 + 1 by omega]
    exact nI_1 _
  · exact (B' _ (by omega) (by omega) (by omega)).trans m12
