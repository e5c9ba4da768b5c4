/-! a tick of both: the asks, the whole -/
noncomputable def m_F (M1 : zMem) (w : Nat) : Nat → zMem → zMem := fun i M => m_ask1 M w i (r_tagsJammed M1 w (r_readersTaking M1 w))
noncomputable def m_passE (M : zMem) (w : Nat) : zMem := m_pass (m_F (m_pass1 M w) w) M w
theorem asks_all {M1 M2 N2 : zMem} {w T c b : Nat} (h : SimZ z_F z_F M2 w N2 T c b) (hc : c < 2147481000) (hT : T < 2147483648)
    (tk : ∀ i, i < 4 → (r_readersTaking M1 w >>> (nI i &&& 31) &&& 1 = 1 ↔ N2.1 24 0 0 (278 + i) = 1))
    (hJ : ∀ t, t < 24 → N2.1 24 0 0 (694 + t) = if q_jam M1 w t = true then 1 else 0) (hcl : ∀ r, r < 4 → N2.1 24 0 0 (350 + r) = 1 → ∀ t, t < 24 → N2.1 24 0 0 (550 + t) = nI r → q_jam M1 w t = false) (tb : ∀ j, j < 221 → M2.2 46 j = tC j) :
    ∀ n, n ≤ 4 → ∃ (B : Nat → zMem) (c' : Nat), B 0 = N2 ∧ c' ≤ c + 2 * n ∧ (∀ i, i < n → (N2.1 24 0 0 (278 + i) = 1 → (∀ (h : Nat) (K : zK), K none (m_F M1 w i (z_it (f_ask (m_F M1 w) (r_readersTaking M1 w)) i M2)) → z_call (h + 70) 42 [.inr (.inr (9, w, 0)), .inl (nI i), .inl (r_tagsJammed M1 w (r_readersTaking M1 w))] (z_it (f_ask (m_F M1 w) (r_readersTaking M1 w)) i M2) K) ∧ (r_tree (B i) i = 0 → ∀ (h : Nat) (K : zK), K none (B (i + 1)) → z_call (h + 70) 214 [.inr (.inr (11, 0, 0)), .inl (nI i)] (B i) K) ∧ (¬ r_tree (B i) i = 0 → ∀ (h : Nat) (K : zK), K none (B (i + 1)) → z_call (h + 70) 216 [.inr (.inr (11, 0, 0)), .inl (nI i)] (B i) K)) ∧ (¬ N2.1 24 0 0 (278 + i) = 1 → B (i + 1) = B i)) ∧
      SimZ z_F z_F (z_it (f_ask (m_F M1 w) (r_readersTaking M1 w)) n M2) w (B n) T c' (b + n) ∧ z_fcw w M2 (z_it (f_ask (m_F M1 w) (r_readersTaking M1 w)) n M2) ∧ z_fr N2 (B n) ∧ (∀ s, n ≤ s → s < 4 → (B n).1 24 0 0 (278 + s) = N2.1 24 0 0 (278 + s) ∧ (B n).1 24 0 0 (350 + s) = N2.1 24 0 0 (350 + s) ∧ ∀ t, t < 24 → (B n).1 24 0 0 (550 + t) = nI s → N2.1 24 0 0 (550 + t) = nI s) ∧ (∀ t, t < 24 → (B n).1 24 0 0 (694 + t) = N2.1 24 0 0 (694 + t))
  | 0, _ => ⟨fun _ => N2, c, rfl, by omega, fun i hi => absurd hi (Nat.not_lt_zero i), h, fw_rf, fr_rf, fun s _ _ => ⟨rfl, rfl, fun _ _ e => e⟩, fun _ _ => rfl⟩
  | n + 1, hn => by
    obtain ⟨B, c', b0, bc, bi, bs, bf, br, bk, bj⟩ := asks_all h hc hT tk hJ hcl tb n (by omega)
    obtain ⟨q1, q2, q3⟩ := bk n (Nat.le_refl _) (by omega)
    rw [z_itS]
    generalize eA : z_it (f_ask (m_F M1 w) (r_readersTaking M1 w)) n M2 = A at *
    by_cases ct : N2.1 24 0 0 (278 + n) = 1
    · have ej : r_tagsJammed M1 w (r_readersTaking M1 w) = z_mk (q_jam M1 w) 24 := rfl
      obtain ⟨N', c2, a1, a2, a3, a4, a5, a6, a7, a8⟩ := ask_1 (qJ := q_jam M1 w) bs (show n < 4 by omega) (by omega) hT (q1.trans ct) (fun t ht => (bj t ht).trans (hJ t ht)) (fun z t ht e => hcl n (by omega) (q2.symm.trans z) t ht (q3 t ht e)) (fun j hj => by rw [bf.2]; exact tb j hj)
      have eF : f_ask (m_F M1 w) (r_readersTaking M1 w) n A = m_F M1 w n A := by
        unfold f_ask
        rw [if_pos ((tk n (by omega)).mpr ct)]
      have eF2 : m_F M1 w n A = m_ask1 A w n (z_mk (q_jam M1 w) 24) := rfl
      rw [eF, eF2]
      refine ⟨fun i => if i = n + 1 then N' else B i, c2, ?_, by omega, fun i hi => ?_, ?_, fw_tr bf a5, ?_, fun s s1 s2 => ?_, fun t ht => ?_⟩
      · dsimp only
        rw [if_neg (by omega)]
        exact b0
      · dsimp only
        by_cases e : i = n
        · subst e
          rw [if_neg (show ¬ i = i + 1 by omega), if_pos rfl]
          refine ⟨fun _ => ⟨?_, a3, a4⟩, fun z => (z ct).elim⟩
          rw [eA, eF2, ej]
          exact a2
        · rw [if_neg (by omega), if_neg (by omega)]
          exact bi i (by omega)
      · dsimp only
        rw [if_pos rfl]
        exact a7
      · dsimp only
        rw [if_pos rfl]
        exact fr_tr br a6
      · dsimp only
        rw [if_pos rfl]
        obtain ⟨r1, r2, r3⟩ := bk s (by omega) s2
        rw [a8.1 (278 + s) (.inr (by omega)), a8.1 (350 + s) (.inr (by omega))]
        exact ⟨r1, r2, fun t ht e => r3 t ht (a8.2 s t s2 (by omega) ht e)⟩
      · dsimp only
        rw [if_pos rfl, a8.1 (694 + t) (.inl (by omega))]
        exact bj t ht
    · have eF : f_ask (m_F M1 w) (r_readersTaking M1 w) n A = A := by
        unfold f_ask
        rw [if_neg (fun z => ct ((tk n (by omega)).mp z))]
      rw [eF]
      refine ⟨fun i => if i = n + 1 then B n else B i, c', ?_, by omega, fun i hi => ?_, ?_, bf, ?_, fun s s1 s2 => ?_, fun t ht => ?_⟩
      · dsimp only
        rw [if_neg (by omega)]
        exact b0
      · dsimp only
        by_cases e : i = n
        · subst e
          rw [if_neg (show ¬ i = i + 1 by omega), if_pos rfl]
          exact ⟨fun z => (ct z).elim, fun _ => rfl⟩
        · rw [if_neg (by omega), if_neg (by omega)]
          exact bi i (by omega)
      · dsimp only
        rw [if_pos rfl]
        exact Sim_b bs (by omega)
      · dsimp only
        rw [if_pos rfl]
        exact br
      · dsimp only
        rw [if_pos rfl]
        exact bk s (by omega) s2
      · dsimp only
        rw [if_pos rfl]
        exact bj t ht
theorem fw_pass1 {w i : Nat} {M : zMem} : z_fcw w M (f_pass w i M) := by
  unfold f_pass
  split
  · exact fw_rf
  · rw [fbt_all]
    exact fw_tr (fw_tr (fw_tr fw_fbt fw_fbt) fw_fbt) fw_fbt
theorem fr_pass1 {i : Nat} {M : zMem} : z_fr M (f_mPass i M) := by
  unfold f_mPass
  split
  · exact fr_mfade
  · exact fr_rf
theorem pass_two {M Mr : zMem} {w T c b : Nat} (h : SimZ z_F z_F M w Mr T c b) (hc : c < 2147481000) (hT : T < 99999) (tb : ∀ j, j < 221 → M.2 46 j = tC j) :
    ∃ N' c', c' ≤ c + 8 ∧ (∀ (h : Nat) (K : zK), K none (m_passE M w) → z_call (h + 80) 105 [.inr (.inr (9, w, 0))] M K) ∧ (∀ (h : Nat) (K : zK), K none N' → z_call (h + 80) 220 [.inr (.inr (11, 0, 0))] Mr K) ∧ z_fcw w M (m_passE M w) ∧ z_fr Mr N' ∧ SimZ z_F z_F (m_passE M w) w N' (T + 1) c' (b + 4) := by
  have s1 := Sim_T1 h
  obtain ⟨j1, j2, j3, j4⟩ := Sim_jam s1 24 (Nat.le_refl _)
  have hb : ∀ t, t < 24 → Mr.1 24 0 0 (550 + t) = -1 ∨ ∃ r, r < 4 ∧ Mr.1 24 0 0 (550 + t) = nI r := fun t ht => (h.2.2.2.2.2.1 t ht).imp id (fun ⟨r, a, b, _⟩ => ⟨r, a, b⟩)
  have hb1 : ∀ t, t < 24 → (n_tick1 Mr).1 24 0 0 (550 + t) = -1 ∨ ∃ r, r < 4 ∧ (n_tick1 Mr).1 24 0 0 (550 + t) = nI r := fun t ht => (s1.2.2.2.2.2.1 t ht).imp id (fun ⟨r, a, b, _⟩ => ⟨r, a, b⟩)
  have keep : ∀ p, p < 350 ∨ 354 ≤ p → ¬ p = 16 → p < 694 ∨ 718 ≤ p → (n_tick2 Mr).1 24 0 0 p = (n_tick1 Mr).1 24 0 0 p := fun p p1 p2 p3 => by
    unfold n_tick2
    exact zf_jam (Nat.le_refl _) p1 p2 p3 hb1
  have e2 : z_it f_jam 24 (n_tick1 Mr) = n_tick2 Mr := by unfold n_tick2; rfl
  rw [e2] at j1 j2 j3 j4
  have j1' : SimZ z_F z_F (m_pass2 M w) w (n_tick2 Mr) (T + 1) c b := Sim_W j1 (W_eqA (fun a cc d _ => by
    have eJ : r_tagsJammed (m_pass1 M w) w (r_readersTaking (m_pass1 M w) w) = z_mk (q_jam (m_pass1 M w) w) 24 := rfl
    rw [jC_at]
    unfold m_pass2
    rw [eJ, z_bcM, z_up1]
    simp only [true_and])) (fun _ => rfl) (Nat.le_refl _)
  have frN2 : z_fr Mr (n_tick2 Mr) := by
    rw [← e2]
    refine fr_tr (B := n_tick1 Mr) fr_up ?_
    exact fr_it (fun i M => fr_jam) 24
  have fwM2 : z_fcw w M (m_pass2 M w) := fw_tr (B := m_pass1 M w) (fw_up (by decide)) (fw_up (by decide))
  have eP : m_passE M w = z_it (f_pass w) 24 (z_it (f_ask (m_F (m_pass1 M w) w) (r_readersTaking (m_pass1 M w) w)) 4 (m_pass2 M w)) := by
    unfold m_passE m_pass
    rfl
  have v01 : ∀ k, k < 4 → (n_tick1 Mr).1 24 0 0 (278 + k) = 0 ∨ (n_tick1 Mr).1 24 0 0 (278 + k) = 1 := fun k hk => (s1.2.2.2.2.2.2.2.2 k hk).2.1.2.1
  have tk : ∀ i, i < 4 → (r_readersTaking (m_pass1 M w) w >>> (nI i &&& 31) &&& 1 = 1 ↔ (n_tick2 Mr).1 24 0 0 (278 + i) = 1) := fun i hi => by
    have m1 : (m_pass1 M w).1 4 w i 1 = (n_tick1 Mr).1 24 0 0 (278 + i) := (s1.2.2.2.2.2.2.2.2 i hi).1.1 1 (by omega)
    unfold r_readersTaking
    rw [mk4B _ hi, m1, keep _ (by omega) (by omega) (by omega)]
    rcases v01 i hi with z | z
    · rw [z]
      decide
    · rw [z]
      decide
  obtain ⟨B, c', b0, bc, bi, bs, bf, br, -, -⟩ := asks_all j1' hc (by omega) tk j2 (fun r hr z t ht e => by
    cases hq : q_jam (m_pass1 M w) w t with
    | false => rfl
    | true =>
      have e' : (n_tick1 Mr).1 24 0 0 (550 + t) = nI r := (keep _ (by omega) (by omega) (by omega)).symm.trans e
      rw [j4 t r ht hr e' hq] at z
      exact absurd z (by decide)) (fun j hj => by rw [fwM2.2]; exact tb j hj) 4 (Nat.le_refl _)
  have sF := Sim_fades bs (by omega) 24 (Nat.le_refl _)
  have fwF : z_fcw w (z_it (f_ask (m_F (m_pass1 M w) w) (r_readersTaking (m_pass1 M w) w)) 4 (m_pass2 M w)) (m_passE M w) := by
    rw [eP]
    exact fw_it (fun i M => fw_pass1) 24
  rw [← eP] at sF
  have hmA : ∀ n, n ≤ 4 → z_it (f_mAsk (fun r _ => B (r + 1)) (r_takes (n_tick1 Mr) 4)) n (n_tick2 Mr) = B n := fun n hn => by
    induction n with
    | zero => rw [z_it, b0]
    | succ n ih =>
      rw [z_itS, ih (by omega)]
      unfold f_mAsk
      have th := takes_has v01 (r := n) (by omega)
      have kn : (n_tick2 Mr).1 24 0 0 (278 + n) = (n_tick1 Mr).1 24 0 0 (278 + n) := keep _ (by omega) (by omega) (by omega)
      by_cases ct : (n_tick2 Mr).1 24 0 0 (278 + n) = 1
      · rw [if_neg (fun z => th.mp z (kn.symm.trans ct))]
      · rw [if_pos (th.mpr (fun z => ct (kn.trans z)))]
        exact ((bi n (by omega)).2 ct).symm
  have hN : n_ticks (fun r _ => B (r + 1)) Mr = z_it f_mPass 24 (B 4) := by
    unfold n_ticks
    rw [hmA 4 (Nat.le_refl _)]
  have frF : z_fr (B 4) (z_it f_mPass 24 (B 4)) := fr_it (fun i M => fr_pass1) 24
  generalize z_it f_mPass 24 (B 4) = NF at *
  refine ⟨NF, c', by omega, fun h' K hK => ?_, fun h' K hK => ?_, fw_tr (fw_tr fwM2 bf) fwF, fr_tr (fr_tr frN2 br) frF, sF⟩
  · refine s_pass (h := h' + 72) (F := m_F (m_pass1 M w) w) (fun i hi ct K2 q2 => ?_) (by unfold m_passE at hK; exact hK)
    exact ((bi i hi).1 ((tk i hi).mp ct)).1 (h' + 9) K2 q2
  · refine s_ticks (h := h' + 74) (F := fun r _ => B (r + 1)) hb (fun r hr ct K2 q2 => ?_) (by rw [hN]; exact hK)
    rw [hmA r (by omega)]
    have ct2 : (n_tick2 Mr).1 24 0 0 (278 + r) = 1 := by
      rw [keep _ (by omega) (by omega) (by omega)]
      exact Classical.byContradiction (fun z => ct ((takes_has v01 hr).mpr z))
    obtain ⟨-, d2, d3⟩ := (bi r hr).1 ct2
    exact ⟨fun z => d2 z (h' + 9) K2 q2, fun z => d3 z (h' + 9) K2 q2⟩
