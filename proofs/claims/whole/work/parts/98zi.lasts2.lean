/-! lasts, on the small machine -/
theorem R_eqL {R R2 : Nat → Int32} {r : Nat} (hr : r < 4) (h : ∀ p, p < 33214 → R2 p = R p) : R_eq R R2 r :=
  ⟨fun p hp => h p (by unfold P_own P_bd at hp; omega), fun t ht e => ⟨by rw [← h (550 + t) (by omega)]; exact e, by unfold x_id; rw [h (478 + t) (by omega)]⟩, .inr ⟨h _ (by omega), fun t ht e => by rw [h (550 + t) (by omega)]; exact e⟩⟩
theorem Sim_WL {Z O : Nat → Prop} {M M2 Mr Mr2 : zMem} {w w2 T c b b2 : Nat} (h : SimZ Z O M w Mr T c b) (hW : W_eq M w M2 w2) (hR : ∀ p, p < 33214 → Mr2.1 24 0 0 p = Mr.1 24 0 0 p) (hb : b ≤ b2) : SimZ Z O M2 w2 Mr2 T c b2 := by
  obtain ⟨h1, h2, h3, h4, h5, h6, h7, h8, h9⟩ := h
  obtain ⟨e1, e2, e3, e4, e5, e6⟩ := hW
  exact ⟨S_wC h1 e1 (fun p hp => hR p (by omega)), S_jourW h2 e2 e3 (fun p hp => hR p (by omega)), S_cntW h3 e4 (fun k _ => hR _ (by omega)), S_tagsW h4 e5 (fun p _ _ hp => hR p (by omega)), fun i hi o => S_okW (h5 i hi o) (hR _ (by omega)) (fun _ _ => hR _ (by omega)) (hR _ (by omega)) (hR _ (by omega)) (hR _ (by omega)), fun i hi => S_busyW (h6 i hi) (hR _ (by omega)) (fun _ _ => hR _ (by omega)) (hR _ (by omega)), S_idsW h7 (fun i _ => ⟨hR _ (by omega), hR _ (by omega)⟩), ⟨(hR 19 (by omega)).trans h8.1, (hR 20 (by omega)).trans h8.2⟩, fun r hr => S_RW hr id (h9 r hr) (e6 r hr) (R_eqL hr hR) hb⟩
theorem W_tr {A B C : zMem} {u v w : Nat} (h : W_eq A u B v) (h2 : W_eq B v C w) : W_eq A u C w := by
  obtain ⟨a1, a2, a3, a4, a5, a6⟩ := h
  obtain ⟨b1, b2, b3, b4, b5, b6⟩ := h2
  refine ⟨fun k hk => (b1 k hk).trans (a1 k hk), b2.trans a2, fun p hp => (b3 p hp).trans (a3 p hp), fun k hk => (b4 k hk).trans (a4 k hk), fun i hi k hk => (b5 i hi k hk).trans (a5 i hi k hk), fun r hr => ?_⟩
  obtain ⟨c1, c2, c3, c4, c5⟩ := a6 r hr
  obtain ⟨d1, d2, d3, d4, d5⟩ := b6 r hr
  exact ⟨fun k hk => (d1 k hk).trans (c1 k hk), fun o k ho hk => (d2 o k ho hk).trans (c2 o k ho hk), fun o ho => (d3 o ho).trans (c3 o ho), fun o j ho hj => (d4 o j ho hj).trans (c4 o j ho hj), fun j hj => (d5 j hj).trans (c5 j hj)⟩
noncomputable def m_pw (w i : Nat) (J : zMem) : zMem := z_it (fun _ M => m_passE M w) i J
theorem ticks_w {J Mr : zMem} {w T c b : Nat} (h : SimZ z_F z_F J w Mr T c b) (hc : c < 2147470000) (hT : T < 20000) (tb : ∀ j, j < 221 → J.2 46 j = tC j) : ∀ m, m ≤ 500 → ∃ (B : Nat → zMem) (c' : Nat), B 0 = Mr ∧ c' ≤ c + 8 * m ∧ (∀ i, i < m → (∀ (h : Nat) (K : zK), K none (m_pw w (i + 1) J) → z_call (h + 80) 105 [.inr (.inr (9, w, 0))] (m_pw w i J) K) ∧ (∀ (h : Nat) (K : zK), K none (B (i + 1)) → z_call (h + 80) 220 [.inr (.inr (11, 0, 0))] (B i) K)) ∧ z_fcw w J (m_pw w m J) ∧ z_fr Mr (B m) ∧ SimZ z_F z_F (m_pw w m J) w (B m) (T + m) c' (b + 4 * m) ∧ ∀ i j, i ≤ m → j < 4 → (m_pw w i J).1 4 w j 1 = (B i).1 24 0 0 (278 + j) ∧ ((B i).1 24 0 0 (278 + j) = 0 ∨ (B i).1 24 0 0 (278 + j) = 1)
  | 0, _ => ⟨fun _ => Mr, c, rfl, by omega, fun i hi => absurd hi (Nat.not_lt_zero i), fw_rf, fr_rf, h, fun i j hi hj => by
      obtain rfl : i = 0 := by omega
      exact ⟨(h.2.2.2.2.2.2.2.2 j hj).1.1 1 (by omega), (h.2.2.2.2.2.2.2.2 j hj).2.1.2.1⟩⟩
  | m + 1, hm => by
    obtain ⟨B, c', b0, bc, bi, bf, br, bs, bt⟩ := ticks_w h hc hT tb m (by omega)
    obtain ⟨N', c2, a1, a2, a3, a4, a5, a6⟩ := pass_two bs (by omega) (by omega) (fun j hj => by rw [bf.2]; exact tb j hj)
    have eS : m_pw w (m + 1) J = m_passE (m_pw w m J) w := by
      unfold m_pw
      rw [z_itS]
    rw [eS]
    refine ⟨fun i => if i = m + 1 then N' else B i, c2, ?_, by omega, fun i hi => ?_, fw_tr bf a4, ?_, ?_, fun i j hi hj => ?_⟩
    · dsimp only
      rw [if_neg (by omega)]
      exact b0
    · dsimp only
      by_cases e : i = m
      · subst e
        rw [if_neg (show ¬ i = i + 1 by omega), if_pos rfl, eS]
        exact ⟨a2, a3⟩
      · rw [if_neg (by omega), if_neg (by omega)]
        exact bi i (by omega)
    · dsimp only
      rw [if_pos rfl]
      exact fr_tr br a5
    · dsimp only
      rw [if_pos rfl]
      exact Sim_b a6 (by omega)
    · dsimp only
      by_cases e : i = m + 1
      · rw [if_pos e, e, eS]
        exact ⟨(a6.2.2.2.2.2.2.2.2 j hj).1.1 1 (by omega), (a6.2.2.2.2.2.2.2.2 j hj).2.1.2.1⟩
      · rw [if_neg e]
        exact bt i j (by omega) hj
/-- the memory in which a thought is thought: world 2 is there -/
def is_th (J Jf : zMem) : Prop := (∀ a b c d, ¬ b = 2 → ¬ (a = 10 ∧ d = 3) → Jf.1 a b c d = J.1 a b c d) ∧ Jf.2 = J.2 ∧ Jf.1 10 0 0 3 = 1
theorem lasts_two {J Jf : zMem} {b j : Nat} (h : SB J b) (hb : b < 2147000000) (hj : j < 4) (ht : J.1 24 0 0 (278 + j) = 1) (hf : is_th J Jf) :
    ∃ N v J3, 1 ≤ N ∧ N ≤ 500 ∧ (∀ i, i < N → ∀ (h : Nat) (K : zK), K none (m_pw 2 (i + 1) (m_wCopy Jf 2 0)) → z_call (h + 80) 105 [.inr (.inr (9, 2, 0))] (m_pw 2 i (m_wCopy Jf 2 0)) K) ∧ (∀ i, 1 ≤ i → i < N → ¬ (m_pw 2 i (m_wCopy Jf 2 0)).1 4 2 j 1 = 0) ∧ (((m_pw 2 N (m_wCopy Jf 2 0)).1 4 2 j 1 = 0 ∧ v = nI N) ∨ (N = 500 ∧ ¬ (m_pw 2 N (m_wCopy Jf 2 0)).1 4 2 j 1 = 0 ∧ v = -1)) ∧
      z_to 240 (z_T11 :: [.inl (nI j)]) (m_pw 2 N (m_wCopy Jf 2 0)) (some (.inl v)) J3 ∧ SB J3 (b + 1000) ∧ z_onW 2 Jf (m_pw 2 N (m_wCopy Jf 2 0)) ∧ (m_pw 2 N (m_wCopy Jf 2 0)).2 = Jf.2 ∧ J3.1 10 0 0 3 = 1 ∧ J3.1 10 0 0 2 = J.1 10 0 0 2 ∧ ∀ i, i ≤ N → (m_pw 2 i (m_wCopy Jf 2 0)).1 10 0 0 3 = 1 := by
  obtain ⟨T, c, hT, hc, hs⟩ := h.1
  obtain ⟨f1, f2, f3⟩ := hf
  obtain ⟨w1, w2, w3⟩ := wc_W (M := Jf) (w := 2) (w2 := 0) (by decide)
  have wJ : W_eq J 0 (m_wCopy Jf 2 0) 2 := W_tr (W_eqA (fun a c d e => f1 a 0 c d (by omega) (by omega))) w1
  have tb : ∀ k, k < 221 → (m_wCopy Jf 2 0).2 46 k = tC k := fun k hk => by
    rw [w3, f2]
    exact h.2.1.2 k hk
  have s1 : SimZ z_F z_F (m_wCopy Jf 2 0) 2 J T c b := Sim_WL hs wJ (fun _ _ => rfl) (Nat.le_refl _)
  generalize m_wCopy Jf 2 0 = J1 at *
  obtain ⟨B1, c1, -, -, i1, fcw1, -, -, t1⟩ := ticks_w s1 (by omega) (by omega) tb 500 (Nat.le_refl _)
  obtain ⟨N, n1, n2, n3, n4⟩ : ∃ N, 1 ≤ N ∧ N ≤ 500 ∧ (∀ i, 1 ≤ i → i < N → ¬ (m_pw 2 i J1).1 4 2 j 1 = 0) ∧ ((m_pw 2 N J1).1 4 2 j 1 = 0 ∨ (N = 500 ∧ ¬ (m_pw 2 N J1).1 4 2 j 1 = 0)) := by
    by_cases ex : ∃ n, 1 ≤ n ∧ n ≤ 500 ∧ (m_pw 2 n J1).1 4 2 j 1 = 0
    · obtain ⟨n, a1, a2⟩ := pk_least _ ex
      exact ⟨n, a1.1, a1.2.1, fun i i1 i2 z => a2 i i2 ⟨i1, by omega, z⟩, .inl a1.2.2⟩
    · exact ⟨500, by omega, by omega, fun i i1 i2 z => ex ⟨i, i1, by omega, z⟩, .inr ⟨rfl, fun z => ex ⟨500, by omega, by omega, z⟩⟩⟩
  obtain ⟨-, -, -, -, -, fcwN, -⟩ := ticks_w s1 (by omega) (by omega) tb N n2
  have on2 : z_onW 2 J1 (m_pw 2 N J1) := fun a b c d e => fcwN.1 a b c d (.inr (.inr (.inr (.inr e))))
  have l2 : (m_pw 2 N J1).2 = Jf.2 := fcwN.2.trans w3
  have i1N : ∀ i, i < N → ∀ (h : Nat) (K : zK), K none (m_pw 2 (i + 1) J1) → z_call (h + 80) 105 [.inr (.inr (9, 2, 0))] (m_pw 2 i J1) K := fun i hi => (i1 i (by omega)).1
  have p3 : ∀ i, i ≤ N → (m_pw 2 i J1).1 10 0 0 3 = 1 := fun i hi => by
    obtain ⟨-, -, -, -, -, fi, -⟩ := ticks_w s1 (by omega) (by omega) tb i (by omega)
    exact (fi.1 10 0 0 3 (.inr (.inr (.inr (.inr (by omega)))))).trans ((w2 10 0 0 3 (by omega)).trans f3)
  generalize eJ2 : m_pw 2 N J1 = J2 at *
  have all : ∀ a b c d, ¬ b = 2 → ¬ (a = 10 ∧ d = 3) → J2.1 a b c d = J.1 a b c d := fun a b c d e1 e2 => (on2 a b c d e1).trans ((w2 a b c d e1).trans (f1 a b c d e1 e2))
  have cp : ∀ a b c d, ¬ (a = 24 ∧ b = 0 ∧ c = 1) → (z_cpN J2 0 1 33214).1 a b c d = J2.1 a b c d := fun a b c d e => by
    rw [cpR_at, if_neg (by omega)]
  have s2 : SimZ z_F z_F J1 2 (z_cpN J2 0 1 33214) T c b := Sim_WL s1 (W_eqA (fun _ _ _ _ => rfl)) (fun p hp => (cp _ _ _ _ (by omega)).trans (all _ _ _ _ (by omega) (by omega))) (Nat.le_refl _)
  obtain ⟨B, c2, b0, -, i2, -, br, -, t2⟩ := ticks_w s2 (by omega) (by omega) tb N n2
  have B0j : (B 0).1 24 0 0 (278 + j) = 1 := by
    rw [b0, cp _ _ _ _ (by omega), all _ _ _ _ (by omega) (by omega)]
    exact ht
  have c0 : ¬ J2.1 24 0 0 (278 + j) = 0 := by
    rw [all _ _ _ _ (by omega) (by omega), ht]
    decide
  obtain ⟨tN1, tN2⟩ := t2 N j (Nat.le_refl _) hj
  rw [eJ2] at tN1
  have step : ∀ a b c d, ¬ (a = 24 ∧ c = 0) → ¬ (a = 24 ∧ b = 0 ∧ c = 1) → ¬ (a = 11 ∧ ¬ d = 3) → ¬ a = 40 → (z_cpN (B N) 1 0 33214).1 a b c d = J2.1 a b c d := fun a b c d e1 e0 e2 e3 => by
    rw [cpR_at, if_neg (by omega), br.1 _ _ _ _ e1 e2 e3, cp _ _ _ _ e0]
  have row : ∀ p, p < 33214 → (z_cpN (B N) 1 0 33214).1 24 0 0 p = J.1 24 0 0 p := fun p hp => by
    rw [cpR_at, if_pos ⟨rfl, rfl, rfl, hp⟩, br.1 _ _ _ _ (by omega) (by omega) (by omega), cpR_at, if_pos ⟨rfl, rfl, rfl, hp⟩]
    exact all _ _ _ _ (by omega) (by omega)
  have lng : ∀ a, ¬ a = 47 → ∀ k, (z_cpN (B N) 1 0 33214).2 a k = J.2 a k := fun a ha k => by
    show (B N).2 a k = _
    rw [br.2 _ _ ha]
    show J2.2 a k = _
    rw [l2, f2]
  subst eJ2
  refine ⟨N, if (B N).1 24 0 0 (278 + j) = 0 then nI N else -1, z_cpN (B N) 1 0 33214, n1, n2, i1N, n3, ?_, fun h' K hK => ?_, ⟨⟨T, c, hT, by omega, Sim_WL hs (W_eqA (fun a cc d e => ?_)) row (by omega)⟩, ⟨fun k hk => ?_, fun k hk => ?_⟩, ?_⟩, fun a b c d e => (on2 a b c d e).trans (w2 a b c d e), l2, ?_, (step _ _ _ _ (by omega) (by omega) (by omega) (by omega)).trans (all _ _ _ _ (by omega) (by omega)), p3⟩
  · rw [← tN1]
    rcases n4 with z | ⟨z1, z2⟩
    · rw [if_pos z]
      exact .inl ⟨z, rfl⟩
    · rw [if_neg z2]
      exact .inr ⟨z1, z2, rfl⟩
  · refine s_mLasts (h := h' + 197) (N := N) (B := B) hj c0 b0 n2 (fun i hi => ⟨?_, fun K2 q2 => (i2 i hi).2 (h' + 119) K2 q2⟩) ?_ hK
    · rcases Nat.eq_zero_or_pos i with z | z
      · rw [z]
        exact B0j
      · obtain ⟨u1, u2⟩ := t2 i j (by omega) hj
        exact u2.resolve_left (fun y => n3 i z hi (u1.trans y))
    · rcases n4 with z | ⟨z1, z2⟩
      · right
        rw [← tN1, z]
        decide
      · exact .inl z1
  · rw [step _ _ _ _ (by omega) (by omega) (by omega) (by omega)]
    exact all _ _ _ _ (by omega) (by omega)
  · rw [lng _ (by decide)]
    exact h.2.1.1 k hk
  · rw [lng _ (by decide)]
    exact h.2.1.2 k hk
  · obtain ⟨k1, k2, k3⟩ := h.2.2
    have g10 : (z_cpN (B N) 1 0 33214).1 10 0 0 2 = J.1 10 0 0 2 := (step _ _ _ _ (by omega) (by omega) (by omega) (by omega)).trans (all _ _ _ _ (by omega) (by omega))
    have g11 : (z_cpN (B N) 1 0 33214).1 11 0 0 3 = J.1 11 0 0 3 := (step _ _ _ _ (by omega) (by omega) (by omega) (by omega)).trans (all _ _ _ _ (by omega) (by omega))
    have g3 : (z_cpN (B N) 1 0 33214).1 10 0 0 3 = 1 := (step _ _ _ _ (by omega) (by omega) (by omega) (by omega)).trans ((on2 _ _ _ _ (by omega)).trans ((w2 _ _ _ _ (by omega)).trans f3))
    unfold S_kept
    rw [g10, g11]
    refine ⟨k1, k2.imp id (fun ⟨a, T', c', hT', hc', hs'⟩ => ⟨a, T', c', hT', by omega, Sim_WL hs' (W_eqA (fun a cc d e => ?_)) (fun p _ => ?_) (by omega)⟩), .inr g3⟩
    · rw [step _ _ _ _ (by omega) (by omega) (by omega) (by omega)]
      exact all _ _ _ _ (by omega) (by omega)
    · rw [rk_at, rk_at, step _ _ _ _ (by omega) (by omega) (by omega) (by omega)]
      exact all _ _ _ _ (by omega) (by omega)
  · exact (step _ _ _ _ (by omega) (by omega) (by omega) (by omega)).trans ((on2 _ _ _ _ (by omega)).trans ((w2 _ _ _ _ (by omega)).trans f3))
