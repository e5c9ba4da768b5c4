/-! image, on the small machine -/
theorem wc_go {Jf Mr : zMem} {w w2 T c b : Nat} {Z O : Nat → Prop} (h : SimZ Z O Jf w2 Mr T c b) (hw : ¬ w2 = w) : ∀ (h : Nat) (K : zK), K none (m_wCopy Jf w w2) → z_call (h + 80) 119 [.inr (.inr (9, w, 0)), .inr (.inr (9, w2, 0))] Jf K := fun h' K hK => by
  refine s_wCopy (h := h' + 77) hw (fun i hi => ?_) (fun i hi => ?_) (fun i hi => ?_) hK
  · obtain ⟨q0, q1⟩ := S_01 (h.2.2.2.1 i hi)
    rw [q0]
    exact q1
  · obtain ⟨k1, k2, -⟩ := h.2.2.2.2.2.2.2.2 i hi
    rw [show Jf.1 4 w2 i 0 = Mr.1 24 0 0 (262 + i) from k1.1 0 (by omega)]
    exact k2.1
  · obtain ⟨k1, k2, -⟩ := h.2.2.2.2.2.2.2.2 i hi
    rw [show Jf.1 4 w2 i 1 = Mr.1 24 0 0 (278 + i) from k1.1 1 (by omega)]
    exact k2.2.1
/-- the memory in which an image is taken: world 1 is there -/
def is_kp (J Jf : zMem) : Prop := (∀ a b c d, ¬ b = 1 → ¬ (a = 10 ∧ d = 2) → Jf.1 a b c d = J.1 a b c d) ∧ Jf.2 = J.2 ∧ Jf.1 10 0 0 2 = 1
theorem image_1 {J Jf : zMem} {b : Nat} {v : Int32} (h : SB J b) (hv : ¬ v = 0) (hf : is_kp J Jf) :
    (∀ (h : Nat) (K : zK), K none (m_wCopy Jf 1 0) → z_call (h + 80) 119 [.inr (.inr (9, 1, 0)), .inr (.inr (9, 0, 0))] Jf K) ∧ ∃ J3, z_to 269 (z_T11 :: [.inl v]) (m_wCopy Jf 1 0) (some (.inl 1)) J3 ∧ SB J3 (b + 1000) ∧ z_onW 1 Jf (m_wCopy Jf 1 0) ∧ (m_wCopy Jf 1 0).2 = Jf.2 ∧ J3.1 10 0 0 2 = 1 ∧ J3.1 10 0 0 3 = J.1 10 0 0 3 := by
  obtain ⟨T, c, hT, hc, hs⟩ := h.1
  obtain ⟨f1, f2, f3⟩ := hf
  have hsf : SimZ z_F z_F Jf 0 J T c b := Sim_W hs (W_eqA (fun a cc d e => f1 a 0 cc d (by omega) (by omega))) (fun _ => rfl) (Nat.le_refl _)
  obtain ⟨w1, w2, w3⟩ := wc_W (M := Jf) (w := 1) (w2 := 0) (by decide)
  have go := wc_go hsf (w := 1) (by decide)
  have wJ : W_eq J 0 (m_wCopy Jf 1 0) 1 := W_tr (W_eqA (fun a cc d e => f1 a 0 cc d (by omega) (by omega))) w1
  generalize m_wCopy Jf 1 0 = J2 at *
  have all : ∀ a b c d, ¬ b = 1 → ¬ (a = 10 ∧ d = 2) → J2.1 a b c d = J.1 a b c d := fun a b c d e1 e2 => (w2 a b c d e1).trans (f1 a b c d e1 e2)
  have at3 : ∀ a b c d, (z_up (z_cpN J2 0 2 33214) 11 0 0 3 1).1 a b c d = if a = 11 ∧ b = 0 ∧ c = 0 ∧ d = 3 then 1 else if a = 24 ∧ b = 0 ∧ c = 2 ∧ d < 33214 then J2.1 24 0 0 d else J2.1 a b c d := fun a b c d => by
    rw [z_up1, cpR_at]
  have g10 : (z_up (z_cpN J2 0 2 33214) 11 0 0 3 1).1 10 0 0 2 = 1 := by
    rw [at3, if_neg (by omega), if_neg (by omega), w2 _ _ _ _ (by omega)]
    exact f3
  have g103 : (z_up (z_cpN J2 0 2 33214) 11 0 0 3 1).1 10 0 0 3 = J.1 10 0 0 3 := by
    rw [at3, if_neg (by omega), if_neg (by omega)]
    exact all _ _ _ _ (by omega) (by omega)
  have g11 : (z_up (z_cpN J2 0 2 33214) 11 0 0 3 1).1 11 0 0 3 = 1 := by
    rw [at3, if_pos ⟨rfl, rfl, rfl, rfl⟩]
  refine ⟨go, z_up (z_cpN J2 0 2 33214) 11 0 0 3 1, fun h' K hK => s_mImage1 (h := h' + 198) hv hK, ⟨⟨T, c, hT, by omega, Sim_WL hs (W_eqA (fun a cc d e => ?_)) (fun p _ => ?_) (by omega)⟩, ⟨fun k hk => ?_, fun k hk => ?_⟩, ?_⟩, w2, w3, g10, g103⟩
  · rw [at3, if_neg (by omega), if_neg (by omega)]
    exact all _ _ _ _ (by omega) (by omega)
  · rw [at3, if_neg (by omega), if_neg (by omega)]
    exact all _ _ _ _ (by omega) (by omega)
  · show J2.2 45 k = _
    rw [w3, f2]
    exact h.2.1.1 k hk
  · show J2.2 46 k = _
    rw [w3, f2]
    exact h.2.1.2 k hk
  · unfold S_kept
    rw [g10, g11, g103]
    refine ⟨rfl, .inr ⟨rfl, T, c, hT, by omega, Sim_WL hs (W_tr wJ (W_eqA (fun a cc d e => ?_))) (fun p hp => ?_) (by omega)⟩, h.2.2.2.2⟩
    · rw [at3, if_neg (by omega), if_neg (by omega)]
    · rw [rk_at, at3, if_neg (by omega), if_pos ⟨rfl, rfl, rfl, hp⟩]
      exact all _ _ _ _ (by omega) (by omega)
theorem wc_off {M : zMem} {w w2 a cc d : Nat} (hw : ¬ w2 = w) (h : a = 10 ∨ a = 11 ∨ a = 24 ∨ a = 40) : (m_wCopy M w w2).1 a w cc d = M.1 a w cc d := by
  have e1 : (m_wc1 M w w2).1 a w cc d = M.1 a w cc d := by
    unfold m_wc1
    rw [zn_upO (by omega), zn_upO (by omega), zn_upO (by omega), zn_upO (by omega)]
  have e2 : ∀ n, (z_it (f_wc1 w w2) n (m_wc1 M w w2)).1 a w cc d = M.1 a w cc d := fun n => by
    induction n with
    | zero => exact e1
    | succ n ih =>
      rw [z_itS, f_wc1, tagC_at hw, if_neg (by omega)]
      exact ih
  have e2' := e2 24
  have e3 : ∀ (X : zMem) n, X.1 a w cc d = M.1 a w cc d → (z_it (f_wc2 w w2) n X).1 a w cc d = M.1 a w cc d := fun X n hX => by
    induction n with
    | zero => exact hX
    | succ n ih =>
      rw [z_itS, f_wc2, rdC_at hw, if_neg (show ¬ W_rd n a cc d by unfold W_rd; omega)]
      exact ih
  unfold m_wCopy m_wc2 m_jCopy
  generalize z_it (f_wc1 w w2) 24 (m_wc1 M w w2) = X at *
  have e4 := e3 X 4 e2'
  generalize z_it (f_wc2 w w2) 4 X = Y at *
  rw [z_cp1, if_neg (by omega), z_cp1, if_neg (by omega), z_up1, if_neg (by omega)]
  exact e4
theorem image_2 {J : zMem} {b : Nat} (h : SB J b) (hk : J.1 10 0 0 2 = 1) :
    (∀ (h : Nat) (K : zK), K none (m_wCopy J 0 1) → z_call (h + 80) 119 [.inr (.inr (9, 0, 0)), .inr (.inr (9, 1, 0))] J K) ∧ ∃ J3, z_to 269 (z_T11 :: [.inl 0]) (m_wCopy J 0 1) (some (.inl 1)) J3 ∧ SB J3 (b + 1000) ∧ z_10 J J3 := by
  obtain ⟨k1, k2, k3⟩ := h.2.2
  have k11 : J.1 11 0 0 3 = 1 := k1.symm.trans hk
  obtain ⟨-, T, c, hT, hc, hs⟩ := k2.resolve_left (fun z => by rw [k11] at z; exact absurd z (by decide))
  obtain ⟨w1, w2, w3⟩ := wc_W (M := J) (w := 0) (w2 := 1) (by decide)
  have go := wc_go hs (w := 0) (by decide)
  have wo : ∀ a c d, a = 10 ∨ a = 11 ∨ a = 24 ∨ a = 40 → (m_wCopy J 0 1).1 a 0 c d = J.1 a 0 c d := fun a c d e => wc_off (by decide) e
  generalize m_wCopy J 0 1 = J2 at *
  have at3 : ∀ a b c d, (z_up (z_cpN J2 2 0 33214) 11 0 0 3 1).1 a b c d = if a = 11 ∧ b = 0 ∧ c = 0 ∧ d = 3 then 1 else if a = 24 ∧ b = 0 ∧ c = 0 ∧ d < 33214 then J2.1 24 0 2 d else J2.1 a b c d := fun a b c d => by
    rw [z_up1, cpR_at]
  have g10 : ∀ d, (z_up (z_cpN J2 2 0 33214) 11 0 0 3 1).1 10 0 0 d = J.1 10 0 0 d := fun d => by
    rw [at3, if_neg (by omega), if_neg (by omega), wo _ _ _ (by omega)]
  have g11 : (z_up (z_cpN J2 2 0 33214) 11 0 0 3 1).1 11 0 0 3 = 1 := by
    rw [at3, if_pos ⟨rfl, rfl, rfl, rfl⟩]
  refine ⟨go, z_up (z_cpN J2 2 0 33214) 11 0 0 3 1, fun h' K hK => s_mImage2 (h := h' + 198) (by rw [wo _ _ _ (by omega), k11]; decide) hK, ⟨⟨T, c, hT, by omega, Sim_WL hs (W_tr w1 (W_eqA (fun a cc d e => ?_))) (fun p hp => ?_) (by omega)⟩, ⟨fun k hk => ?_, fun k hk => ?_⟩, ?_⟩, g10 2, g10 3⟩
  · rw [at3, if_neg (by omega), if_neg (by omega)]
  · rw [at3, if_neg (by omega), if_pos ⟨rfl, rfl, rfl, hp⟩, rk_at]
    exact wo _ _ _ (by omega)
  · show J2.2 45 k = _
    rw [w3]
    exact h.2.1.1 k hk
  · show J2.2 46 k = _
    rw [w3]
    exact h.2.1.2 k hk
  · unfold S_kept
    rw [g10, g11, g10, hk]
    refine ⟨rfl, .inr ⟨rfl, T, c, hT, by omega, Sim_WL hs (W_eqA (fun a cc d e => ?_)) (fun p hp => ?_) (by omega)⟩, k3⟩
    · rw [at3, if_neg (by omega), if_neg (by omega)]
      exact w2 _ _ _ _ (by omega)
    · rw [rk_at, rk_at, at3, if_neg (by omega), if_neg (by omega)]
      exact wo _ _ _ (by omega)
theorem image_3 {J : zMem} {b : Nat} (h : SB J b) (hk : J.1 10 0 0 2 = 0) : z_to 269 (z_T11 :: [.inl 0]) J (some (.inl 0)) J := fun h' K hK => s_mImage0 (h := h' + 198) (h.2.2.1.symm.trans hk) hK
