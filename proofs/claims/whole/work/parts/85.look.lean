/-! what is looked at behind something that was done -/
def S_T (M : zMem) (w : Nat) (Mr : zMem) (T i : Nat) : Prop := S_tag (M.1 7 w i) (g_R (Mr.1 24 0 0) i) (f_R (Mr.1 24 0 0) i) T
/-- places of one tag in the reference's row -/
def p_T (i p : Nat) : Prop := (454 ≤ p ∧ p < 718 ∧ (p - 454) % 24 = i) ∨ (718 + 4 * i ≤ p ∧ p < 722 + 4 * i)
/-- nothing changed but one tag, and one count -/
def t_M (w i : Nat) (M M2 : zMem) : Prop := (∀ a b c d, ¬ (a = 7 ∧ b = w ∧ c = i) → ¬ (a = 20 ∧ b = w ∧ c = 0 ∧ d = 9) → M2.1 a b c d = M.1 a b c d) ∧ M2.2 = M.2
def t_R (i : Nat) (Mr Mr2 : zMem) : Prop := (∀ p, ¬ p_T i p → ¬ p = 14 → Mr2.1 24 0 0 p = Mr.1 24 0 0 p) ∧ ∀ a b c d, ¬ a = 24 → Mr2.1 a b c d = Mr.1 a b c d
theorem t_M0 {w i : Nat} {M : zMem} : t_M w i M M := ⟨fun _ _ _ _ _ _ => rfl, rfl⟩
theorem t_R0 {i : Nat} {M : zMem} : t_R i M M := ⟨fun _ _ _ => rfl, fun _ _ _ _ _ => rfl⟩
theorem t_Mt {w i : Nat} {A B C : zMem} (h : t_M w i A B) (h2 : t_M w i B C) : t_M w i A C := ⟨fun a b c d e f => (h2.1 a b c d e f).trans (h.1 a b c d e f), h2.2.trans h.2⟩
theorem t_Rt {i : Nat} {A B C : zMem} (h : t_R i A B) (h2 : t_R i B C) : t_R i A C := ⟨fun p e f => (h2.1 p e f).trans (h.1 p e f), fun a b c d e => (h2.2 a b c d e).trans (h.2 a b c d e)⟩
theorem t_Mup {w i d : Nat} {x : Int32} {M : zMem} : t_M w i M (z_up M 7 w i d x) := ⟨fun a b c k e _ => by rw [z_up1, if_neg (fun z => e ⟨z.1, z.2.1, z.2.2.1⟩)], rfl⟩
theorem t_Mcnt {w i : Nat} {x : Int32} {M : zMem} : t_M w i M (z_up M 20 w 0 9 x) := ⟨fun a b c k _ f => by rw [z_up1, if_neg (fun z => f z)], rfl⟩
theorem t_Rup {i p : Nat} {x : Int32} {M : zMem} (h : p_T i p) : t_R i M (z_up M 24 0 0 p x) := ⟨fun q e _ => zn_upN (fun z => e (z ▸ h)), fun a b c d e => zn_upO e⟩
theorem t_Rcnt {i : Nat} {x : Int32} {M : zMem} : t_R i M (n_counts M 9 x) := ⟨fun q _ f => zf_counts (by omega), fun a b c d e => zn_upO e⟩
theorem t_Mset {w i f : Nat} {v t : Int32} {M : zMem} (hf : f < 5) : t_M w i M (m_setFlag M w i (nI f) v t) :=
  ⟨fun a b c d e _ => by rw [rd_set hf, if_neg (fun z => e ⟨z.1, z.2.1, z.2.2.1⟩), if_neg (fun z => e ⟨z.2.1, z.2.2.1, z.2.2.2.1⟩)], by
    unfold m_setFlag
    split
    · split <;> rfl
    · rfl⟩
theorem t_Rturn {i f : Nat} {v : Int32} {M : zMem} (hf : f < 5) (hi : i < 24) : t_R i M (n_turns M i f v) :=
  ⟨fun p e _ => by
    unfold p_T at e
    rw [rd_turns hf hi, if_neg (by split <;> omega), if_neg (fun z => by have := z.2; omega)], fun a b c d e => by
    unfold n_turns n_turns1
    split <;> split <;> simp only [zn_upO e]⟩
/-- other tags keep what they have in common -/
theorem t_other {M M2 Mr Mr2 : zMem} {w i j T : Nat} (h : S_T M w Mr T j) (hM : t_M w i M M2) (hR : t_R i Mr Mr2) (hj : j < 24) (hi : i < 24) (ne : ¬ j = i) : S_T M2 w Mr2 T j := by
  refine S_tagC h (fun k _ => hM.1 _ _ _ _ (fun z => ne z.2.2) (by omega)) (fun k hk _ => ?_) (fun f hf => ?_)
  · unfold g_R
    exact hR.1 _ (by unfold p_T; omega) (by omega)
  · unfold f_R
    split
    · exact hR.1 _ (by unfold p_T; omega) (by omega)
    · exact hR.1 _ (by unfold p_T; omega) (by omega)
theorem S_dark {M Mr : zMem} {w i T : Nat} {x : Int32} (hx : x = -1 ∨ ∃ s, s ≤ T ∧ x = nI s) (h : S_T M w Mr T i) (hin : Mr.1 24 0 0 (454 + i) = 1) (hi : i < 24) : S_T (z_up M 7 w i 9 x) w (z_up Mr 24 0 0 (670 + i) x) T i := by
  obtain ⟨h1, h2, h3, h4⟩ := h
  rcases h4 with ⟨h4, _⟩ | ⟨a1, a2, a3, a4, a5, a6, a7, a8, y, b1, b2, b3, b4⟩
  · have h4 : Mr.1 24 0 0 (454 + 24 * 0 + i) = 0 := h4
    rw [show 454 + 24 * 0 + i = 454 + i by omega, hin] at h4
    exact absurd h4 (by decide)
  have c : ∀ k, ¬ k = 9 → (z_up M 7 w i 9 x).1 7 w i k = M.1 7 w i k := fun k hk => zn_upN hk
  have g : ∀ k, k < 10 → ¬ k = 9 → g_R ((z_up Mr 24 0 0 (670 + i) x).1 24 0 0) i k = g_R (Mr.1 24 0 0) i k := fun k _ hk => zn_upN (by omega)
  have f : ∀ k, k < 5 → f_R ((z_up Mr 24 0 0 (670 + i) x).1 24 0 0) i k = f_R (Mr.1 24 0 0) i k := fun k _ => by
    unfold f_R
    split <;> exact zn_upN (by omega)
  have g9 : g_R ((z_up Mr 24 0 0 (670 + i) x).1 24 0 0) i 9 = x := by
    unfold g_R
    rw [show 454 + 24 * 9 + i = 670 + i by omega]
    exact zn_upS
  unfold S_T S_tag S_in
  rw [c 0 (by decide), c 4 (by decide), c 5 (by decide), c 1 (by decide), c 2 (by decide), c 6 (by decide), c 7 (by decide), c 3 (by decide), c 8 (by decide), g9, g 0 (by decide) (by decide), g 4 (by decide) (by decide), g 5 (by decide) (by decide), g 1 (by decide) (by decide), g 2 (by decide) (by decide), g 6 (by decide) (by decide), g 7 (by decide) (by decide), g 8 (by decide) (by decide)]
  exact ⟨h1, h2, h3, .inr ⟨a1, a2, a3, a4, a5, zn_upS, a7, hx, y, b1, b2, fun k hk => (f k hk).trans (b3 k hk), b4⟩⟩
theorem S_cntT {M M2 Mr Mr2 : zMem} {w i : Nat} (h : S_cnt M w (Mr.1 24 0 0)) (hM : t_M w i M M2) (hR : t_R i Mr Mr2) (h9 : M2.1 20 w 0 9 = Mr2.1 24 0 0 14) : S_cnt M2 w (Mr2.1 24 0 0) := fun k hk => by
  by_cases e : k = 9
  · subst e
    exact h9
  · rw [hM.1 _ _ _ _ (by omega) (by omega), hR.1 _ (by unfold p_T; omega) (by omega)]
    exact h k hk
theorem S_fadeT {M Mr : zMem} {w i f T : Nat} (hi : i < 24) (hf : f < 5) (hs : S_T M w Mr T i) (hin : Mr.1 24 0 0 (454 + i) = 1) (h0 : Mr.1 24 0 0 0 = nI T) (ht : M.1 9 w 0 5 = nI T) (hT : T < 2147483648) (hc : S_cnt M w (Mr.1 24 0 0)) :
    ∀ M2, M2 = (if r_flag M w i (nI f) = 1 then m_fade M w i (nI f) else M) → S_T M2 w (n_fades Mr i f) T i ∧ S_cnt M2 w ((n_fades Mr i f).1 24 0 0) ∧ t_M w i M M2 ∧ t_R i Mr (n_fades Mr i f) ∧ r_fl (n_fades Mr i f) i f = 0 := by
  rintro M2 rfl
  have hin0 : g_R (Mr.1 24 0 0) i 0 = 1 := hin
  obtain ⟨e1, e2⟩ := S_flag hf hs hin0
  unfold n_fades
  rcases e2 with e2 | e2
  · rw [if_pos e2, e1, e2, if_neg (by decide)]
    exact ⟨hs, hc, t_M0, t_R0, rfl⟩
  · rw [e1, if_pos e2, if_neg (show ¬ r_fl Mr i f = 0 by rw [e2]; decide)]
    have s1 := S_set (v := 0) hi hf (.inl rfl) h0 hT hs hin0
    have m1 : t_M w i M (m_setFlag M w i (nI f) 0 (nI T)) := t_Mset hf
    have r1 : t_R i Mr (n_turns Mr i f 0) := t_Rturn hf hi
    have s2 : S_cnt (m_setFlag M w i (nI f) 0 (nI T)) w ((n_turns Mr i f 0).1 24 0 0) := S_cntT hc m1 r1 (by
      rw [rd_set hf, if_neg (by omega), if_neg (fun z => by have := z.2.1; omega), rd_turns hf hi, if_neg (by split <;> omega), if_neg (fun z => by have := z.2; omega)]
      exact hc 9 (by omega))
    unfold m_fade
    rw [ht]
    have s3 := S_cntA (k := 9) (x := 1) s2 (by omega)
    refine ⟨?_, s3, t_Mt m1 t_Mcnt, t_Rt r1 t_Rcnt, ?_⟩
    · refine S_tagC s1 (fun k _ => zn_upO (by decide)) (fun k hk _ => ?_) (fun g hg => ?_)
      · exact zf_counts (by omega)
      · unfold f_R
        split <;> exact zf_counts (by omega)
    · unfold r_fl
      by_cases f4 : f = 4
      · rw [if_pos f4, zf_counts (by omega), rd_turns hf hi, if_pos f4, if_pos rfl]
      · rw [if_neg f4, zf_counts (by omega), rd_turns hf hi, if_neg f4, if_pos rfl]
/-- settlePower of a tag against one step of looksAtPower -/
theorem S_look {M Mr : zMem} {w i T : Nat} (hi : i < 24) (hs : S_T M w Mr T i) (hin : Mr.1 24 0 0 (454 + i) = 1) (ho : S_on M w (Mr.1 24 0 0)) (h0 : Mr.1 24 0 0 0 = nI T) (ht : M.1 9 w 0 5 = nI T) (hT : T < 2147483648) (hc : S_cnt M w (Mr.1 24 0 0)) :
    S_T (m_settle M w i) w (f_look i Mr) T i ∧ S_dk ((f_look i Mr).1 24 0 0) i ∧ S_cnt (m_settle M w i) w ((f_look i Mr).1 24 0 0) ∧ t_M w i M (m_settle M w i) ∧ t_R i Mr (f_look i Mr) ∧ (f_look i Mr).1 24 0 0 (454 + i) = 1 := by
  have hin1 : ¬ Mr.1 24 0 0 (454 + i) = 0 := by rw [hin]; decide
  have hs' := hs
  obtain ⟨k1, k2, k3, k4⟩ := hs'
  rcases k4 with ⟨k4, _⟩ | ⟨a1, a2, a3, a4, a5, a6, a7, a8, y, b1, b2, b3, b4⟩
  · exact absurd k4 hin1
  have e9 : M.1 7 w i 9 = Mr.1 24 0 0 (670 + i) := by
    have a6 : M.1 7 w i 9 = Mr.1 24 0 0 (454 + 24 * 9 + i) := a6
    rw [a6, show 454 + 24 * 9 + i = 670 + i by omega]
  have e2 : M.1 7 w i 2 = Mr.1 24 0 0 (502 + i) := by
    have a3 : M.1 7 w i 2 = Mr.1 24 0 0 (454 + 24 * 2 + i) := a3
    rw [a3, show 454 + 24 * 2 + i = 502 + i by omega]
  have hpw := pw_and ho e2
  unfold m_settle f_look
  rw [if_neg hin1, hasPw_S]
  by_cases p : S_pw (Mr.1 24 0 0) i
  · rw [if_neg (fun z => hpw.mp z p), z_pbT p, if_neg (by decide)]
    have r1 : t_R i Mr (z_up Mr 24 0 0 (670 + i) (-1)) := t_Rup (by unfold p_T; omega)
    have hpw2 : S_pw ((z_up Mr 24 0 0 (670 + i) (-1)).1 24 0 0) i := (S_pwC (fun r hr => zn_upN (by omega)) (zn_upN (by omega))).mpr p
    refine ⟨S_dark (.inl rfl) hs hin hi, fun _ => ⟨⟨fun _ => hpw2, fun _ => zn_upS⟩, fun z => absurd hpw2 z⟩, S_cntC hc (fun k _ => zn_upO (by decide)) (fun k hk => zn_upN (by omega)), t_Mup, r1, ?_⟩
    rw [zn_upN (by omega)]
    exact hin
  · rw [if_pos (hpw.mpr p), z_pbF p, if_pos rfl]
    -- dark from now on, or since long
    have mid : ∃ M1 Mr1, M1 = (if M.1 7 w i 9 = -1 then z_up M 7 w i 9 (M.1 9 w 0 5) else M) ∧ Mr1 = (if Mr.1 24 0 0 (670 + i) = -1 then z_up Mr 24 0 0 (670 + i) (Mr.1 24 0 0 0) else Mr) ∧ S_T M1 w Mr1 T i ∧ t_M w i M M1 ∧ t_R i Mr Mr1 ∧ S_cnt M1 w (Mr1.1 24 0 0) ∧ ¬ Mr1.1 24 0 0 (670 + i) = -1 ∧ (∀ p, ¬ p = 670 + i → Mr1.1 24 0 0 p = Mr.1 24 0 0 p) ∧ M1.1 9 w 0 5 = nI T := by
      refine ⟨_, _, rfl, rfl, ?_⟩
      rw [e9]
      by_cases d : Mr.1 24 0 0 (670 + i) = -1
      · rw [if_pos d, if_pos d, ht, h0]
        refine ⟨S_dark (.inr ⟨T, Nat.le_refl _, rfl⟩) hs hin hi, t_Mup, t_Rup (by unfold p_T; omega), S_cntC hc (fun k _ => zn_upO (by decide)) (fun k hk => zn_upN (by omega)), ?_, fun p hp => zn_upN hp, ?_⟩
        · rw [zn_upS]
          exact fun e => absurd (e ▸ nI_pos hT) (by decide)
        · rw [zn_upO (by decide)]
          exact ht
      · rw [if_neg d, if_neg d]
        exact ⟨hs, t_M0, t_R0, hc, d, fun _ _ => rfl, ht⟩
    obtain ⟨M1, Mr1, q1, q2, m1, m2, m3, m4, m5, m6, m7⟩ := mid
    rw [← q2]
    show (S_T (let M1 := (if M.1 7 w i 9 = -1 then z_up M 7 w i 9 (M.1 9 w 0 5) else M); if r_flag M1 w i 0 = 1 then m_fade M1 w i 0 else M1) _ _ _ _) ∧ _
    rw [← q1]
    have hin2 : Mr1.1 24 0 0 (454 + i) = 1 := (m6 _ (by omega)).trans hin
    obtain ⟨f1, f2, f3, f4, f5⟩ := S_fadeT (f := 0) hi (by decide) m1 hin2 ((m6 _ (by omega)).trans h0) m7 hT m4 _ rfl
    have hp0 : ∀ p, p = 454 + i ∨ p = 670 + i ∨ p = 502 + i ∨ (262 ≤ p ∧ p < 266) → (n_fades Mr1 i 0).1 24 0 0 p = Mr1.1 24 0 0 p := by
      intro p hp
      unfold n_fades
      split
      · rfl
      · rw [zf_counts (by omega), rd_turns (by decide) hi, if_neg (by rw [if_neg (by decide)]; omega), if_neg (fun z => absurd z.1.1 (by decide))]
    have npw : ¬ S_pw ((n_fades Mr1 i 0).1 24 0 0) i := fun z => p ((S_pwC (fun r hr => by rw [hp0 _ (by omega), m6 _ (by omega)]) (by rw [hp0 _ (by omega), m6 _ (by omega)])).mp z)
    refine ⟨f1, fun _ => ⟨⟨fun z => ?_, fun z => absurd z npw⟩, fun _ => ?_⟩, f2, t_Mt m2 f3, t_Rt m3 f4, ?_⟩
    · rw [hp0 _ (by omega)] at z
      exact absurd z m5
    · exact f5
    · rw [hp0 _ (by omega)]
      exact hin2
