/-! questions: count, never, log, look, fadesIn -/
theorem two_count {J : zMem} {b : Nat} {k : Int32} (h : SB J b) : z_two J 156 268 [.inl k] b := by
  obtain ⟨T, c, hT, hc, hs⟩ := h.1
  by_cases e : r_isIn k 0 (nI 13) = 0
  · have e2 := (cls_in (N := 13) (by decide)).mp e
    refine two_q h (v := .inl (-1)) (fun _ K hK => ?_) (fun _ K hK => ?_)
    · exact s9_count (fun x y => (e2.elim x (fun z => Int32.not_le.mpr y z)).elim) (fun _ => hK)
    · exact s_mCount (fun z => (z e).elim) (fun _ => hK)
  · obtain ⟨j, hj, rfl⟩ := (isIn_N (by decide)).mp e
    have cl : (nI j).toNatClampNeg = j := nI_clamp (by omega)
    refine two_q h (v := .inl (J.1 24 0 0 (5 + j))) (fun _ K hK => ?_) (fun _ K hK => ?_)
    · refine s9_count (fun x y => ?_) (fun z => (z.elim (nI_pos (by omega)) (nI_ge (by omega) (by omega))).elim)
      rw [cl, hs.2.2.1 j (by omega)]
      exact hK
    · refine s_mCount (fun _ => ?_) (fun z => (e z).elim)
      rw [cl]
      exact hK
theorem two_never {J : zMem} {b : Nat} {k : Int32} (h : SB J b) : z_two J 155 267 [.inl k] b := by
  obtain ⟨T, c, hT, hc, hs⟩ := h.1
  obtain ⟨-, -, -, -, -, h6, -, ⟨h19, h20⟩, -⟩ := hs
  have hb : ∀ j, j < 24 → J.1 24 0 0 (550 + j) = -1 ∨ ∃ r, r < 4 ∧ J.1 24 0 0 (550 + j) = nI r ∧ ¬ J.1 24 0 0 (278 + r) = 0 ∧ ¬ r_reaches J r j = 0 := fun j hj => (h6 j hj).imp id (fun ⟨r, a, b, c, d⟩ => ⟨r, a, b, by rw [c]; decide, d⟩)
  by_cases e : r_isIn k 0 (nI 2) = 0
  · have e2 := (cls_in (N := 2) (by decide)).mp e
    refine two_q h (v := .inl (-1)) (fun _ K hK => ?_) (fun _ K hK => ?_)
    · refine s9_never (fun x y => (e2.elim x (fun z => ?_)).elim) (fun _ => hK)
      obtain ⟨j, hj, rfl⟩ := nI_of x
      exact Int32.not_le.mpr (nI_lt (by rw [nI_leI hj (by decide)] at y; omega) (by decide)) z
    · refine s_mNever hb h19 h20 (fun z => ?_) (fun _ => hK)
      rcases z with rfl | rfl | rfl
      · exact absurd e (by decide)
      · exact absurd e (by decide)
      · exact absurd e (by decide)
  · obtain ⟨j, hj, rfl⟩ := (isIn_N (by decide)).mp e
    have hj3 : j = 0 ∨ j = 1 ∨ j = 2 := by omega
    refine two_q h (v := .inl 0) (fun _ K hK => ?_) (fun _ K hK => ?_)
    · exact s9_never (fun _ _ => hK) (fun z => (z.elim (nI_pos (by omega)) (nI_nlt (by omega) (by omega))).elim)
    · refine s_mNever hb h19 h20 (fun _ => hK) (fun z => (z ?_).elim)
      rcases hj3 with rfl | rfl | rfl
      · exact .inl rfl
      · exact .inr (.inl rfl)
      · exact .inr (.inr rfl)
theorem two_log {J : zMem} {b : Nat} {i k : Int32} (h : SB J b) (hb : b < 2147000000) : z_two J 154 265 [.inl i, .inl k] b := by
  obtain ⟨T, c, hT, hc, hs⟩ := h.1
  have hj := hs.2.1
  obtain ⟨e1, e2, e3⟩ := e_log (i := i) (k := k) hj (by omega)
  by_cases e : ∃ a x, c_mLog c i k a x
  · obtain ⟨a, x, hax⟩ := e
    refine two_q h (v := .inl (J.1 24 0 0 (22 + 4 * (min c 60 - 1 - a) + x))) (fun _ K hK => ?_) (fun _ K hK => ?_)
    · refine w9_log (v := r_jTells J 0 i k) (M2 := J) (fun K2 q => s_jTells e3 q) ?_
      rw [e1 a x hax]
      exact hK
    · refine s_mLog hj.2.1 (by omega) (fun a2 x2 h2 => ?_) (fun z => (z ⟨a, x, hax⟩).elim)
      have : a2 = a := (nI_eq (by have := h2.1; omega) (by have := hax.1; omega)).mp (h2.2.2.1.symm.trans hax.2.2.1)
      have : x2 = x := (nI_eq (by have := h2.2.1; omega) (by have := hax.2.1; omega)).mp (h2.2.2.2.symm.trans hax.2.2.2)
      subst a2 x2
      exact hK
  · refine two_q h (v := .inl (-1)) (fun _ K hK => ?_) (fun _ K hK => ?_)
    · refine w9_log (v := r_jTells J 0 i k) (M2 := J) (fun K2 q => s_jTells e3 q) ?_
      rw [e2 e]
      exact hK
    · exact s_mLog hj.2.1 (by omega) (fun a x z => (e ⟨a, x, z⟩).elim) (fun _ => hK)
/-- counts and sets that are made step by step -/
theorem ct_of {p : Nat → Bool} {F g : Nat → Int32} (h0 : F 0 = 0) (hs : ∀ n, F (n + 1) = F n + g n) : ∀ N, (∀ n, n < N → g n = if p n = true then 1 else 0) → F N = z_ct p N
  | 0, _ => h0
  | N + 1, hg => by
    rw [hs, z_ct, ct_of h0 hs N (fun n hn => hg n (by omega)), hg N (by omega)]
    cases p N <;> rfl
theorem mk_of {p : Nat → Bool} {F g : Nat → Int32} (h0 : F 0 = 0) (hs : ∀ n, F (n + 1) = F n ||| g n) : ∀ N, (∀ n, n < N → g n = if p n = true then 1 <<< (nI n &&& 31) else 0) → F N = z_mk p N
  | 0, _ => h0
  | N + 1, hg => by
    rw [hs, z_mk, mk_of h0 hs N (fun n hn => hg n (by omega)), hg N (by omega)]
    cases p N <;> rfl
theorem ct_C {p q : Nat → Bool} : ∀ {n : Nat}, (∀ i, i < n → p i = q i) → z_ct p n = z_ct q n
  | 0, _ => rfl
  | n + 1, h => by rw [z_ct, z_ct, ct_C (fun i hi => h i (by omega)), h n (by omega)]
theorem shl_0 : ∀ n, n < 32 → (0 : Int32) <<< (nI n &&& 31) = 0 := by decide
theorem e_thatR {M : zMem} {w f k : Nat} {Mr : zMem} (hf : ∀ r, r < 4 → M.1 4 w r k = Mr.1 24 0 0 (f + r) ∧ (Mr.1 24 0 0 (f + r) = 0 ∨ Mr.1 24 0 0 (f + r) = 1)) : r_mThat Mr f 4 = z_mk (fun i => decide (¬ M.1 4 w i k = 0)) 4 := by
  refine mk_of rfl (fun n => rfl) 4 (fun n hn => ?_)
  obtain ⟨e1, e2⟩ := hf n hn
  rw [e1]
  rcases e2 with e2 | e2
  · rw [e2, shl_0 n (by omega)]
    rfl
  · rw [e2]
    rfl
theorem e_there {M Mr : zMem} {w T : Nat} (h : S_tags M w Mr T) : r_mThere Mr 24 = z_ct (fun i => decide (¬ M.1 7 w i 0 = 0)) 24 := by
  refine ct_of rfl (fun n => rfl) 24 (fun n hn => ?_)
  obtain ⟨e1, e2⟩ := S_01 (h n hn)
  rw [e1]
  rcases e2 with e2 | e2
  · rw [e2]
    rfl
  · rw [e2]
    rfl
/-- a tag that is there, seen from both sides -/
theorem T_in {M Mr : zMem} {w T i : Nat} (h : S_T M w Mr T i) (h1 : Mr.1 24 0 0 (454 + i) = 1) : M.1 7 w i 1 = Mr.1 24 0 0 (478 + i) ∧ M.1 7 w i 2 = Mr.1 24 0 0 (502 + i) ∧ M.1 7 w i 6 = Mr.1 24 0 0 (598 + i) ∧ M.1 7 w i 7 = Mr.1 24 0 0 (622 + i) ∧ M.1 7 w i 9 = Mr.1 24 0 0 (670 + i) ∧ (∃ z, z < 16 ∧ Mr.1 24 0 0 (502 + i) = nI z) ∧ (Mr.1 24 0 0 (670 + i) = -1 ∨ ∃ s, s ≤ T ∧ Mr.1 24 0 0 (670 + i) = nI s) ∧ (r_fl Mr i 1 = 1 → M.1 7 w i 8 = Mr.1 24 0 0 (646 + i) ∧ ∃ s, s ≤ T ∧ Mr.1 24 0 0 (646 + i) = nI s) := by
  obtain ⟨h0, h4, h5, h6⟩ := h
  have g : ∀ k, g_R (Mr.1 24 0 0) i k = Mr.1 24 0 0 (454 + 24 * k + i) := fun _ => rfl
  rcases h6 with ⟨h6, _⟩ | ⟨a1, a2, a3, a4, a5, a6, a7, a8, x, b1, b2, b3, b4⟩
  · rw [g] at h6
    rw [show 454 + 24 * 0 + i = 454 + i by omega, h1] at h6
    exact absurd h6 (by decide)
  · rw [g] at a2 a3 a4 a5 a6 a7 a8
    refine ⟨a2, a3, a4, a5, a6, a7, a8, fun z => ?_⟩
    have b5 := b3 1 (by omega)
    have z2 : f_R (Mr.1 24 0 0) i 1 = 1 := z
    rw [z2] at b5
    have b6 : x / 2 ^ 1 % 2 = 1 := by
      rcases (show x / 2 ^ 1 % 2 = 0 ∨ x / 2 ^ 1 % 2 = 1 by omega) with e | e
      · rw [e] at b5
        exact absurd b5 (by decide)
      · exact e
    exact b4 b6
theorem T_bs {M Mr : zMem} {w T i : Nat} (h : S_T M w Mr T i) : M.1 7 w i 4 = Mr.1 24 0 0 (550 + i) ∧ M.1 7 w i 5 = Mr.1 24 0 0 (574 + i) ∧ (Mr.1 24 0 0 (454 + i) = 0 → Mr.1 24 0 0 (550 + i) = -1) := by
  obtain ⟨h0, h4, h5, h6⟩ := h
  have e4 : g_R (Mr.1 24 0 0) i 4 = Mr.1 24 0 0 (550 + i) := rfl
  have e5 : g_R (Mr.1 24 0 0) i 5 = Mr.1 24 0 0 (574 + i) := rfl
  have e0 : g_R (Mr.1 24 0 0) i 0 = Mr.1 24 0 0 (454 + i) := rfl
  rw [e4] at h4
  rw [e5] at h5
  refine ⟨h4, h5, fun z => ?_⟩
  rcases h6 with ⟨_, h6, _⟩ | h6
  · exact h6
  · have h7 := h6.1
    rw [e0, z] at h7
    exact absurd h7 (by decide)
theorem T_pw {M Mr : zMem} {w T i : Nat} (h : S_T M w Mr T i) (ho : S_ok (Mr.1 24 0 0) i) (h1 : Mr.1 24 0 0 (454 + i) = 1) : (M.1 7 w i 9 = -1 ↔ S_pw (Mr.1 24 0 0) i) ∧ (¬ r_hasPower M w i = 0 ↔ S_pw (Mr.1 24 0 0) i) ∧ r_hasPw Mr i = (if M.1 7 w i 9 = -1 then 1 else 0) := by
  have e9 := (T_in h h1).2.2.2.2.1
  have hd : S_dk (Mr.1 24 0 0) i := by
    rcases ho with z | z
    · rw [h1] at z
      exact absurd z (by decide)
    · exact z.2
  obtain ⟨d1, d2⟩ := hd h1
  rw [← e9] at d1
  refine ⟨d1, ?_, ?_⟩
  · unfold r_hasPower
    rw [← d1]
    split
    · rename_i z
      exact ⟨fun _ => z, fun _ => by decide⟩
    · rename_i z
      exact ⟨fun y => (y rfl).elim, fun y => (z y).elim⟩
  · rw [hasPw_S]
    split
    · rename_i z
      exact z_pbT (d1.mp z)
    · rename_i z
      exact z_pbF (fun y => z (d1.mpr y))
theorem e_tagsThat {M Mr : zMem} {w T : Nat} (h : S_tags M w Mr T) (ho : ∀ i, i < 24 → S_ok (Mr.1 24 0 0) i) {k : Nat} (hk : k = 5 ∨ k = 6 ∨ k = 7) : r_mTags Mr (nI k) 24 = r_tagsThat M w (nI k) := by
  unfold r_tagsThat
  refine ct_of rfl (fun n => rfl) 24 (fun n hn => ?_)
  obtain ⟨e1, e2⟩ := S_01 (h n hn)
  have key : p_mThat Mr (nI k) n ↔ p_that M w (nI k) n = true := by
    unfold p_mThat p_that
    rw [decide_eq_true_iff, e1]
    rcases e2 with e2 | e2
    · rw [e2]
      exact ⟨fun z => absurd z.1 (by decide), fun z => (z.1 rfl).elim⟩
    · have hp := T_pw (h n hn) (ho n hn) e2
      obtain ⟨f1, -⟩ := S_flag (f := 4) (by omega) (h n hn) e2
      have hb := (T_bs (h n hn)).1
      have f2 : r_flag M w n 4 = r_fl Mr n 4 := f1
      rw [e2, f2, hb]
      have hpw : ¬ r_hasPower M w n = 0 ↔ ¬ r_hasPw Mr n = 0 := by
        rw [hp.2.1, hasPw_S, z_pb0, Classical.not_not]
      rw [hpw]
      rcases hk with rfl | rfl | rfl
      · rw [if_pos rfl]
        exact ⟨fun z => ⟨by decide, .inr (.inl ⟨rfl, z.2⟩)⟩, fun z => ⟨rfl, by
          rcases z.2 with y | y | y | y
          · exact absurd y (by decide)
          · exact y.2
          · exact absurd y.1 (by decide)
          · exact absurd y.1 (by decide)⟩⟩
      · rw [if_neg (by decide), if_pos rfl]
        exact ⟨fun z => ⟨by decide, .inr (.inr (.inl ⟨rfl, z.2⟩))⟩, fun z => ⟨rfl, by
          rcases z.2 with y | y | y | y
          · exact absurd y (by decide)
          · exact absurd y.1 (by decide)
          · exact y.2
          · exact absurd y.1 (by decide)⟩⟩
      · rw [if_neg (by decide), if_neg (by decide)]
        exact ⟨fun z => ⟨by decide, .inr (.inr (.inr ⟨rfl, z.2⟩))⟩, fun z => ⟨rfl, by
          rcases z.2 with y | y | y | y
          · exact absurd y (by decide)
          · exact absurd y.1 (by decide)
          · exact absurd y.1 (by decide)
          · exact y.2⟩⟩
  by_cases c : p_mThat Mr (nI k) n
  · rw [z_pbT c, if_pos (key.mp c)]
  · rw [z_pbF c, if_neg (fun z => c (key.mpr z))]
theorem two_look {J : zMem} {b : Nat} {k : Int32} (h : SB J b) : z_two J 157 272 [.inl k] b := by
  obtain ⟨T, c, hT, hc, hs⟩ := h.1
  obtain ⟨h1, h2, h3, h4, h5, h6, h7, h8, h9⟩ := hs
  have ho : ∀ i, i < 24 → S_ok (J.1 24 0 0) i := fun i hi => h5 i hi (fun z => z)
  refine two_q h (v := .inl (r_mLook J k)) (fun _ K hK => ?_) (fun _ K hK => s_mLook hK)
  refine w9_look (v := r_worldTells J 0 k) (M2 := J) (fun K2 q => s_worldTells q) ?_
  have e : r_worldTells J 0 k = r_mLook J k := by
    unfold r_worldTells r_mLook
    by_cases c0 : k = 0
    · rw [if_pos c0]
      refine Eq.trans ?_ (if_pos c0).symm
      exact h1.1 0 (by omega)
    rw [if_neg c0]
    refine Eq.trans ?_ (if_neg c0).symm
    by_cases c0 : k = 1
    · rw [if_pos c0]
      refine Eq.trans ?_ (if_pos c0).symm
      exact h1.1 1 (by omega)
    rw [if_neg c0]
    refine Eq.trans ?_ (if_neg c0).symm
    by_cases c0 : k = 2
    · rw [if_pos c0]
      refine Eq.trans ?_ (if_pos c0).symm
      exact h1.1 2 (by omega)
    rw [if_neg c0]
    refine Eq.trans ?_ (if_neg c0).symm
    by_cases c0 : k = 3
    · rw [if_pos c0]
      refine Eq.trans ?_ (if_pos c0).symm
      exact h1.1 3 (by omega)
    rw [if_neg c0]
    refine Eq.trans ?_ (if_neg c0).symm
    by_cases c0 : k = 4
    · rw [if_pos c0]
      refine Eq.trans ?_ (if_pos c0).symm
      rw [c0, e_there h4]
      refine ct_C (fun i _ => ?_)
      unfold p_that
      simp
    rw [if_neg c0]
    refine Eq.trans ?_ (if_neg c0).symm
    by_cases c0 : k = 5
    · rw [if_pos c0]
      refine Eq.trans ?_ (if_pos c0).symm
      rw [c0]
      exact (e_tagsThat h4 ho (.inl rfl)).symm
    rw [if_neg c0]
    refine Eq.trans ?_ (if_neg c0).symm
    by_cases c0 : k = 6
    · rw [if_pos c0]
      refine Eq.trans ?_ (if_pos c0).symm
      rw [c0]
      exact (e_tagsThat h4 ho (.inr (.inl rfl))).symm
    rw [if_neg c0]
    refine Eq.trans ?_ (if_neg c0).symm
    by_cases c0 : k = 7
    · rw [if_pos c0]
      refine Eq.trans ?_ (if_pos c0).symm
      rw [c0]
      exact (e_tagsThat h4 ho (.inr (.inr rfl))).symm
    rw [if_neg c0]
    refine Eq.trans ?_ (if_neg c0).symm
    by_cases c0 : k = 8
    · rw [if_pos c0]
      refine Eq.trans ?_ (if_pos c0).symm
      exact (e_thatR (f := 262) (k := 0) (fun r hr => ⟨(h9 r hr).1.1 0 (by omega), (h9 r hr).2.1.1⟩)).symm
    rw [if_neg c0]
    refine Eq.trans ?_ (if_neg c0).symm
    by_cases c0 : k = 9
    · rw [if_pos c0]
      refine Eq.trans ?_ (if_pos c0).symm
      exact (e_thatR (f := 278) (k := 1) (fun r hr => ⟨(h9 r hr).1.1 1 (by omega), (h9 r hr).2.1.2.1⟩)).symm
    rw [if_neg c0]
    refine Eq.trans ?_ (if_neg c0).symm
    by_cases c0 : k = 10
    · rw [if_pos c0]
      refine Eq.trans ?_ (if_pos c0).symm
      exact h2.1.trans h2.2.1.symm
    exact (if_neg c0).trans (if_neg c0).symm
  rw [e]
  exact hK
