/-! questions: channels, cover -/
theorem sh1_bt {M : zMem} {w i : Nat} {x : Int32} : ∀ n, n ≤ 16 → ∀ p, p < 16 → bt (r_sh1 M w i x n) p = (bt x p || (decide (p < n) && p_sh M w i p))
  | 0, _, p, _ => by
    rw [r_sh1, decide_eq_false (by omega), Bool.false_and, Bool.or_false]
  | n + 1, hn, p, hp => by
    rw [r_sh1, b_or, sh1_bt n (by omega) p hp]
    have e : bt (if p_sh M w i n = true then 1 <<< (nI n &&& 31) else 0) p = (p_sh M w i n && decide (p = n)) := by
      cases p_sh M w i n with
      | false => exact b_0 p
      | true =>
        rw [if_pos rfl, b_shl n (by omega) 1 (by omega), bt_1, Bool.true_and]
        by_cases h : p = n
        · subst h
          simp
        · rw [decide_eq_false h]
          by_cases h2 : n ≤ p
          · rw [decide_eq_false (show ¬ p - n = 0 by omega), Bool.and_false]
          · rw [decide_eq_false h2, Bool.false_and]
    rw [e]
    by_cases h : p = n
    · subst h
      simp
    · by_cases h2 : p < n
      · rw [decide_eq_true h2, decide_eq_true (show p < n + 1 by omega), decide_eq_false h]
        simp
      · rw [decide_eq_false h2, decide_eq_false (show ¬ p < n + 1 by omega), decide_eq_false h]
        simp
theorem sh_bt {M : zMem} {w : Nat} : ∀ n p, p < 16 → (bt (r_sh M w n) p = true ↔ ∃ i, i < n ∧ p_sh M w i p = true)
  | 0, p, _ => by
    rw [r_sh, b_0]
    exact ⟨fun z => absurd z (by decide), fun ⟨i, hi, _⟩ => by omega⟩
  | n + 1, p, hp => by
    rw [r_sh, sh1_bt 16 (Nat.le_refl _) p hp, decide_eq_true hp, Bool.true_and, Bool.or_eq_true, sh_bt n p hp]
    constructor
    · rintro (⟨i, hi, z⟩ | z)
      · exact ⟨i, by omega, z⟩
      · exact ⟨n, by omega, z⟩
    · rintro ⟨i, hi, z⟩
      rcases Nat.lt_or_ge i n with l | l
      · exact .inl ⟨i, l, z⟩
      · obtain rfl : i = n := by omega
        exact .inr z
theorem e_fits {M Mr : zMem} {w T : Nat} (h : S_tags M w Mr T) (p : Int32) : ¬ r_cFits p (r_sh M w 24) = 0 ↔ r_fits Mr p := by
  unfold r_cFits r_fits
  rw [z_pb0, Classical.not_not]
  have one : ∀ a, a < 4 → ∀ b, b < a → (p_cFit p (r_sh M w 24) a b ↔ p_fit Mr p a b) := by
    intro a ha b hb
    have key : r_sh M w 24 >>> (nI (4 * a + b) &&& 31) &&& 1 = 1 ↔ ¬ r_clash Mr a b = 0 := by
      have s1 := sh_bt (M := M) (w := w) 24 (4 * a + b) (by omega)
      have s2 : (∃ i, i < 24 ∧ p_sh M w i (4 * a + b) = true) ↔ ∃ t, t < 24 ∧ p_clash Mr a b t := by
        have s3 : ∀ i, i < 24 → (p_sh M w i (4 * a + b) = true ↔ p_clash Mr a b i) := by
          intro i hi
          obtain ⟨q1, q2⟩ := S_01 (h i hi)
          unfold p_sh p_clash r_reaches
          rw [decide_eq_true_iff, show (4 * a + b) / 4 = a by omega, show (4 * a + b) % 4 = b by omega, rb_has, rb_has, q1]
          rcases q2 with q2 | q2
          · rw [q2]
            exact ⟨fun z => (z.1 rfl).elim, fun z => absurd z.1 (by decide)⟩
          · rw [(T_in (h i hi) q2).2.1, q2]
            exact ⟨fun z => ⟨rfl, z.2⟩, fun z => ⟨by decide, z.2⟩⟩
        exact ⟨fun ⟨i, hi, z⟩ => ⟨i, hi, (s3 i hi).mp z⟩, fun ⟨i, hi, z⟩ => ⟨i, hi, (s3 i hi).mpr z⟩⟩
      unfold r_clash
      rw [z_pb0, Classical.not_not, ← s2, ← s1, z_bit _ (by omega)]
      split
      · rename_i c
        exact ⟨fun _ => c, fun _ => rfl⟩
      · rename_i c
        exact ⟨fun z => absurd z (by decide), fun z => (c z).elim⟩
    unfold p_cFit p_fit
    rw [key, Classical.not_not]
  exact ⟨fun z a ha b hb => (one a ha b hb).mp (z a ha b hb), fun z a ha b hb => (one a ha b hb).mpr (z a ha b hb)⟩
theorem e_few {M Mr : zMem} {w T : Nat} (h : S_tags M w Mr T) : ∀ n, r_cFew (r_sh M w 24) n = r_fewest Mr n
  | 0 => rfl
  | n + 1 => by
    rw [r_cFew, r_fewest, e_few h n]
    by_cases c : r_fits Mr (nI n) ∧ (r_fewest Mr n = -1 ∨ r_mGr (nI n) 4 < r_mGr (r_fewest Mr n) 4)
    · rw [if_pos c, if_pos ⟨c.2, (e_fits h _).mpr c.1⟩]
    · rw [if_neg c, if_neg (fun z => c ⟨(e_fits h _).mp z.2, z.1⟩)]
theorem two_channels {J : zMem} {b : Nat} {k : Int32} (h : SB J b) : z_two J 138 234 [.inl k] b := by
  obtain ⟨T, c, hT, hc, hs⟩ := h.1
  have h4 := hs.2.2.2.1
  by_cases e : r_isIn k 0 (nI 4) = 0
  · refine two_q h (v := .inl (-1)) (fun _ K hK => ?_) (fun _ K hK => s_mChannels (fun z => (z e).elim) (fun _ => hK))
    refine w9_channels (v := -1) (M2 := J) (fun K2 q => s_cChannels (fun j hj z => ((isIn_N (by decide)).mpr ⟨j, hj, z⟩ e).elim) (fun _ => q)) hK
  · obtain ⟨j, hj, rfl⟩ := (isIn_N (by decide)).mp e
    refine two_q h (v := .inl (r_mChannels J (nI j))) (fun _ K hK => ?_) (fun _ K hK => s_mChannels (fun _ => hK) (fun z => (e z).elim))
    refine w9_channels (v := r_cChannels J 0 (nI j)) (M2 := J) (fun K2 q => s_cChannels (fun _ _ _ => q) (fun z => (z.elim (nI_pos (by omega)) (nI_nlt hj (by omega))).elim)) ?_
    unfold r_cChannels
    rw [e_few h4]
    exact hK
def pc4 (s : Nat) : Nat := s % 2 + s / 2 % 2 + s / 4 % 2 + s / 8 % 2
theorem pc4_e : ∀ s, s < 16 → r_bc (nI s) = nI (pc4 s) ∧ r_many (nI s) 24 = nI (pc4 s) ∧ pc4 s ≤ 4 := by decide +kernel
def z_bst (P : Nat → Prop) (lo hi b : Nat) : Prop := b < 16 ∧ P b ∧ ∀ s, lo ≤ s → s < hi → P s → pc4 b < pc4 s ∨ (pc4 b = pc4 s ∧ b ≤ s)
theorem cov_c {M : zMem} {w : Nat} (P : Nat → Prop) (hP : ∀ s, s < 16 → (¬ r_cCovs M w (nI s) = 0 ↔ P s)) (h15 : P 15) : ∀ n, n ≤ 16 → ∃ b, r_cCover M w n = nI b ∧ z_bst P (16 - n) 16 b
  | 0, _ => ⟨15, rfl, ⟨by omega, h15, fun s h1 h2 _ => by omega⟩⟩
  | n + 1, hn => by
    obtain ⟨b, e, b1, b2, b3⟩ := cov_c P hP h15 n (by omega)
    rw [r_cCover, e]
    obtain ⟨p1, -, p2⟩ := pc4_e b b1
    obtain ⟨p3, -, p4⟩ := pc4_e (15 - n) (by omega)
    rw [p1, p3, nI_leI (by omega) (by omega), hP (15 - n) (by omega)]
    by_cases c : pc4 (15 - n) ≤ pc4 b ∧ P (15 - n)
    · rw [if_pos c]
      refine ⟨15 - n, rfl, by omega, c.2, fun s h1 h2 h3 => ?_⟩
      rcases Nat.lt_or_ge s (16 - n) with l | l
      · obtain rfl : s = 15 - n := by omega
        exact .inr ⟨rfl, Nat.le_refl _⟩
      · rcases b3 s l h2 h3 with z | ⟨z1, z2⟩
        · exact .inl (by omega)
        · rcases Nat.lt_or_ge (pc4 (15 - n)) (pc4 s) with y | y
          · exact .inl y
          · exact .inr ⟨by omega, by omega⟩
    · rw [if_neg c]
      refine ⟨b, rfl, b1, b2, fun s h1 h2 h3 => ?_⟩
      rcases Nat.lt_or_ge s (16 - n) with l | l
      · obtain rfl : s = 15 - n := by omega
        exact .inl (Classical.byContradiction (fun z => c ⟨by omega, h3⟩))
      · exact b3 s l h2 h3
theorem cov_m {M : zMem} (P : Nat → Prop) (hP : ∀ s, s < 16 → (r_covs M (nI s) 24 ↔ P s)) : ∀ n, n ≤ 16 → (r_cover M n = -1 ∧ ∀ s, s < n → ¬ P s) ∨ ∃ b, r_cover M n = nI b ∧ b < n ∧ z_bst P 0 n b
  | 0, _ => .inl ⟨rfl, fun s hs => by omega⟩
  | n + 1, hn => by
    obtain ⟨-, p3, p4⟩ := pc4_e n (by omega)
    rw [r_cover, p3, hP n (by omega)]
    rcases cov_m P hP n (by omega) with ⟨e, no⟩ | ⟨b, e, bn, b1, b2, b3⟩
    · by_cases c : P n
      · rw [if_pos ⟨c, .inl e⟩]
        refine .inr ⟨n, rfl, by omega, by omega, c, fun s _ h2 h3 => ?_⟩
        rcases Nat.lt_or_ge s n with l | l
        · exact (no s l h3).elim
        · obtain rfl : s = n := by omega
          exact .inr ⟨rfl, Nat.le_refl _⟩
      · rw [if_neg (fun z => c z.1)]
        refine .inl ⟨e, fun s hs z => ?_⟩
        rcases Nat.lt_or_ge s n with l | l
        · exact no s l z
        · obtain rfl : s = n := by omega
          exact c z
    · obtain ⟨-, p1, p2⟩ := pc4_e b b1
      have ne : ¬ nI b = -1 := fun z => absurd (z ▸ nI_pos (n := b) (by omega)) (by decide)
      rw [e, p1, nI_ltI (by omega) (by omega)]
      by_cases c : P n ∧ pc4 n < pc4 b
      · rw [if_pos ⟨c.1, .inr c.2⟩]
        refine .inr ⟨n, rfl, by omega, by omega, c.1, fun s _ h2 h3 => ?_⟩
        rcases Nat.lt_or_ge s n with l | l
        · rcases b3 s (by omega) l h3 with z | z
          · exact .inl (by omega)
          · exact .inl (by omega)
        · obtain rfl : s = n := by omega
          exact .inr ⟨rfl, Nat.le_refl _⟩
      · rw [if_neg (fun z => c ⟨z.1, z.2.resolve_left ne⟩)]
        refine .inr ⟨b, rfl, by omega, b1, b2, fun s _ h2 h3 => ?_⟩
        rcases Nat.lt_or_ge s n with l | l
        · exact b3 s (by omega) l h3
        · obtain rfl : s = n := by omega
          have : ¬ pc4 s < pc4 b := fun z => c ⟨h3, z⟩
          rcases Nat.lt_or_ge (pc4 b) (pc4 s) with y | y
          · exact .inl y
          · exact .inr ⟨by omega, by omega⟩
theorem and_15 : ∀ x, x < 16 → nI x &&& nI 15 = nI x := by decide
theorem two_cover {J : zMem} {b : Nat} (h : SB J b) : z_two J 139 236 [] b := by
  obtain ⟨T, c, hT, hc, hs⟩ := h.1
  have h4 := hs.2.2.2.1
  have key : ∀ s : Int32, ¬ r_cCovs J 0 s = 0 ↔ r_covs J s 24 := fun s => by
    unfold r_cCovs r_covs
    rw [z_pb0, Classical.not_not]
    have one : ∀ t, t < 24 → (p_cCov J 0 s t ↔ p_cov J s t) := fun t ht => by
      obtain ⟨q1, q2⟩ := S_01 (h4 t ht)
      unfold p_cCov p_cov
      rw [q1]
      rcases q2 with q2 | q2
      · exact ⟨fun _ => .inl q2, fun _ => .inl q2⟩
      · rw [(T_in (h4 t ht) q2).2.1]
    exact ⟨fun z t ht => (one t ht).mp (z t ht), fun z t ht => (one t ht).mpr (z t ht)⟩
  have h15 : r_covs J (nI 15) 24 := fun t ht => by
    unfold p_cov
    obtain ⟨q1, q2⟩ := S_01 (h4 t ht)
    rcases q2 with q2 | q2
    · exact .inl q2
    · obtain ⟨z, hz, e⟩ := (T_in (h4 t ht) q2).2.2.2.2.2.1
      rw [e, and_15 z hz]
      by_cases z0 : nI z = 0
      · exact .inr (.inl z0)
      · exact .inr (.inr z0)
  obtain ⟨b1, e1, x1, x2, x3⟩ := cov_c (M := J) (w := 0) (fun s => r_covs J (nI s) 24) (fun s _ => key (nI s)) h15 16 (Nat.le_refl _)
  have e2 : r_cover J 16 = nI b1 := by
    rcases cov_m (M := J) (fun s => r_covs J (nI s) 24) (fun s _ => Iff.rfl) 16 (Nat.le_refl _) with ⟨_, no⟩ | ⟨b2, e2, y0, y1, y2, y3⟩
    · exact (no b1 x1 x2).elim
    · rw [e2]
      congr 1
      have u1 := x3 b2 (by omega) y1 y2
      have u2 := y3 b1 (by omega) x1 x2
      omega
  refine two_q h (v := .inl (r_cover J 16)) (fun _ K hK => ?_) (fun _ K hK => s_mCover hK)
  refine w9_cover (v := r_cCover J 0 16) (M2 := J) (fun K2 q => s_cCover q) ?_
  rw [e1, ← e2]
  exact hK
