/-! questions: least, apart, both -/
theorem e_sel {M Mr : zMem} {w T i : Nat} (h : S_tags M w Mr T) (hi : i < 24) : p_cSel M w i ↔ p_sel Mr i := by
  unfold p_cSel p_sel
  obtain ⟨q1, q2⟩ := S_01 (h i hi)
  rw [q1]
  rcases q2 with q2 | q2
  · rw [q2]
    exact ⟨fun z => (z.1 rfl).elim, fun z => absurd z.1 (by decide)⟩
  · rw [(S_flag (f := 4) (by omega) (h i hi) q2).1, q2]
    exact ⟨fun z => ⟨rfl, z.2⟩, fun z => ⟨by decide, z.2⟩⟩
theorem e_just {M Mr : zMem} {w T f a b : Nat} (h : S_tags M w Mr T) (hf : f < 24) (h1 : Mr.1 24 0 0 (454 + f) = 1) (ha : a ≤ 31) (hab : a + b ≤ 32) : ¬ r_just M w (nI a) (nI b) (r_span M w f (nI a) (nI b)) = 0 ↔ ¬ r_part Mr (nI a) (nI b) f = 0 := by
  unfold r_just r_part
  rw [z_pb0, z_pb0, Classical.not_not, Classical.not_not]
  have one : ∀ t, t < 24 → (p_just M w (nI a) (nI b) (r_span M w f (nI a) (nI b)) t ↔ p_part Mr (nI a) (nI b) f t) := fun t ht => by
    unfold p_just p_part
    obtain ⟨q1, q2⟩ := S_01 (h t ht)
    rw [q1]
    rcases q2 with q2 | q2
    · rw [q2]
      exact ⟨fun _ z => absurd z (by decide), fun _ z => (z rfl).elim⟩
    · rw [q2, e_spT h ht q2 ha hab, e_spT h hf h1 ha hab, (S_flag (f := 4) (by omega) (h t ht) q2).1]
      exact ⟨fun z _ => z (by decide), fun z _ => z rfl⟩
  exact ⟨fun z t ht => (one t ht).mp (z t ht), fun z t ht => (one t ht).mpr (z t ht)⟩
theorem two_least {J : zMem} {b : Nat} {k : Int32} (h : SB J b) : z_two J 147 257 [.inl k] b := by
  obtain ⟨T, c, hT, hc, hs⟩ := h.1
  obtain ⟨h1, h2, h3, h4, h5, h6, h7, h8, h9⟩ := hs
  by_cases c0 : r_isIn k 0 (nI 2) = 0 ∨ ∀ t, t < 24 → ¬ p_sel J t
  · refine two_q h (v := .inl (-1)) (fun _ K hK => ?_) (fun _ K hK => s_mLeast0 c0 hK)
    refine w9_least (v := -1) (M2 := J) (fun K2 q => s_leastTold0 ?_ q) hK
    rcases c0 with c0 | c0
    · rcases i_cases k with z | ⟨j, hj, rfl⟩
      · exact .inr (.inl z)
      · refine .inr (.inr (nI_lt ?_ hj))
        refine Classical.byContradiction (fun z => (isIn_N (N := 2) (by decide)).mpr ⟨j, by omega, rfl⟩ c0)
    · exact .inl (fun t ht z => c0 t ht ((e_sel h4 ht).mp z))
  · have c1 : ¬ r_isIn k 0 (nI 2) = 0 := fun z => c0 (.inl z)
    obtain ⟨x, hx, rfl⟩ := (isIn_N (by decide)).mp c1
    have ex0 : ∃ t, t < 24 ∧ p_sel J t := Classical.byContradiction (fun z => c0 (.inr (fun t ht y => z ⟨t, ht, y⟩)))
    obtain ⟨f, ⟨hf, f1⟩, f2⟩ := pk_least (fun t => t < 24 ∧ p_sel J t) ex0
    have f3 : ∀ i, i < f → ¬ p_sel J i := fun i hi z => f2 i hi ⟨by omega, z⟩
    have g1 : p_cSel J 0 f := (e_sel h4 hf).mpr f1
    have g3 : ∀ i, i < f → ¬ p_cSel J 0 i := fun i hi z => f3 i hi ((e_sel h4 (by omega)).mp z)
    have hDE : ∀ n p, p < 32 → p + n ≤ 32 → (¬ r_just J 0 (nI p) (nI n) (r_span J 0 f (nI p) (nI n)) = 0 ↔ ¬ r_part J (nI p) (nI n) f = 0) := fun n p a b => e_just h4 hf f1.1 (by omega) b
    have part32 : r_part J (nI 32) (nI 0) f = r_part J (nI 0) (nI 0) f := by
      unfold r_part p_part
      simp only [bits_0]
    have h0 : ¬ ¬ r_part J (nI 0) (nI 0) f = 0 → ¬ ¬ r_part J (nI 32) (nI 0) f = 0 := fun z => by
      rw [part32]
      exact z
    by_cases ex : ∃ n p, n ≤ 32 ∧ p < 32 ∧ p + n ≤ 32 ∧ ¬ r_just J 0 (nI p) (nI n) (r_span J 0 f (nI p) (nI n)) = 0
    · obtain ⟨n, p, hl⟩ := lex_ex ex
      have hl2 := lex_of hl hDE h0
      obtain ⟨t0, t1, tm⟩ := told_np n (by have := hl.1; omega) p hl.2.1
      refine two_q h (v := .inl (if nI x = 0 then nI n else if nI x = 1 then nI p else r_mBits J f (nI p) (nI n))) (fun _ K hK => ?_) (fun _ K hK => ?_)
      · refine w9_least (M2 := J) (fun K2 q => s_leastTold (x := nI n <<< (nI 6 &&& 31) ||| nI p) hf g1 g3 (nI_pos (by omega)) (nI_le hx (by omega)) (fun K3 q3 => s_leastSpan hf (fun n2 p2 h2 => ?_) (fun z => ?_)) (fun _ => ?_) (fun z => (tm z).elim)) hK
        · obtain ⟨e1, e2⟩ := lex_one hl2 (lex_of h2 hDE h0)
          subst e1 e2
          exact q3
        · obtain ⟨n3, p3, b1, b2, b3, b4⟩ := ex
          exact (b4 (z n3 p3 b1 b2 b3)).elim
        · rcases (show x = 0 ∨ x = 1 ∨ x = 2 by omega) with rfl | rfl | rfl
          · rw [if_pos (show nI 0 = 0 from rfl)] at q
            rw [if_neg (by decide)]
            exact t0.symm ▸ q
          · rw [if_neg (by decide), if_pos (show nI 1 = 1 from rfl)] at q
            rw [if_neg (by decide)]
            exact t1.symm ▸ q
          · rw [if_neg (by decide), if_neg (by decide)] at q
            rw [if_pos rfl, t0, t1, e_spT h4 hf f1.1 (by have := hl.2.1; omega) hl.2.2.1]
            exact q
      · refine s_mLeast c1 hf f1 f3 (fun n2 p2 h2 => ?_) (fun z => (hl2.2.2.1 (z n p hl.1 hl.2.2.1)).elim)
        obtain ⟨e1, e2⟩ := lex_one hl2 h2
        subst e1 e2
        exact hK
    · refine two_q h (v := .inl (-1)) (fun _ K hK => ?_) (fun _ K hK => ?_)
      · refine w9_least (v := -1) (M2 := J) (fun K2 q => s_leastTold (x := -1) hf g1 g3 (nI_pos (by omega)) (nI_le hx (by omega)) (fun K3 q3 => s_leastSpan hf (fun n p h2 => ?_) (fun _ => q3)) (fun z => (z rfl).elim) (fun _ => q)) hK
        obtain ⟨a1, a2, a3, a4, -⟩ := h2
        exact (ex ⟨n, p, a1, a2, a3, a4⟩).elim
      · refine s_mLeast c1 hf f1 f3 (fun n p h2 => ?_) (fun _ => hK)
        obtain ⟨a1, a2, a3, -⟩ := h2
        exfalso
        rcases Nat.lt_or_ge p 32 with l | l
        · exact ex ⟨n, p, a1, l, a2, (hDE n p l a2).mpr a3⟩
        · obtain rfl : p = 32 := by omega
          obtain rfl : n = 0 := by omega
          rw [part32] at a3
          exact ex ⟨0, 0, by omega, by omega, by omega, (hDE 0 0 (by omega) (by omega)).mpr a3⟩
theorem u_bit (x : Int32) {s : Nat} (hs : s < 32) : z_ush x (nI s) &&& 1 = if bt x s = true then 1 else 0 := by
  refine b_ext (fun j hj => ?_)
  unfold z_ush
  rw [b_and, bt_1, b_ushr s hs]
  by_cases h : j = 0
  · subst h
    rw [decide_eq_true rfl, Bool.and_true, Nat.add_zero]
    split
    · rename_i c
      rw [c]
      rfl
    · rename_i c
      rw [Bool.not_eq_true] at c
      rw [c]
      rfl
  · rw [decide_eq_false h, Bool.and_false]
    split
    · rw [bt_1, decide_eq_false h]
    · rw [b_0]
theorem e_apart {M Mr : zMem} {w T i j k : Nat} (h : S_tags M w Mr T) (hi : i < 24) (hj : j < 24) (h1 : Mr.1 24 0 0 (454 + i) = 1) (h2 : Mr.1 24 0 0 (454 + j) = 1) (hk : k < 32) : p_unlike M w i j k ↔ p_apart (Mr.1 24 0 0 (478 + i) ^^^ Mr.1 24 0 0 (478 + j)) k := by
  have one : ∀ x : Int32, (if nI 1 = 0 then 0 else z_ush x (nI 32 - nI k - nI 1) &&& r_low (nI 1)) = if bt x (31 - k) = true then 1 else 0 := fun x => by
    rw [if_neg (by decide), sub_n (show k ≤ 32 by omega), sub_n (show 1 ≤ 32 - k by omega), show 32 - k - 1 = 31 - k by omega]
    exact u_bit x (by omega)
  have sp : ∀ t, t < 24 → Mr.1 24 0 0 (454 + t) = 1 → r_span M w t (nI k) 1 = if bt (Mr.1 24 0 0 (478 + t)) (31 - k) = true then 1 else 0 := fun t ht e => (e_spT (b := 1) h ht e (by omega) (by omega)).trans (one _)
  unfold p_unlike p_apart
  rw [sp i hi h1, sp j hj h2, sub_n (show k ≤ 31 by omega), u_bit _ (by omega), b_xor]
  cases bt (Mr.1 24 0 0 (478 + i)) (31 - k) <;> cases bt (Mr.1 24 0 0 (478 + j)) (31 - k) <;> decide
theorem two_apart {J : zMem} {b : Nat} {x y : Int32} (h : SB J b) : z_two J 153 264 [.inl x, .inl y] b := by
  obtain ⟨T, c, hT, hc, hs⟩ := h.1
  obtain ⟨h1, h2, h3, h4, h5, h6, h7, h8, h9⟩ := hs
  by_cases ct : c_there J x ∧ c_there J y
  · obtain ⟨cx, cy⟩ := ct
    obtain ⟨i, hi, rfl, cl, it, hin⟩ := there_of h4 cx
    obtain ⟨j, hj, rfl, cl2, it2, hin2⟩ := there_of h4 cy
    by_cases ex : ∃ k, k < 32 ∧ p_apart (J.1 24 0 0 (478 + i) ^^^ J.1 24 0 0 (478 + j)) k
    · obtain ⟨k, ⟨hk, k1⟩, k2⟩ := pk_least (fun k => k < 32 ∧ p_apart (J.1 24 0 0 (478 + i) ^^^ J.1 24 0 0 (478 + j)) k) ex
      refine two_q h (v := .inl (nI k)) (fun _ K hK => ?_) (fun _ K hK => ?_)
      · refine s9_apart (v := nI k) (fun _ _ => ⟨fun K2 q => ?_, hK⟩) (fun z => (z.elim (fun z => z cx) (fun z => z cy)).elim)
        rw [cl, cl2]
        refine s_cApart (fun l hl l1 l2 => ?_) (fun z => (z k hk ((e_apart h4 hi hj hin hin2 hk).mpr k1)).elim)
        have : l = k := by
          rcases Nat.lt_trichotomy l k with g | g | g
          · exact (k2 l g ⟨hl, (e_apart h4 hi hj hin hin2 hl).mp l1⟩).elim
          · exact g
          · exact (l2 k g ((e_apart h4 hi hj hin hin2 hk).mpr k1)).elim
        subst this
        exact q
      · refine s_mApart (fun i2 j2 hi2 hj2 e1 e2 _ _ => ?_) (fun z => (z.elim it it2).elim)
        have e3 : i2 = i := ((nI_eq (by omega) (by omega)).mp e1).symm
        have e4 : j2 = j := ((nI_eq (by omega) (by omega)).mp e2).symm
        subst e3 e4
        refine ⟨fun l hl l1 l2 => ?_, fun z => (z k hk k1).elim⟩
        have : l = k := by
          rcases Nat.lt_trichotomy l k with g | g | g
          · exact (k2 l g ⟨hl, l1⟩).elim
          · exact g
          · exact (l2 k g k1).elim
        subst this
        exact hK
    · refine two_q h (v := .inl (-1)) (fun _ K hK => ?_) (fun _ K hK => ?_)
      · refine s9_apart (v := -1) (fun _ _ => ⟨fun K2 q => ?_, hK⟩) (fun z => (z.elim (fun z => z cx) (fun z => z cy)).elim)
        rw [cl, cl2]
        exact s_cApart (fun l hl l1 _ => (ex ⟨l, hl, (e_apart h4 hi hj hin hin2 hl).mp l1⟩).elim) (fun _ => q)
      · refine s_mApart (fun i2 j2 hi2 hj2 e1 e2 _ _ => ?_) (fun z => (z.elim it it2).elim)
        have e3 : i2 = i := ((nI_eq (by omega) (by omega)).mp e1).symm
        have e4 : j2 = j := ((nI_eq (by omega) (by omega)).mp e2).symm
        subst e3 e4
        exact ⟨fun l hl l1 _ => (ex ⟨l, hl, l1⟩).elim, fun _ => hK⟩
  · have ct2 : ¬ c_there J x ∨ ¬ c_there J y := Classical.not_and_iff_not_or_not.mp ct
    refine two_q h (v := .inl (-1)) (fun _ K hK => ?_) (fun _ K hK => ?_)
    · exact s9_apart (v := -1) (fun z1 z2 => (ct ⟨z1, z2⟩).elim) (fun _ => hK)
    · refine s_mApart (fun i j _ _ _ _ z1 z2 => (ct ⟨(there_iff h4 x).mpr z1, (there_iff h4 y).mpr z2⟩).elim) (fun _ => hK)
theorem rs_bt {M : zMem} {w r : Nat} : ∀ m, (∀ j, j < m → ∃ t, t < 24 ∧ M.1 23 w r j = nI t) → ∀ i, i < 24 → (bt (r_readSet M w r m) i = true ↔ ∃ j, j < m ∧ M.1 23 w r j = nI i)
  | 0, _, i, _ => by
    rw [r_readSet, b_0]
    exact ⟨fun z => absurd z (by decide), fun ⟨j, hj, _⟩ => by omega⟩
  | m + 1, h, i, hi => by
    obtain ⟨t, ht, e⟩ := h m (by omega)
    rw [r_readSet, b_or, Bool.or_eq_true, rs_bt m (fun j hj => h j (by omega)) i hi, e, b_shl t (by omega) 1 (by omega), bt_1, Bool.and_eq_true, decide_eq_true_iff, decide_eq_true_iff]
    constructor
    · rintro (⟨j, hj, z⟩ | ⟨z1, z2⟩)
      · exact ⟨j, by omega, z⟩
      · exact ⟨m, by omega, by rw [e, show t = i by omega]⟩
    · rintro ⟨j, hj, z⟩
      rcases Nat.lt_or_ge j m with l | l
      · exact .inl ⟨j, l, z⟩
      · obtain rfl : j = m := by omega
        have : t = i := (nI_eq (by omega) (by omega)).mp (e.symm.trans z)
        exact .inr (by omega)
theorem rs_hi {M : zMem} {w r : Nat} : ∀ m, (∀ j, j < m → ∃ t, t < 24 ∧ M.1 23 w r j = nI t) → ∀ i, 24 ≤ i → i < 32 → bt (r_readSet M w r m) i = false
  | 0, _, i, _, _ => b_0 i
  | m + 1, h, i, hi, hi2 => by
    obtain ⟨t, ht, e⟩ := h m (by omega)
    rw [r_readSet, b_or, rs_hi m (fun j hj => h j (by omega)) i hi hi2, e, b_shl t (by omega) 1 hi2, bt_1, decide_eq_false (show ¬ i - t = 0 by omega), Bool.and_false]
    rfl
theorem e_rs {M Mr : zMem} {w r m : Nat} (hm : m ≤ 24) (h : ∀ j, j < m → M.1 23 w r j = Mr.1 24 0 0 (358 + 24 * r + j) ∧ ∃ t, t < 24 ∧ Mr.1 24 0 0 (358 + 24 * r + j) = nI t) : r_readSet M w r m = z_mk (fun t => @decide (p_was Mr r t m) (Classical.propDecidable _)) 24 := by
  have h2 : ∀ j, j < m → ∃ t, t < 24 ∧ M.1 23 w r j = nI t := fun j hj => by
    obtain ⟨e, t, ht, e2⟩ := h j hj
    exact ⟨t, ht, e.trans e2⟩
  refine b_ext (fun i hi => ?_)
  rw [bt_mk _ 24 (by decide) i hi]
  rcases Nat.lt_or_ge i 24 with l | l
  · rw [decide_eq_true l, Bool.true_and]
    have key := rs_bt m h2 i l
    have e : (∃ j, j < m ∧ M.1 23 w r j = nI i) ↔ p_was Mr r i m := ⟨fun ⟨j, hj, z⟩ => ⟨j, hj, by rw [← (h j hj).1]; exact z⟩, fun ⟨j, hj, z⟩ => ⟨j, hj, by rw [(h j hj).1]; exact z⟩⟩
    rw [e] at key
    cases hb : bt (r_readSet M w r m) i with
    | true => exact (@decide_eq_true _ (Classical.propDecidable _) (key.mp hb)).symm
    | false => exact (@decide_eq_false _ (Classical.propDecidable _) (fun z => by rw [key.mpr z] at hb; exact absurd hb (by decide))).symm
  · rw [rs_hi m h2 i l hi, decide_eq_false (by omega), Bool.false_and]
theorem two_both {J : zMem} {b : Nat} {x y : Int32} (h : SB J b) : z_two J 151 262 [.inl x, .inl y] b := by
  obtain ⟨T, c, hT, hc, hs⟩ := h.1
  obtain ⟨h1, h2, h3, h4, h5, h6, h7, h8, h9⟩ := hs
  by_cases c0 : (x < 0 ∨ x ≥ 4) ∨ (y < 0 ∨ y ≥ 4) ∨ x = y
  · refine two_q h (v := .inl (-1)) (fun _ K hK => s9_both0 c0 hK) (fun _ K hK => s_mBoth0 ?_ hK)
    rcases c0 with c0 | c0 | c0
    · exact .inl (Classical.byContradiction (fun z => isIn_rd.mp z c0))
    · exact .inr (.inl (Classical.byContradiction (fun z => isIn_rd.mp z c0)))
    · exact .inr (.inr c0)
  · obtain ⟨i, hi, rfl, -, -⟩ := rd_of (fun z => c0 (.inl z))
    obtain ⟨j, hj, rfl, -, -⟩ := rd_of (fun z => c0 (.inr (.inl z)))
    have hij : ¬ i = j := fun z => c0 (.inr (.inr (by rw [z])))
    obtain ⟨ma, a1, a2, a3, -⟩ := (h9 i hi).2.2.2.1
    obtain ⟨mb, b1, b2, b3, -⟩ := (h9 j hj).2.2.2.1
    have sa : J.1 8 0 (2 * i) 1 = nI ma := ((h9 i hi).1.2 1 (by omega)).trans a2
    have sb : J.1 8 0 (2 * j) 1 = nI mb := ((h9 j hj).1.2 1 (by omega)).trans b2
    refine two_q h (v := .inl (r_both J i j ma mb 24)) (fun _ K hK => ?_) (fun _ K hK => s_mBoth hi hj hij a2 a1 b2 b1 hK)
    refine s9_both hi hj hij sa a1 sb b1 ?_
    have e : r_bc (r_readSet J 0 i ma &&& r_readSet J 0 j mb &&& r_tagsThere J 0) = r_both J i j ma mb 24 := by
      rw [e_rs a1 (fun k hk => ⟨(a3 k hk).1, by obtain ⟨t, t1, t2, _⟩ := (a3 k hk).2; exact ⟨t, t1, t2⟩⟩), e_rs b1 (fun k hk => ⟨(b3 k hk).1, by obtain ⟨t, t1, t2, _⟩ := (b3 k hk).2; exact ⟨t, t1, t2⟩⟩), z_mkA]
      unfold r_tagsThere
      rw [z_mkA, z_bcM]
      refine (pb_ct _ rfl (fun n => rfl) (fun n hn => ?_)).symm
      unfold p_both
      obtain ⟨q1, q2⟩ := S_01 (h4 n hn)
      rw [Bool.and_eq_true, Bool.and_eq_true, @decide_eq_true_iff _ (Classical.propDecidable _), @decide_eq_true_iff _ (Classical.propDecidable _), decide_eq_true_iff, q1]
      rcases q2 with q2 | q2
      · rw [q2]
        exact ⟨fun z => absurd z.1 (by decide), fun z => (z.2 rfl).elim⟩
      · rw [q2]
        exact ⟨fun z => ⟨z.2, by decide⟩, fun z => ⟨rfl, z.1⟩⟩
    rw [e]
    exact hK
