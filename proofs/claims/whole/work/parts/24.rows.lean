/-! long compares; the greatest common divisor; Reader's tells; rows of prefixes as wholes; the log -/
theorem z_oi0 : Int32.ofInt 0 = 0 := rfl
theorem z_oi1 : Int32.ofInt 1 = 1 := rfl
theorem z_oi2 : Int32.ofInt 2 = 2 := rfl
theorem z_oi3 : Int32.ofInt 3 = 3 := rfl
theorem z_oi4 : Int32.ofInt 4 = 4 := rfl
theorem z_oi5 : Int32.ofInt 5 = 5 := rfl
theorem z_oi6 : Int32.ofInt 6 = 6 := rfl
theorem z_oi7 : Int32.ofInt 7 = 7 := rfl
theorem z_oi8 : Int32.ofInt 8 = 8 := rfl
theorem z_oi9 : Int32.ofInt 9 = 9 := rfl
theorem z_oi10 : Int32.ofInt 10 = 10 := rfl
theorem z_oi11 : Int32.ofInt 11 = 11 := rfl
theorem z_oi12 : Int32.ofInt 12 = 12 := rfl
theorem z_oi13 : Int32.ofInt 13 = 13 := rfl
theorem z_oi14 : Int32.ofInt 14 = 14 := rfl
theorem z_oi15 : Int32.ofInt 15 = 15 := rfl
theorem z_oi16 : Int32.ofInt 16 = 16 := rfl
theorem z_oi17 : Int32.ofInt 17 = 17 := rfl
theorem z_oi18 : Int32.ofInt 18 = 18 := rfl
theorem z_oi19 : Int32.ofInt 19 = 19 := rfl
theorem z_oi20 : Int32.ofInt 20 = 20 := rfl
theorem z_oi21 : Int32.ofInt 21 = 21 := rfl
theorem z_oi22 : Int32.ofInt 22 = 22 := rfl
theorem z_oi23 : Int32.ofInt 23 = 23 := rfl
theorem z_oi24 : Int32.ofInt 24 = 24 := rfl
theorem z_oi25 : Int32.ofInt 25 = 25 := rfl
theorem z_oi26 : Int32.ofInt 26 = 26 := rfl
theorem z_oi27 : Int32.ofInt 27 = 27 := rfl
theorem z_oi28 : Int32.ofInt 28 = 28 := rfl
theorem z_oi29 : Int32.ofInt 29 = 29 := rfl
theorem z_oi30 : Int32.ofInt 30 = 30 := rfl
theorem z_oi31 : Int32.ofInt 31 = 31 := rfl
theorem z_oi32 : Int32.ofInt 32 = 32 := rfl
theorem z_oi33 : Int32.ofInt 33 = 33 := rfl
theorem z_oi34 : Int32.ofInt 34 = 34 := rfl
theorem z_oi35 : Int32.ofInt 35 = 35 := rfl
theorem z_oi36 : Int32.ofInt 36 = 36 := rfl
theorem z_oi37 : Int32.ofInt 37 = 37 := rfl
theorem z_oi38 : Int32.ofInt 38 = 38 := rfl
theorem z_oi39 : Int32.ofInt 39 = 39 := rfl
theorem z_oi40 : Int32.ofInt 40 = 40 := rfl
theorem z_oi41 : Int32.ofInt 41 = 41 := rfl
theorem z_oi42 : Int32.ofInt 42 = 42 := rfl
theorem z_oi43 : Int32.ofInt 43 = 43 := rfl
theorem z_oi44 : Int32.ofInt 44 = 44 := rfl
theorem z_oi45 : Int32.ofInt 45 = 45 := rfl
theorem z_oi46 : Int32.ofInt 46 = 46 := rfl
theorem z_oi47 : Int32.ofInt 47 = 47 := rfl
theorem z_oi48 : Int32.ofInt 48 = 48 := rfl
theorem z_oi49 : Int32.ofInt 49 = 49 := rfl
theorem z_oi50 : Int32.ofInt 50 = 50 := rfl
theorem z_oi51 : Int32.ofInt 51 = 51 := rfl
theorem z_oi52 : Int32.ofInt 52 = 52 := rfl
theorem z_oi53 : Int32.ofInt 53 = 53 := rfl
theorem z_oi54 : Int32.ofInt 54 = 54 := rfl
theorem z_oi55 : Int32.ofInt 55 = 55 := rfl
theorem z_oi56 : Int32.ofInt 56 = 56 := rfl
theorem z_oi57 : Int32.ofInt 57 = 57 := rfl
theorem z_oi58 : Int32.ofInt 58 = 58 := rfl
theorem z_oi59 : Int32.ofInt 59 = 59 := rfl
theorem z_oi60 : Int32.ofInt 60 = 60 := rfl
theorem z_oi61 : Int32.ofInt 61 = 61 := rfl
theorem z_oi62 : Int32.ofInt 62 = 62 := rfl
theorem z_oi63 : Int32.ofInt 63 = 63 := rfl
theorem z_cmpe (x y : Int64) : (lg_cmp x y = 0) = (x = y) := by
  unfold lg_cmp
  apply propext
  by_cases h : x > y
  · simp only [h, if_true]
    exact ⟨fun q => absurd q (by decide), fun q => by subst q; exact absurd h (Int64.lt_irrefl)⟩
  · by_cases h2 : x = y
    · simp [h2]
    · simp only [h, h2, if_false]
      exact ⟨fun q => absurd q (by decide), fun q => q.elim⟩
theorem z_cmpg (x y : Int64) : (lg_cmp x y > 0) = (y < x) := by
  unfold lg_cmp
  apply propext
  by_cases h : x > y
  · rw [if_pos h]
    exact ⟨fun _ => h, fun _ => by decide⟩
  · rw [if_neg h]
    by_cases h2 : x = y
    · rw [if_pos h2]
      exact ⟨fun q => absurd q (by decide), fun q => absurd q h⟩
    · rw [if_neg h2]
      exact ⟨fun q => absurd q (by decide), fun q => absurd q h⟩
theorem z_cmpl (x y : Int64) : (lg_cmp x y ≤ 0) = ¬ (y < x) := by
  rw [← z_cmpg x y]
  exact propext ⟨fun h q => absurd q (Int32.not_lt.mpr h), fun h => Int32.not_lt.mp h⟩
theorem e_X9_commonDivisor {h : Nat} {a0 : Int64} {a1 : Int64} {M : zMem} {K : zK} (q : z_run (z_nop k_X9_commonDivisor) (z_call h) K 0 [.inr (.inl a0), z_un, .inr (.inl a1), z_un, z_un, z_un, z_un, z_un, z_un, z_un, z_un] [] M) : z_call (h + 1) 161 [.inr (.inl a0), .inr (.inl a1)] M K := ⟨by simp only [List.all_cons, List.all_nil, z_isU]; rfl, q⟩
theorem c_X9_commonDivisor_0 : z_nop k_X9_commonDivisor 0 = o_lload 0 := rfl
theorem c_X9_commonDivisor_1 : z_nop k_X9_commonDivisor 1 = o_lstore 4 := rfl
theorem c_X9_commonDivisor_2 : z_nop k_X9_commonDivisor 2 = o_lload 2 := rfl
theorem c_X9_commonDivisor_3 : z_nop k_X9_commonDivisor 3 = o_lstore 6 := rfl
theorem c_X9_commonDivisor_4 : z_nop k_X9_commonDivisor 4 = o_ic 0 := rfl
theorem c_X9_commonDivisor_5 : z_nop k_X9_commonDivisor 5 = o_istore 8 := rfl
theorem c_X9_commonDivisor_6 : z_nop k_X9_commonDivisor 6 = o_iload 8 := rfl
theorem c_X9_commonDivisor_7 : z_nop k_X9_commonDivisor 7 = o_ic 200 := rfl
theorem c_X9_commonDivisor_8 : z_nop k_X9_commonDivisor 8 = o_icmp (fun x y => x ≥ y) 23 := rfl
theorem c_X9_commonDivisor_9 : z_nop k_X9_commonDivisor 9 = o_lload 6 := rfl
theorem c_X9_commonDivisor_10 : z_nop k_X9_commonDivisor 10 = o_lc 0 := rfl
theorem c_X9_commonDivisor_11 : z_nop k_X9_commonDivisor 11 = o_lcmp := rfl
theorem c_X9_commonDivisor_12 : z_nop k_X9_commonDivisor 12 = o_if (fun x => x = 0) 23 := rfl
theorem c_X9_commonDivisor_13 : z_nop k_X9_commonDivisor 13 = o_lload 4 := rfl
theorem c_X9_commonDivisor_14 : z_nop k_X9_commonDivisor 14 = o_lload 6 := rfl
theorem c_X9_commonDivisor_15 : z_nop k_X9_commonDivisor 15 = o_divl (fun x y => x - x / y * y) := rfl
theorem c_X9_commonDivisor_16 : z_nop k_X9_commonDivisor 16 = o_lstore 9 := rfl
theorem c_X9_commonDivisor_17 : z_nop k_X9_commonDivisor 17 = o_lload 6 := rfl
theorem c_X9_commonDivisor_18 : z_nop k_X9_commonDivisor 18 = o_lstore 4 := rfl
theorem c_X9_commonDivisor_19 : z_nop k_X9_commonDivisor 19 = o_lload 9 := rfl
theorem c_X9_commonDivisor_20 : z_nop k_X9_commonDivisor 20 = o_lstore 6 := rfl
theorem c_X9_commonDivisor_21 : z_nop k_X9_commonDivisor 21 = o_iinc 8 1 := rfl
theorem c_X9_commonDivisor_22 : z_nop k_X9_commonDivisor 22 = o_goto 6 := rfl
theorem c_X9_commonDivisor_23 : z_nop k_X9_commonDivisor 23 = o_lload 4 := rfl
theorem c_X9_commonDivisor_24 : z_nop k_X9_commonDivisor 24 = o_lret := rfl

def r_cd : Nat → Int64 → Int64 → Int64
  | 0, a, _ => a
  | n + 1, a, b => if b = 0 then a else r_cd n b (a - a / b * b)
theorem z_lt200 {n : Nat} (h : n < 200) : (nI n < 200) = True ∧ (nI n ≥ 200) = False ∧ vp_in (nI n) 200 = True ∧ (nI n).toNatClampNeg = n ∧ nI n + 1 = nI (n + 1) := z_lt (N := 200) h (by decide)
theorem z_eq200 : (nI 200 < 200) = False ∧ (nI 200 ≥ 200) = True := z_eqN (N := 200)
set_option maxRecDepth 100000 in
theorem s_cd {h : Nat} {M : zMem} {a b : Int64} {K : zK} (q : K (some (.inr (.inl (r_cd 200 a b)))) M) : z_call (h + 1) 161 [.inr (.inl a), .inr (.inl b)] M K := by
  refine e_X9_commonDivisor  ?_
  refine z_wp_run (cut := [6]) 27 _ _ _ _ ?_
  repeat' (first | (simp only [z_wp, Bool.false_eq_true, ↓reduceIte, z_e10, z_e01, eq_self, Int32.reduceLT, Int32.reduceLE, Int32.reduceGT, Int32.reduceGE, z_in, cond_true, cond_false, Nat.reduceAdd, Nat.reduceBEq, z_nth, z_set, z_clr, z_st1, z_st2, z_isL, z_opt, z_pop, z_cats, z_cat, c_X9_commonDivisor_0, c_X9_commonDivisor_1, c_X9_commonDivisor_2, c_X9_commonDivisor_3, c_X9_commonDivisor_4, c_X9_commonDivisor_5, c_X9_commonDivisor_6, c_X9_commonDivisor_7, c_X9_commonDivisor_8, c_X9_commonDivisor_9, c_X9_commonDivisor_10, c_X9_commonDivisor_11, c_X9_commonDivisor_12, c_X9_commonDivisor_13, c_X9_commonDivisor_14, c_X9_commonDivisor_15, c_X9_commonDivisor_16, c_X9_commonDivisor_17, c_X9_commonDivisor_18, c_X9_commonDivisor_19, c_X9_commonDivisor_20, c_X9_commonDivisor_21, c_X9_commonDivisor_22, c_X9_commonDivisor_23, c_X9_commonDivisor_24, o_divl, o_goto, o_ic, o_icmp, o_if, o_iinc, o_iload, o_istore, o_lc, o_lcmp, o_lload, o_lret, o_lstore, z_cv0, z_cl0, z_cv1, z_cl1, z_cv2, z_cl2, z_cv3, z_cl3, z_cv4, z_cl4, z_cv5, z_cl5, z_cv6, z_cl6, z_cv7, z_cl7, z_cv8, z_cl8, z_cv9, z_cl9, z_cv10, z_cl10, z_cv11, z_cl11, z_cv12, z_cl12, z_cv13, z_cl13, z_len, z_elt, z_isI, z_isJ, Nat.reduceEqDiff, Nat.reduceLeDiff, Nat.reduceLT, Nat.reduceSub, Nat.reduceMul, not_false_eq_true, not_true_eq_false, true_and, and_true, true_or, or_true, false_or, or_false, true_implies, false_implies, implies_true, forall_const, and_self, ne_eq, Classical.not_not, z_up1, z_up2, z_cp1, z_cp2, z_upL1, z_upL2, if_true, if_false, and_false, false_and]) | (with_reducible refine And.intro ?_ ?_) | (with_reducible intro _))
  have key := z_loop (fun n => ∀ (A B : Int64) (v : zV), K (some (.inr (.inl (r_cd (200 - n) A B)))) M → z_run (z_nop k_X9_commonDivisor) (z_call h) K 6 [.inr (.inl a), z_un, .inr (.inl b), z_un, .inr (.inl A), z_un, .inr (.inl B), z_un, .inl (nI n), v, z_un] [] M) 200 ?_ ?_ 0 (by omega)
  · exact key a b z_un q
  · intro A B v q
    obtain ⟨f1, f2⟩ := z_eq200
    refine z_go (cut := [6]) 40 ?_
    simp only [z_wp, Bool.false_eq_true, ↓reduceIte, z_e10, z_e01, eq_self, Int32.reduceLT, Int32.reduceLE, Int32.reduceGT, Int32.reduceGE, z_in, cond_true, cond_false, Nat.reduceAdd, Nat.reduceBEq, z_nth, z_set, z_clr, z_st1, z_st2, z_isL, z_opt, z_pop, z_cats, z_cat, c_X9_commonDivisor_0, c_X9_commonDivisor_1, c_X9_commonDivisor_2, c_X9_commonDivisor_3, c_X9_commonDivisor_4, c_X9_commonDivisor_5, c_X9_commonDivisor_6, c_X9_commonDivisor_7, c_X9_commonDivisor_8, c_X9_commonDivisor_9, c_X9_commonDivisor_10, c_X9_commonDivisor_11, c_X9_commonDivisor_12, c_X9_commonDivisor_13, c_X9_commonDivisor_14, c_X9_commonDivisor_15, c_X9_commonDivisor_16, c_X9_commonDivisor_17, c_X9_commonDivisor_18, c_X9_commonDivisor_19, c_X9_commonDivisor_20, c_X9_commonDivisor_21, c_X9_commonDivisor_22, c_X9_commonDivisor_23, c_X9_commonDivisor_24, o_divl, o_goto, o_ic, o_icmp, o_if, o_iinc, o_iload, o_istore, o_lc, o_lcmp, o_lload, o_lret, o_lstore, z_cv0, z_cl0, z_cv1, z_cl1, z_cv2, z_cl2, z_cv3, z_cl3, z_cv4, z_cl4, z_cv5, z_cl5, z_cv6, z_cl6, z_cv7, z_cl7, z_cv8, z_cl8, z_cv9, z_cl9, z_cv10, z_cl10, z_cv11, z_cl11, z_cv12, z_cl12, z_cv13, z_cl13, z_len, z_elt, z_isI, z_isJ, Nat.reduceEqDiff, Nat.reduceLeDiff, Nat.reduceLT, Nat.reduceSub, Nat.reduceMul, not_false_eq_true, not_true_eq_false, true_and, and_true, true_or, or_true, false_or, or_false, true_implies, false_implies, implies_true, forall_const, and_self, ne_eq, Classical.not_not, z_up1, z_up2, z_cp1, z_cp2, z_upL1, z_upL2, if_true, if_false, and_false, false_and, f1, f2]
    exact q
  · intro n hn ih A B v q
    obtain ⟨f1, f2, f3, f4, f5⟩ := z_lt200 hn
    rw [show 200 - n = (200 - (n + 1)) + 1 by omega] at q
    unfold r_cd at q
    refine z_go (cut := [6]) 40 ?_
    simp only [z_wp, Bool.false_eq_true, ↓reduceIte, z_e10, z_e01, eq_self, Int32.reduceLT, Int32.reduceLE, Int32.reduceGT, Int32.reduceGE, z_in, cond_true, cond_false, Nat.reduceAdd, Nat.reduceBEq, z_nth, z_set, z_clr, z_st1, z_st2, z_isL, z_opt, z_pop, z_cats, z_cat, c_X9_commonDivisor_0, c_X9_commonDivisor_1, c_X9_commonDivisor_2, c_X9_commonDivisor_3, c_X9_commonDivisor_4, c_X9_commonDivisor_5, c_X9_commonDivisor_6, c_X9_commonDivisor_7, c_X9_commonDivisor_8, c_X9_commonDivisor_9, c_X9_commonDivisor_10, c_X9_commonDivisor_11, c_X9_commonDivisor_12, c_X9_commonDivisor_13, c_X9_commonDivisor_14, c_X9_commonDivisor_15, c_X9_commonDivisor_16, c_X9_commonDivisor_17, c_X9_commonDivisor_18, c_X9_commonDivisor_19, c_X9_commonDivisor_20, c_X9_commonDivisor_21, c_X9_commonDivisor_22, c_X9_commonDivisor_23, c_X9_commonDivisor_24, o_divl, o_goto, o_ic, o_icmp, o_if, o_iinc, o_iload, o_istore, o_lc, o_lcmp, o_lload, o_lret, o_lstore, z_cv0, z_cl0, z_cv1, z_cl1, z_cv2, z_cl2, z_cv3, z_cl3, z_cv4, z_cl4, z_cv5, z_cl5, z_cv6, z_cl6, z_cv7, z_cl7, z_cv8, z_cl8, z_cv9, z_cl9, z_cv10, z_cl10, z_cv11, z_cl11, z_cv12, z_cl12, z_cv13, z_cl13, z_len, z_elt, z_isI, z_isJ, Nat.reduceEqDiff, Nat.reduceLeDiff, Nat.reduceLT, Nat.reduceSub, Nat.reduceMul, not_false_eq_true, not_true_eq_false, true_and, and_true, true_or, or_true, false_or, or_false, true_implies, false_implies, implies_true, forall_const, and_self, ne_eq, Classical.not_not, z_up1, z_up2, z_cp1, z_cp2, z_upL1, z_upL2, if_true, if_false, and_false, false_and, f1, f2, f5, z_cmpe]
    refine ⟨fun c => ?_, fun c => ?_⟩
    · rw [if_pos c] at q
      exact q
    · rw [if_neg c] at q
      exact ⟨c, ih _ _ _ q⟩
def r_share (M : zMem) (w r : Nat) (b : Int32) : Int32 :=
  let s := r_tallySum M w (2 * r)
  let g := r_cd 200 (M.1 8 w (2 * r) 1).toInt64 s.toInt64
  if s = 0 ∨ g = 0 then (if b = 0 then 1 else 0) else if b = 0 then (s.toInt64 / g).toInt32 else ((M.1 8 w (2 * r) 1).toInt64 / g).toInt32
set_option maxRecDepth 100000 in
theorem s_share {h w r : Nat} {M : zMem} {b : Int32} {K : zK} (q : K (some (.inl (r_share M w r b))) M) : z_call (h + 2) 36 [.inr (.inr (4, w, r)), .inl b] M K := by
  refine e_X3_share rfl ?_
  refine z_wp_run (cut := [3, 11]) 38 _ _ _ _ ?_
  repeat' (first | (simp only [z_wp, Bool.false_eq_true, ↓reduceIte, z_e10, z_e01, eq_self, Int32.reduceLT, Int32.reduceLE, Int32.reduceGT, Int32.reduceGE, z_in, cond_true, cond_false, Nat.reduceAdd, Nat.reduceBEq, z_nth, z_set, z_clr, z_st1, z_st2, z_isL, z_opt, z_pop, z_cats, z_cat, c_X3_share_0, c_X3_share_1, c_X3_share_2, c_X3_share_3, c_X3_share_4, c_X3_share_5, c_X3_share_6, c_X3_share_7, c_X3_share_8, c_X3_share_9, c_X3_share_10, c_X3_share_11, c_X3_share_12, c_X3_share_13, c_X3_share_14, c_X3_share_15, c_X3_share_16, c_X3_share_17, c_X3_share_18, c_X3_share_19, c_X3_share_20, c_X3_share_21, c_X3_share_22, c_X3_share_23, c_X3_share_24, c_X3_share_25, c_X3_share_26, c_X3_share_27, c_X3_share_28, c_X3_share_29, c_X3_share_30, c_X3_share_31, c_X3_share_32, c_X3_share_33, c_X3_share_34, c_X3_share_35, o_aload, o_call, o_callv, o_divl, o_get, o_getr, o_goto, o_i2l, o_ic, o_if, o_iload, o_iret, o_istore, o_l2i, o_lc, o_lcmp, o_lload, o_lstore, z_cv0, z_cl0, z_cv1, z_cl1, z_cv2, z_cl2, z_cv3, z_cl3, z_cv4, z_cl4, z_cv5, z_cl5, z_cv6, z_cl6, z_cv7, z_cl7, z_cv8, z_cl8, z_cv9, z_cl9, z_cv10, z_cl10, z_cv11, z_cl11, z_cv12, z_cl12, z_cv13, z_cl13, z_len, z_elt, z_isI, z_isJ, Nat.reduceEqDiff, Nat.reduceLeDiff, Nat.reduceLT, Nat.reduceSub, Nat.reduceMul, not_false_eq_true, not_true_eq_false, true_and, and_true, true_or, or_true, false_or, or_false, true_implies, false_implies, implies_true, forall_const, and_self, ne_eq, Classical.not_not, z_up1, z_up2, z_cp1, z_cp2, z_upL1, z_upL2, if_true, if_false, and_false, false_and, z_cmpe]) | (refine s_tallySum ?_) | (refine s_cd ?_) | (with_reducible refine And.intro ?_ ?_) | (with_reducible intro _) | (with_reducible refine z_go (i := 3) (cut := [3, 11]) 38 ?_) | (with_reducible refine z_go (i := 11) (cut := [3, 11]) 38 ?_))
  all_goals (first | (with_reducible exact q) | ((try simp only [ge_iff_le, gt_iff_lt, ← Int32.not_lt, Classical.not_not] at *); (first | (with_reducible rfl) | rfl | (with_reducible exact z_vi_24 (by assumption) (by assumption)) | (with_reducible exact z_vi_4 (by assumption) (by assumption)) | (with_reducible exact z_vi_512 (by assumption) (by assumption)) | (with_reducible exact z_vi_14 (by assumption) (by assumption)) | (with_reducible exact z_vi_8 (by assumption) (by assumption)) | (with_reducible exact z_vinN (by assumption) (by assumption) (by decide)) | (with_reducible exact z_vin1 (by assumption) (by assumption) (by decide)) | ((try simp only [r_share] at q); (try simp only [ge_iff_le, gt_iff_lt, ← Int32.not_lt, Classical.not_not] at q); (try simp only [*, if_true, if_false, ite_self, true_or, or_true, false_or, or_false, true_and, and_true, false_and, and_false, not_true_eq_false, not_false_eq_true, cond_true, cond_false, decide_true, decide_false, Bool.true_and, Bool.and_true, Bool.false_and, Bool.and_false, Bool.true_or, Bool.or_true, Bool.false_or, Bool.or_false, Bool.not_true, Bool.not_false, ne_eq, Nat.reduceEqDiff] at q); with_reducible exact q))) | (simp_all [r_share]; done))
def r_tellsLatest (M : zMem) (w r : Nat) (k : Int32) : Int32 :=
  if k = 12 then M.1 8 w (2 * r) 1 else if k = 13 then M.1 8 w (2 * r) 0 else if k = 14 then M.1 8 w (2 * r) 2 else if k = 15 then M.1 4 w r 10 else if k = 16 then M.1 4 w r 11 else if k = 17 then M.1 4 w r 4
  else if k = 18 then M.1 3 w (3 * r + 2) 1 else if k = 19 then r_share M w r 1 else if k = 20 then r_share M w r 0 else -1
set_option maxRecDepth 100000 in
theorem s_tellsLatest {h w r : Nat} {M : zMem} {k : Int32} {K : zK} (q : K (some (.inl (r_tellsLatest M w r k))) M) : z_call (h + 3) 38 [.inr (.inr (4, w, r)), .inl k] M K := by
  refine e_X3_tellsLatest rfl ?_
  refine z_wp_run (cut := [30, 34]) 39 _ _ _ _ ?_
  repeat' (first | (simp only [z_wp, Bool.false_eq_true, ↓reduceIte, z_e10, z_e01, eq_self, Int32.reduceLT, Int32.reduceLE, Int32.reduceGT, Int32.reduceGE, z_in, cond_true, cond_false, Nat.reduceAdd, Nat.reduceBEq, z_nth, z_set, z_clr, z_st1, z_st2, z_isL, z_opt, z_pop, z_cats, z_cat, c_X3_tellsLatest_0, c_X3_tellsLatest_1, c_X3_tellsLatest_2, c_X3_tellsLatest_3, c_X3_tellsLatest_4, c_X3_tellsLatest_5, c_X3_tellsLatest_6, c_X3_tellsLatest_7, c_X3_tellsLatest_8, c_X3_tellsLatest_9, c_X3_tellsLatest_10, c_X3_tellsLatest_11, c_X3_tellsLatest_12, c_X3_tellsLatest_13, c_X3_tellsLatest_14, c_X3_tellsLatest_15, c_X3_tellsLatest_16, c_X3_tellsLatest_17, c_X3_tellsLatest_18, c_X3_tellsLatest_19, c_X3_tellsLatest_20, c_X3_tellsLatest_21, c_X3_tellsLatest_22, c_X3_tellsLatest_23, c_X3_tellsLatest_24, c_X3_tellsLatest_25, c_X3_tellsLatest_26, c_X3_tellsLatest_27, c_X3_tellsLatest_28, c_X3_tellsLatest_29, c_X3_tellsLatest_30, c_X3_tellsLatest_31, c_X3_tellsLatest_32, c_X3_tellsLatest_33, c_X3_tellsLatest_34, c_X3_tellsLatest_35, c_X3_tellsLatest_36, o_aload, o_callv, o_get, o_getr, o_ic, o_iload, o_iret, o_tsw, z_cv0, z_cl0, z_cv1, z_cl1, z_cv2, z_cl2, z_cv3, z_cl3, z_cv4, z_cl4, z_cv5, z_cl5, z_cv6, z_cl6, z_cv7, z_cl7, z_cv8, z_cl8, z_cv9, z_cl9, z_cv10, z_cl10, z_cv11, z_cl11, z_cv12, z_cl12, z_cv13, z_cl13, z_len, z_elt, z_isI, z_isJ, Nat.reduceEqDiff, Nat.reduceLeDiff, Nat.reduceLT, Nat.reduceSub, Nat.reduceMul, not_false_eq_true, not_true_eq_false, true_and, and_true, true_or, or_true, false_or, or_false, true_implies, false_implies, implies_true, forall_const, and_self, ne_eq, Classical.not_not, z_up1, z_up2, z_cp1, z_cp2, z_upL1, z_upL2, if_true, if_false, and_false, false_and, z_cases, Int.reduceAdd, z_oi0, z_oi1, z_oi2, z_oi3, z_oi4, z_oi5, z_oi6, z_oi7, z_oi8, z_oi9, z_oi10, z_oi11, z_oi12, z_oi13, z_oi14, z_oi15, z_oi16, z_oi17, z_oi18, z_oi19, z_oi20]) | (refine s_share ?_) | (with_reducible refine And.intro ?_ ?_) | (with_reducible intro _) | (with_reducible refine z_go (i := 30) (cut := [30, 34]) 39 ?_) | (with_reducible refine z_go (i := 34) (cut := [30, 34]) 39 ?_))
  all_goals (first | (with_reducible exact q) | ((try simp only [ge_iff_le, gt_iff_lt, ← Int32.not_lt, Classical.not_not] at *); (first | (with_reducible rfl) | rfl | (with_reducible exact z_vi_24 (by assumption) (by assumption)) | (with_reducible exact z_vi_4 (by assumption) (by assumption)) | (with_reducible exact z_vi_512 (by assumption) (by assumption)) | (with_reducible exact z_vi_14 (by assumption) (by assumption)) | (with_reducible exact z_vi_8 (by assumption) (by assumption)) | (with_reducible exact z_vinN (by assumption) (by assumption) (by decide)) | (with_reducible exact z_vin1 (by assumption) (by assumption) (by decide)) | ((try simp only [r_tellsLatest] at q); (try simp only [ge_iff_le, gt_iff_lt, ← Int32.not_lt, Classical.not_not] at q); (try simp only [*, if_true, if_false, ite_self, true_or, or_true, false_or, or_false, true_and, and_true, false_and, and_false, not_true_eq_false, not_false_eq_true, cond_true, cond_false, decide_true, decide_false, Bool.true_and, Bool.and_true, Bool.false_and, Bool.and_false, Bool.true_or, Bool.or_true, Bool.false_or, Bool.or_false, Bool.not_true, Bool.not_false, ne_eq, Nat.reduceEqDiff] at q); with_reducible exact q))) | (simp_all [r_tellsLatest]; done))
def r_rdTells (M : zMem) (w r : Nat) (k : Int32) : Int32 :=
  if k = 0 then (if M.1 4 w r 0 = 0 then 0 else 1) else if k = 1 then (if M.1 4 w r 1 = 0 then 0 else 1) else if k = 2 then M.1 4 w r 2 else if k = 3 then M.1 4 w r 3 else if k = 4 then M.1 4 w r 5 else if k = 5 then M.1 4 w r 6
  else if k = 6 then M.1 4 w r 7 else if k = 7 then M.1 4 w r 8 else if k = 8 then M.1 4 w r 9 else if k = 9 then r_tallySum M w (2 * r + 1) else if k = 10 then r_tellsLatest M w r k else if k = 11 then M.1 3 w (3 * r) 1 else r_tellsLatest M w r k
set_option maxRecDepth 100000 in
theorem s_rdTells {h w r : Nat} {M : zMem} {k : Int32} {K : zK} (q : K (some (.inl (r_rdTells M w r k))) M) : z_call (h + 4) 37 [.inr (.inr (4, w, r)), .inl k] M K := by
  refine e_X3_tells rfl ?_
  refine z_wp_run (cut := [40, 48]) 51 _ _ _ _ ?_
  repeat' (first | (simp only [z_wp, Bool.false_eq_true, ↓reduceIte, z_e10, z_e01, eq_self, Int32.reduceLT, Int32.reduceLE, Int32.reduceGT, Int32.reduceGE, z_in, cond_true, cond_false, Nat.reduceAdd, Nat.reduceBEq, z_nth, z_set, z_clr, z_st1, z_st2, z_isL, z_opt, z_pop, z_cats, z_cat, c_X3_tells_0, c_X3_tells_1, c_X3_tells_2, c_X3_tells_3, c_X3_tells_4, c_X3_tells_5, c_X3_tells_6, c_X3_tells_7, c_X3_tells_8, c_X3_tells_9, c_X3_tells_10, c_X3_tells_11, c_X3_tells_12, c_X3_tells_13, c_X3_tells_14, c_X3_tells_15, c_X3_tells_16, c_X3_tells_17, c_X3_tells_18, c_X3_tells_19, c_X3_tells_20, c_X3_tells_21, c_X3_tells_22, c_X3_tells_23, c_X3_tells_24, c_X3_tells_25, c_X3_tells_26, c_X3_tells_27, c_X3_tells_28, c_X3_tells_29, c_X3_tells_30, c_X3_tells_31, c_X3_tells_32, c_X3_tells_33, c_X3_tells_34, c_X3_tells_35, c_X3_tells_36, c_X3_tells_37, c_X3_tells_38, c_X3_tells_39, c_X3_tells_40, c_X3_tells_41, c_X3_tells_42, c_X3_tells_43, c_X3_tells_44, c_X3_tells_45, c_X3_tells_46, c_X3_tells_47, c_X3_tells_48, o_aload, o_callv, o_get, o_getr, o_goto, o_ic, o_if, o_iload, o_iret, o_tsw, z_cv0, z_cl0, z_cv1, z_cl1, z_cv2, z_cl2, z_cv3, z_cl3, z_cv4, z_cl4, z_cv5, z_cl5, z_cv6, z_cl6, z_cv7, z_cl7, z_cv8, z_cl8, z_cv9, z_cl9, z_cv10, z_cl10, z_cv11, z_cl11, z_cv12, z_cl12, z_cv13, z_cl13, z_len, z_elt, z_isI, z_isJ, Nat.reduceEqDiff, Nat.reduceLeDiff, Nat.reduceLT, Nat.reduceSub, Nat.reduceMul, not_false_eq_true, not_true_eq_false, true_and, and_true, true_or, or_true, false_or, or_false, true_implies, false_implies, implies_true, forall_const, and_self, ne_eq, Classical.not_not, z_up1, z_up2, z_cp1, z_cp2, z_upL1, z_upL2, if_true, if_false, and_false, false_and, z_cases, Int.reduceAdd, z_oi0, z_oi1, z_oi2, z_oi3, z_oi4, z_oi5, z_oi6, z_oi7, z_oi8, z_oi9, z_oi10, z_oi11, z_oi12, z_oi13, z_oi14, z_oi15, z_oi16, z_oi17, z_oi18, z_oi19, z_oi20]) | (refine s_tallySum ?_) | (refine s_tellsLatest ?_) | (with_reducible refine And.intro ?_ ?_) | (with_reducible intro _) | (with_reducible refine z_go (i := 40) (cut := [40, 48]) 51 ?_) | (with_reducible refine z_go (i := 48) (cut := [40, 48]) 51 ?_))
  all_goals (first | (with_reducible exact q) | ((try simp only [ge_iff_le, gt_iff_lt, ← Int32.not_lt, Classical.not_not] at *); (first | (with_reducible rfl) | rfl | (with_reducible exact z_vi_24 (by assumption) (by assumption)) | (with_reducible exact z_vi_4 (by assumption) (by assumption)) | (with_reducible exact z_vi_512 (by assumption) (by assumption)) | (with_reducible exact z_vi_14 (by assumption) (by assumption)) | (with_reducible exact z_vi_8 (by assumption) (by assumption)) | (with_reducible exact z_vinN (by assumption) (by assumption) (by decide)) | (with_reducible exact z_vin1 (by assumption) (by assumption) (by decide)) | ((try simp only [r_rdTells] at q); (try simp only [ge_iff_le, gt_iff_lt, ← Int32.not_lt, Classical.not_not] at q); (try simp only [*, if_true, if_false, ite_self, true_or, or_true, false_or, or_false, true_and, and_true, false_and, and_false, not_true_eq_false, not_false_eq_true, cond_true, cond_false, decide_true, decide_false, Bool.true_and, Bool.and_true, Bool.false_and, Bool.and_false, Bool.true_or, Bool.or_true, Bool.false_or, Bool.or_false, Bool.not_true, Bool.not_false, ne_eq, Nat.reduceEqDiff] at q); with_reducible exact q))) | (simp_all [r_rdTells]; done))
set_option maxRecDepth 100000 in
theorem s_rdCopy {h w r w2 : Nat} {M : zMem} {K : zK} (h0 : M.1 4 w2 r 0 = 0 ∨ M.1 4 w2 r 0 = 1) (h1 : M.1 4 w2 r 1 = 0 ∨ M.1 4 w2 r 1 = 1) (hw : ¬ w2 = w) (q : K none (m_rdCopy M w r w2)) : z_call (h + 2) 39 [.inr (.inr (4, w, r)), .inr (.inr (4, w2, r))] M K := by
  refine e_X3_copyFrom rfl rfl ?_
  refine z_wp_run (cut := [53, 58, 71, 76, 81]) 84 _ _ _ _ ?_
  repeat' (first | (simp only [z_wp, Bool.false_eq_true, ↓reduceIte, z_e10, z_e01, eq_self, Int32.reduceLT, Int32.reduceLE, Int32.reduceGT, Int32.reduceGE, z_in, cond_true, cond_false, Nat.reduceAdd, Nat.reduceBEq, z_nth, z_set, z_clr, z_st1, z_st2, z_isL, z_opt, z_pop, z_cats, z_cat, c_X3_copyFrom_0, c_X3_copyFrom_1, c_X3_copyFrom_2, c_X3_copyFrom_3, c_X3_copyFrom_4, c_X3_copyFrom_5, c_X3_copyFrom_6, c_X3_copyFrom_7, c_X3_copyFrom_8, c_X3_copyFrom_9, c_X3_copyFrom_10, c_X3_copyFrom_11, c_X3_copyFrom_12, c_X3_copyFrom_13, c_X3_copyFrom_14, c_X3_copyFrom_15, c_X3_copyFrom_16, c_X3_copyFrom_17, c_X3_copyFrom_18, c_X3_copyFrom_19, c_X3_copyFrom_20, c_X3_copyFrom_21, c_X3_copyFrom_22, c_X3_copyFrom_23, c_X3_copyFrom_24, c_X3_copyFrom_25, c_X3_copyFrom_26, c_X3_copyFrom_27, c_X3_copyFrom_28, c_X3_copyFrom_29, c_X3_copyFrom_30, c_X3_copyFrom_31, c_X3_copyFrom_32, c_X3_copyFrom_33, c_X3_copyFrom_34, c_X3_copyFrom_35, c_X3_copyFrom_36, c_X3_copyFrom_37, c_X3_copyFrom_38, c_X3_copyFrom_39, c_X3_copyFrom_40, c_X3_copyFrom_41, c_X3_copyFrom_42, c_X3_copyFrom_43, c_X3_copyFrom_44, c_X3_copyFrom_45, c_X3_copyFrom_46, c_X3_copyFrom_47, c_X3_copyFrom_48, c_X3_copyFrom_49, c_X3_copyFrom_50, c_X3_copyFrom_51, c_X3_copyFrom_52, c_X3_copyFrom_53, c_X3_copyFrom_54, c_X3_copyFrom_55, c_X3_copyFrom_56, c_X3_copyFrom_57, c_X3_copyFrom_58, c_X3_copyFrom_59, c_X3_copyFrom_60, c_X3_copyFrom_61, c_X3_copyFrom_62, c_X3_copyFrom_63, c_X3_copyFrom_64, c_X3_copyFrom_65, c_X3_copyFrom_66, c_X3_copyFrom_67, c_X3_copyFrom_68, c_X3_copyFrom_69, c_X3_copyFrom_70, c_X3_copyFrom_71, c_X3_copyFrom_72, c_X3_copyFrom_73, c_X3_copyFrom_74, c_X3_copyFrom_75, c_X3_copyFrom_76, c_X3_copyFrom_77, c_X3_copyFrom_78, c_X3_copyFrom_79, c_X3_copyFrom_80, c_X3_copyFrom_81, o_aload, o_callv, o_copy, o_get, o_getr, o_ic, o_put, o_putz, o_ret, z_cv0, z_cl0, z_cv1, z_cl1, z_cv2, z_cl2, z_cv3, z_cl3, z_cv4, z_cl4, z_cv5, z_cl5, z_cv6, z_cl6, z_cv7, z_cl7, z_cv8, z_cl8, z_cv9, z_cl9, z_cv10, z_cl10, z_cv11, z_cl11, z_cv12, z_cl12, z_cv13, z_cl13, z_len, z_elt, z_isI, z_isJ, Nat.reduceEqDiff, Nat.reduceLeDiff, Nat.reduceLT, Nat.reduceSub, Nat.reduceMul, not_false_eq_true, not_true_eq_false, true_and, and_true, true_or, or_true, false_or, or_false, true_implies, false_implies, implies_true, forall_const, and_self, ne_eq, Classical.not_not, z_up1, z_up2, z_cp1, z_cp2, z_upL1, z_upL2, if_true, if_false, and_false, false_and, hw]) | (refine s_tallyCopy ?_) | (refine s_pfxCopy ?_) | (with_reducible refine And.intro ?_ ?_) | (with_reducible intro _) | (with_reducible refine z_go (i := 53) (cut := [53, 58, 71, 76, 81]) 84 ?_) | (with_reducible refine z_go (i := 58) (cut := [53, 58, 71, 76, 81]) 84 ?_) | (with_reducible refine z_go (i := 71) (cut := [53, 58, 71, 76, 81]) 84 ?_) | (with_reducible refine z_go (i := 76) (cut := [53, 58, 71, 76, 81]) 84 ?_) | (with_reducible refine z_go (i := 81) (cut := [53, 58, 71, 76, 81]) 84 ?_))
  all_goals (first | (with_reducible exact q) | ((try simp only [ge_iff_le, gt_iff_lt, ← Int32.not_lt, Classical.not_not] at *); (first | (with_reducible rfl) | rfl | (with_reducible exact z_vi_24 (by assumption) (by assumption)) | (with_reducible exact z_vi_4 (by assumption) (by assumption)) | (with_reducible exact z_vi_512 (by assumption) (by assumption)) | (with_reducible exact z_vi_14 (by assumption) (by assumption)) | (with_reducible exact z_vi_8 (by assumption) (by assumption)) | (with_reducible exact z_vinN (by assumption) (by assumption) (by decide)) | (with_reducible exact z_vin1 (by assumption) (by assumption) (by decide)) | ((try simp only [m_rdCopy] at q); (try simp only [ge_iff_le, gt_iff_lt, ← Int32.not_lt, Classical.not_not] at q); (try simp only [*, if_true, if_false, ite_self, true_or, or_true, false_or, or_false, true_and, and_true, false_and, and_false, not_true_eq_false, not_false_eq_true, cond_true, cond_false, decide_true, decide_false, Bool.true_and, Bool.and_true, Bool.false_and, Bool.and_false, Bool.true_or, Bool.or_true, Bool.false_or, Bool.or_false, Bool.not_true, Bool.not_false, ne_eq, Nat.reduceEqDiff] at q); with_reducible exact q))) | (simp_all [m_rdCopy]; done))
theorem z_cmod {c : Nat} (hc : c < 2 ^ 31) : r_floorMod (nI c) 60 = nI (c % 60) := by
  have h1 : nI c - nI c / nI 60 * nI 60 = nI (c % 60) := pk_rem hc (by decide) (by decide)
  have h2 : ¬ ¬ (nI c ^^^ 60 ≥ 0) := by
    refine Classical.not_not.mpr ?_
    have h3 : nI c ^^^ 60 = nI (c ^^^ 60) := nx_xor c 60
    rw [h3]
    exact nI_pos' (Nat.xor_lt_two_pow hc (by decide))
  unfold r_floorMod
  rw [if_neg (fun q => h2 q.1)]
  exact h1
