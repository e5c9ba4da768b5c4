/-! Chances: sums and products over longs -/
theorem e_X0_cell {h : Nat} {a0 : Int32} {a1 : Int32} {M : zMem} {K : zK} (q : z_run (z_nop k_X0_cell) (z_call h) K 0 [.inl a0, .inl a1] [] M) : z_call (h + 1) 0 [.inl a0, .inl a1] M K := ⟨by simp only [List.all_cons, List.all_nil, z_isU]; rfl, q⟩
theorem c_X0_cell_0 : z_nop k_X0_cell 0 = o_iload 0 := rfl
theorem c_X0_cell_1 : z_nop k_X0_cell 1 = o_ic 13 := rfl
theorem c_X0_cell_2 : z_nop k_X0_cell 2 = o_bin (fun x y => x * y) := rfl
theorem c_X0_cell_3 : z_nop k_X0_cell 3 = o_iload 1 := rfl
theorem c_X0_cell_4 : z_nop k_X0_cell 4 = o_bin (fun x y => x + y) := rfl
theorem c_X0_cell_5 : z_nop k_X0_cell 5 = o_iret := rfl

def r_cell (a b : Int32) : Int32 := a * 13 + b
set_option maxRecDepth 100000 in
theorem s_cell {h : Nat} {M : zMem} {a b : Int32} {K : zK} (q : K (some (.inl (r_cell a b))) M) : z_call (h + 1) 0 [.inl a, .inl b] M K := by
  refine e_X0_cell  ?_
  refine z_wp_run (cut := []) 8 _ _ _ _ ?_
  repeat' (first | (simp only [z_wp, Bool.false_eq_true, ↓reduceIte, z_e10, z_e01, eq_self, Int32.reduceLT, Int32.reduceLE, Int32.reduceGT, Int32.reduceGE, z_in, cond_true, cond_false, Nat.reduceAdd, Nat.reduceBEq, z_nth, z_set, z_clr, z_st1, z_st2, z_isL, z_opt, z_pop, z_cats, z_cat, c_X0_cell_0, c_X0_cell_1, c_X0_cell_2, c_X0_cell_3, c_X0_cell_4, c_X0_cell_5, o_bin, o_ic, o_iload, o_iret, z_cv0, z_cl0, z_cv1, z_cl1, z_cv2, z_cl2, z_cv3, z_cl3, z_cv4, z_cl4, z_cv5, z_cl5, z_cv6, z_cl6, z_cv7, z_cl7, z_cv8, z_cl8, z_cv9, z_cl9, z_cv10, z_cl10, z_cv11, z_cl11, z_cv12, z_cl12, z_cv13, z_cl13, z_len, z_elt, z_isI, z_isJ, Nat.reduceEqDiff, Nat.reduceLeDiff, Nat.reduceLT, Nat.reduceSub, Nat.reduceMul, not_false_eq_true, not_true_eq_false, true_and, and_true, true_or, or_true, false_or, or_false, true_implies, false_implies, implies_true, forall_const, and_self, ne_eq, Classical.not_not, z_up1, z_up2, z_cp1, z_cp2, z_upL1, z_upL2, if_true, if_false, and_false, false_and]) | (with_reducible refine And.intro ?_ ?_) | (with_reducible intro _))
  all_goals (first | (with_reducible exact q) | ((try simp only [ge_iff_le, gt_iff_lt, ← Int32.not_lt, Classical.not_not] at *); (first | (with_reducible rfl) | rfl | (with_reducible exact z_vi_24 (by assumption) (by assumption)) | (with_reducible exact z_vi_4 (by assumption) (by assumption)) | (with_reducible exact z_vi_512 (by assumption) (by assumption)) | (with_reducible exact z_vi_14 (by assumption) (by assumption)) | (with_reducible exact z_vi_8 (by assumption) (by assumption)) | (with_reducible exact z_vinN (by assumption) (by assumption) (by decide)) | (with_reducible exact z_vin1 (by assumption) (by assumption) (by decide)) | ((try simp only [r_cell] at q); (try simp only [ge_iff_le, gt_iff_lt, ← Int32.not_lt, Classical.not_not] at q); (try simp only [*, if_true, if_false, ite_self, true_or, or_true, false_or, or_false, true_and, and_true, false_and, and_false, not_true_eq_false, not_false_eq_true, cond_true, cond_false, decide_true, decide_false, Bool.true_and, Bool.and_true, Bool.false_and, Bool.and_false, Bool.true_or, Bool.or_true, Bool.false_or, Bool.or_false, Bool.not_true, Bool.not_false, ne_eq, Nat.reduceEqDiff] at q); with_reducible exact q))) | (simp_all [r_cell]; done))
theorem e_X0_isKnown {h : Nat} {a0 : Int32} {a1 : Int32} {M : zMem} {K : zK} (q : z_run (z_nop k_X0_isKnown) (z_call h) K 0 [.inl a0, .inl a1] [] M) : z_call (h + 1) 5 [.inl a0, .inl a1] M K := ⟨by simp only [List.all_cons, List.all_nil, z_isU]; rfl, q⟩
theorem c_X0_isKnown_0 : z_nop k_X0_isKnown 0 = o_iload 0 := rfl
theorem c_X0_isKnown_1 : z_nop k_X0_isKnown 1 = o_if (fun x => x < 0) 12 := rfl
theorem c_X0_isKnown_2 : z_nop k_X0_isKnown 2 = o_iload 0 := rfl
theorem c_X0_isKnown_3 : z_nop k_X0_isKnown 3 = o_ic 12 := rfl
theorem c_X0_isKnown_4 : z_nop k_X0_isKnown 4 = o_icmp (fun x y => x > y) 12 := rfl
theorem c_X0_isKnown_5 : z_nop k_X0_isKnown 5 = o_iload 1 := rfl
theorem c_X0_isKnown_6 : z_nop k_X0_isKnown 6 = o_if (fun x => x < 0) 12 := rfl
theorem c_X0_isKnown_7 : z_nop k_X0_isKnown 7 = o_iload 1 := rfl
theorem c_X0_isKnown_8 : z_nop k_X0_isKnown 8 = o_ic 4 := rfl
theorem c_X0_isKnown_9 : z_nop k_X0_isKnown 9 = o_icmp (fun x y => x > y) 12 := rfl
theorem c_X0_isKnown_10 : z_nop k_X0_isKnown 10 = o_ic 1 := rfl
theorem c_X0_isKnown_11 : z_nop k_X0_isKnown 11 = o_goto 13 := rfl
theorem c_X0_isKnown_12 : z_nop k_X0_isKnown 12 = o_ic 0 := rfl
theorem c_X0_isKnown_13 : z_nop k_X0_isKnown 13 = o_zret := rfl

def r_isKnown (a b : Int32) : Int32 := if ¬ a < 0 ∧ ¬ a > 12 ∧ ¬ b < 0 ∧ ¬ b > 4 then 1 else 0
set_option maxRecDepth 100000 in
theorem s_isKnown {h : Nat} {M : zMem} {a b : Int32} {K : zK} (q : K (some (.inl (r_isKnown a b))) M) : z_call (h + 1) 5 [.inl a, .inl b] M K := by
  refine e_X0_isKnown  ?_
  refine z_wp_run (cut := []) 16 _ _ _ _ ?_
  repeat' (first | (simp only [z_wp, Bool.false_eq_true, ↓reduceIte, z_e10, z_e01, eq_self, Int32.reduceLT, Int32.reduceLE, Int32.reduceGT, Int32.reduceGE, z_in, cond_true, cond_false, Nat.reduceAdd, Nat.reduceBEq, z_nth, z_set, z_clr, z_st1, z_st2, z_isL, z_opt, z_pop, z_cats, z_cat, c_X0_isKnown_0, c_X0_isKnown_1, c_X0_isKnown_2, c_X0_isKnown_3, c_X0_isKnown_4, c_X0_isKnown_5, c_X0_isKnown_6, c_X0_isKnown_7, c_X0_isKnown_8, c_X0_isKnown_9, c_X0_isKnown_10, c_X0_isKnown_11, c_X0_isKnown_12, c_X0_isKnown_13, o_goto, o_ic, o_icmp, o_if, o_iload, o_zret, z_cv0, z_cl0, z_cv1, z_cl1, z_cv2, z_cl2, z_cv3, z_cl3, z_cv4, z_cl4, z_cv5, z_cl5, z_cv6, z_cl6, z_cv7, z_cl7, z_cv8, z_cl8, z_cv9, z_cl9, z_cv10, z_cl10, z_cv11, z_cl11, z_cv12, z_cl12, z_cv13, z_cl13, z_len, z_elt, z_isI, z_isJ, Nat.reduceEqDiff, Nat.reduceLeDiff, Nat.reduceLT, Nat.reduceSub, Nat.reduceMul, not_false_eq_true, not_true_eq_false, true_and, and_true, true_or, or_true, false_or, or_false, true_implies, false_implies, implies_true, forall_const, and_self, ne_eq, Classical.not_not, z_up1, z_up2, z_cp1, z_cp2, z_upL1, z_upL2, if_true, if_false, and_false, false_and]) | (with_reducible refine And.intro ?_ ?_) | (with_reducible intro _))
  all_goals (first | (with_reducible exact q) | ((try simp only [ge_iff_le, gt_iff_lt, ← Int32.not_lt, Classical.not_not] at *); (first | (with_reducible rfl) | rfl | (with_reducible exact z_vi_24 (by assumption) (by assumption)) | (with_reducible exact z_vi_4 (by assumption) (by assumption)) | (with_reducible exact z_vi_512 (by assumption) (by assumption)) | (with_reducible exact z_vi_14 (by assumption) (by assumption)) | (with_reducible exact z_vi_8 (by assumption) (by assumption)) | (with_reducible exact z_vinN (by assumption) (by assumption) (by decide)) | (with_reducible exact z_vin1 (by assumption) (by assumption) (by decide)) | ((try simp only [r_isKnown] at q); (try simp only [ge_iff_le, gt_iff_lt, ← Int32.not_lt, Classical.not_not] at q); (try simp only [*, if_true, if_false, ite_self, true_or, or_true, false_or, or_false, true_and, and_true, false_and, and_false, not_true_eq_false, not_false_eq_true, cond_true, cond_false, decide_true, decide_false, Bool.true_and, Bool.and_true, Bool.false_and, Bool.and_false, Bool.true_or, Bool.or_true, Bool.false_or, Bool.or_false, Bool.not_true, Bool.not_false, ne_eq, Nat.reduceEqDiff] at q); with_reducible exact q))) | (simp_all [r_isKnown]; done))
theorem e_X0_choose {h : Nat} {a0 : Int32} {a1 : Int32} {M : zMem} {K : zK} (q : z_run (z_nop k_X0_choose) (z_call h) K 0 [.inl a0, .inl a1, z_un, z_un, z_un] [] M) : z_call (h + 1) 2 [.inl a0, .inl a1] M K := ⟨by simp only [List.all_cons, List.all_nil, z_isU]; rfl, q⟩
theorem c_X0_choose_0 : z_nop k_X0_choose 0 = o_lc 1 := rfl
theorem c_X0_choose_1 : z_nop k_X0_choose 1 = o_lstore 2 := rfl
theorem c_X0_choose_2 : z_nop k_X0_choose 2 = o_ic 0 := rfl
theorem c_X0_choose_3 : z_nop k_X0_choose 3 = o_istore 4 := rfl
theorem c_X0_choose_4 : z_nop k_X0_choose 4 = o_iload 4 := rfl
theorem c_X0_choose_5 : z_nop k_X0_choose 5 = o_iload 1 := rfl
theorem c_X0_choose_6 : z_nop k_X0_choose 6 = o_icmp (fun x y => x ≥ y) 21 := rfl
theorem c_X0_choose_7 : z_nop k_X0_choose 7 = o_lload 2 := rfl
theorem c_X0_choose_8 : z_nop k_X0_choose 8 = o_iload 0 := rfl
theorem c_X0_choose_9 : z_nop k_X0_choose 9 = o_iload 4 := rfl
theorem c_X0_choose_10 : z_nop k_X0_choose 10 = o_bin (fun x y => x - y) := rfl
theorem c_X0_choose_11 : z_nop k_X0_choose 11 = o_i2l := rfl
theorem c_X0_choose_12 : z_nop k_X0_choose 12 = o_lbin (fun x y => x * y) := rfl
theorem c_X0_choose_13 : z_nop k_X0_choose 13 = o_iload 4 := rfl
theorem c_X0_choose_14 : z_nop k_X0_choose 14 = o_ic 1 := rfl
theorem c_X0_choose_15 : z_nop k_X0_choose 15 = o_bin (fun x y => x + y) := rfl
theorem c_X0_choose_16 : z_nop k_X0_choose 16 = o_i2l := rfl
theorem c_X0_choose_17 : z_nop k_X0_choose 17 = o_divl (fun x y => x / y) := rfl
theorem c_X0_choose_18 : z_nop k_X0_choose 18 = o_lstore 2 := rfl
theorem c_X0_choose_19 : z_nop k_X0_choose 19 = o_iinc 4 1 := rfl
theorem c_X0_choose_20 : z_nop k_X0_choose 20 = o_goto 4 := rfl
theorem c_X0_choose_21 : z_nop k_X0_choose 21 = o_lload 2 := rfl
theorem c_X0_choose_22 : z_nop k_X0_choose 22 = o_lret := rfl

def r_choose (n : Int32) : Nat → Int64
  | 0 => 1
  | i + 1 => r_choose n i * (n - nI i).toInt64 / (nI i + 1).toInt64
theorem z_i1 {i : Nat} (h : i < 1000) : ((nI i + 1).toInt64 = 0) = False := by
  apply eq_false
  rw [nI_1, nI_l (by omega)]
  intro e
  have h2 : lN (i + 1) = lN 0 := e
  rw [lN_eq (by omega) (by omega)] at h2
  omega
set_option maxRecDepth 100000 in
theorem s_choose {h k : Nat} {M : zMem} {n : Int32} {K : zK} (hk : k < 1000) (q : K (some (.inr (.inl (r_choose n k)))) M) : z_call (h + 1) 2 [.inl n, .inl (nI k)] M K := by
  refine e_X0_choose  ?_
  refine z_wp_run (cut := [4]) 25 _ _ _ _ ?_
  repeat' (first | (simp only [z_wp, Bool.false_eq_true, ↓reduceIte, z_e10, z_e01, eq_self, Int32.reduceLT, Int32.reduceLE, Int32.reduceGT, Int32.reduceGE, z_in, cond_true, cond_false, Nat.reduceAdd, Nat.reduceBEq, z_nth, z_set, z_clr, z_st1, z_st2, z_isL, z_opt, z_pop, z_cats, z_cat, c_X0_choose_0, c_X0_choose_1, c_X0_choose_2, c_X0_choose_3, c_X0_choose_4, c_X0_choose_5, c_X0_choose_6, c_X0_choose_7, c_X0_choose_8, c_X0_choose_9, c_X0_choose_10, c_X0_choose_11, c_X0_choose_12, c_X0_choose_13, c_X0_choose_14, c_X0_choose_15, c_X0_choose_16, c_X0_choose_17, c_X0_choose_18, c_X0_choose_19, c_X0_choose_20, c_X0_choose_21, c_X0_choose_22, o_bin, o_divl, o_goto, o_i2l, o_ic, o_icmp, o_iinc, o_iload, o_istore, o_lbin, o_lc, o_lload, o_lret, o_lstore, z_cv0, z_cl0, z_cv1, z_cl1, z_cv2, z_cl2, z_cv3, z_cl3, z_cv4, z_cl4, z_cv5, z_cl5, z_cv6, z_cl6, z_cv7, z_cl7, z_cv8, z_cl8, z_cv9, z_cl9, z_cv10, z_cl10, z_cv11, z_cl11, z_cv12, z_cl12, z_cv13, z_cl13, z_len, z_elt, z_isI, z_isJ, Nat.reduceEqDiff, Nat.reduceLeDiff, Nat.reduceLT, Nat.reduceSub, Nat.reduceMul, not_false_eq_true, not_true_eq_false, true_and, and_true, true_or, or_true, false_or, or_false, true_implies, false_implies, implies_true, forall_const, and_self, ne_eq, Classical.not_not, z_up1, z_up2, z_cp1, z_cp2, z_upL1, z_upL2, if_true, if_false, and_false, false_and]) | (with_reducible refine And.intro ?_ ?_) | (with_reducible intro _))
  refine z_loop (fun i => z_run (z_nop k_X0_choose) (z_call h) K 4 [.inl n, .inl (nI k), .inr (.inl (r_choose n i)), z_un, .inl (nI i)] [] M) k ?_ ?_ 0 (by omega)
  · have f1 : (nI k ≥ nI k) = True := eq_true (Int32.le_refl _)
    refine z_go (cut := [4]) 25 ?_
    simp only [z_wp, Bool.false_eq_true, ↓reduceIte, z_e10, z_e01, eq_self, Int32.reduceLT, Int32.reduceLE, Int32.reduceGT, Int32.reduceGE, z_in, cond_true, cond_false, Nat.reduceAdd, Nat.reduceBEq, z_nth, z_set, z_clr, z_st1, z_st2, z_isL, z_opt, z_pop, z_cats, z_cat, c_X0_choose_0, c_X0_choose_1, c_X0_choose_2, c_X0_choose_3, c_X0_choose_4, c_X0_choose_5, c_X0_choose_6, c_X0_choose_7, c_X0_choose_8, c_X0_choose_9, c_X0_choose_10, c_X0_choose_11, c_X0_choose_12, c_X0_choose_13, c_X0_choose_14, c_X0_choose_15, c_X0_choose_16, c_X0_choose_17, c_X0_choose_18, c_X0_choose_19, c_X0_choose_20, c_X0_choose_21, c_X0_choose_22, o_bin, o_divl, o_goto, o_i2l, o_ic, o_icmp, o_iinc, o_iload, o_istore, o_lbin, o_lc, o_lload, o_lret, o_lstore, z_cv0, z_cl0, z_cv1, z_cl1, z_cv2, z_cl2, z_cv3, z_cl3, z_cv4, z_cl4, z_cv5, z_cl5, z_cv6, z_cl6, z_cv7, z_cl7, z_cv8, z_cl8, z_cv9, z_cl9, z_cv10, z_cl10, z_cv11, z_cl11, z_cv12, z_cl12, z_cv13, z_cl13, z_len, z_elt, z_isI, z_isJ, Nat.reduceEqDiff, Nat.reduceLeDiff, Nat.reduceLT, Nat.reduceSub, Nat.reduceMul, not_false_eq_true, not_true_eq_false, true_and, and_true, true_or, or_true, false_or, or_false, true_implies, false_implies, implies_true, forall_const, and_self, ne_eq, Classical.not_not, z_up1, z_up2, z_cp1, z_cp2, z_upL1, z_upL2, if_true, if_false, and_false, false_and, f1]
    exact q
  · intro i hi ih
    have f1 : (nI i ≥ nI k) = False := eq_false (nI_ge hi (by omega))
    have f2 := z_i1 (show i < 1000 by omega)
    have f3 : nI i + 1 = nI (i + 1) := nI_1 i
    refine z_go (cut := [4]) 40 ?_
    simp only [z_wp, Bool.false_eq_true, ↓reduceIte, z_e10, z_e01, eq_self, Int32.reduceLT, Int32.reduceLE, Int32.reduceGT, Int32.reduceGE, z_in, cond_true, cond_false, Nat.reduceAdd, Nat.reduceBEq, z_nth, z_set, z_clr, z_st1, z_st2, z_isL, z_opt, z_pop, z_cats, z_cat, c_X0_choose_0, c_X0_choose_1, c_X0_choose_2, c_X0_choose_3, c_X0_choose_4, c_X0_choose_5, c_X0_choose_6, c_X0_choose_7, c_X0_choose_8, c_X0_choose_9, c_X0_choose_10, c_X0_choose_11, c_X0_choose_12, c_X0_choose_13, c_X0_choose_14, c_X0_choose_15, c_X0_choose_16, c_X0_choose_17, c_X0_choose_18, c_X0_choose_19, c_X0_choose_20, c_X0_choose_21, c_X0_choose_22, o_bin, o_divl, o_goto, o_i2l, o_ic, o_icmp, o_iinc, o_iload, o_istore, o_lbin, o_lc, o_lload, o_lret, o_lstore, z_cv0, z_cl0, z_cv1, z_cl1, z_cv2, z_cl2, z_cv3, z_cl3, z_cv4, z_cl4, z_cv5, z_cl5, z_cv6, z_cl6, z_cv7, z_cl7, z_cv8, z_cl8, z_cv9, z_cl9, z_cv10, z_cl10, z_cv11, z_cl11, z_cv12, z_cl12, z_cv13, z_cl13, z_len, z_elt, z_isI, z_isJ, Nat.reduceEqDiff, Nat.reduceLeDiff, Nat.reduceLT, Nat.reduceSub, Nat.reduceMul, not_false_eq_true, not_true_eq_false, true_and, and_true, true_or, or_true, false_or, or_false, true_implies, false_implies, implies_true, forall_const, and_self, ne_eq, Classical.not_not, z_up1, z_up2, z_cp1, z_cp2, z_upL1, z_upL2, if_true, if_false, and_false, false_and, f1, f2]
    rw [f3]
    unfold r_choose at ih
    rw [f3] at ih
    exact ih
theorem e_X0_inRow {h : Nat} {a0 : Int32} {a1 : Int32} {M : zMem} {K : zK} (q : z_run (z_nop k_X0_inRow) (z_call h) K 0 [.inl a0, .inl a1, z_un, z_un, z_un] [] M) : z_call (h + 1) 3 [.inl a0, .inl a1] M K := ⟨by simp only [List.all_cons, List.all_nil, z_isU]; rfl, q⟩
theorem c_X0_inRow_0 : z_nop k_X0_inRow 0 = o_lc 1 := rfl
theorem c_X0_inRow_1 : z_nop k_X0_inRow 1 = o_lstore 2 := rfl
theorem c_X0_inRow_2 : z_nop k_X0_inRow 2 = o_ic 0 := rfl
theorem c_X0_inRow_3 : z_nop k_X0_inRow 3 = o_istore 4 := rfl
theorem c_X0_inRow_4 : z_nop k_X0_inRow 4 = o_iload 4 := rfl
theorem c_X0_inRow_5 : z_nop k_X0_inRow 5 = o_iload 1 := rfl
theorem c_X0_inRow_6 : z_nop k_X0_inRow 6 = o_icmp (fun x y => x ≥ y) 16 := rfl
theorem c_X0_inRow_7 : z_nop k_X0_inRow 7 = o_lload 2 := rfl
theorem c_X0_inRow_8 : z_nop k_X0_inRow 8 = o_iload 0 := rfl
theorem c_X0_inRow_9 : z_nop k_X0_inRow 9 = o_iload 4 := rfl
theorem c_X0_inRow_10 : z_nop k_X0_inRow 10 = o_bin (fun x y => x - y) := rfl
theorem c_X0_inRow_11 : z_nop k_X0_inRow 11 = o_i2l := rfl
theorem c_X0_inRow_12 : z_nop k_X0_inRow 12 = o_lbin (fun x y => x * y) := rfl
theorem c_X0_inRow_13 : z_nop k_X0_inRow 13 = o_lstore 2 := rfl
theorem c_X0_inRow_14 : z_nop k_X0_inRow 14 = o_iinc 4 1 := rfl
theorem c_X0_inRow_15 : z_nop k_X0_inRow 15 = o_goto 4 := rfl
theorem c_X0_inRow_16 : z_nop k_X0_inRow 16 = o_lload 2 := rfl
theorem c_X0_inRow_17 : z_nop k_X0_inRow 17 = o_lret := rfl

def r_inRow (n : Int32) : Nat → Int64
  | 0 => 1
  | i + 1 => r_inRow n i * (n - nI i).toInt64
set_option maxRecDepth 100000 in
theorem s_inRow {h k : Nat} {M : zMem} {n : Int32} {K : zK} (hk : k < 1000) (q : K (some (.inr (.inl (r_inRow n k)))) M) : z_call (h + 1) 3 [.inl n, .inl (nI k)] M K := by
  refine e_X0_inRow  ?_
  refine z_wp_run (cut := [4]) 20 _ _ _ _ ?_
  repeat' (first | (simp only [z_wp, Bool.false_eq_true, ↓reduceIte, z_e10, z_e01, eq_self, Int32.reduceLT, Int32.reduceLE, Int32.reduceGT, Int32.reduceGE, z_in, cond_true, cond_false, Nat.reduceAdd, Nat.reduceBEq, z_nth, z_set, z_clr, z_st1, z_st2, z_isL, z_opt, z_pop, z_cats, z_cat, c_X0_inRow_0, c_X0_inRow_1, c_X0_inRow_2, c_X0_inRow_3, c_X0_inRow_4, c_X0_inRow_5, c_X0_inRow_6, c_X0_inRow_7, c_X0_inRow_8, c_X0_inRow_9, c_X0_inRow_10, c_X0_inRow_11, c_X0_inRow_12, c_X0_inRow_13, c_X0_inRow_14, c_X0_inRow_15, c_X0_inRow_16, c_X0_inRow_17, o_bin, o_goto, o_i2l, o_ic, o_icmp, o_iinc, o_iload, o_istore, o_lbin, o_lc, o_lload, o_lret, o_lstore, z_cv0, z_cl0, z_cv1, z_cl1, z_cv2, z_cl2, z_cv3, z_cl3, z_cv4, z_cl4, z_cv5, z_cl5, z_cv6, z_cl6, z_cv7, z_cl7, z_cv8, z_cl8, z_cv9, z_cl9, z_cv10, z_cl10, z_cv11, z_cl11, z_cv12, z_cl12, z_cv13, z_cl13, z_len, z_elt, z_isI, z_isJ, Nat.reduceEqDiff, Nat.reduceLeDiff, Nat.reduceLT, Nat.reduceSub, Nat.reduceMul, not_false_eq_true, not_true_eq_false, true_and, and_true, true_or, or_true, false_or, or_false, true_implies, false_implies, implies_true, forall_const, and_self, ne_eq, Classical.not_not, z_up1, z_up2, z_cp1, z_cp2, z_upL1, z_upL2, if_true, if_false, and_false, false_and]) | (with_reducible refine And.intro ?_ ?_) | (with_reducible intro _))
  refine z_loop (fun i => z_run (z_nop k_X0_inRow) (z_call h) K 4 [.inl n, .inl (nI k), .inr (.inl (r_inRow n i)), z_un, .inl (nI i)] [] M) k ?_ ?_ 0 (by omega)
  · have f1 : (nI k ≥ nI k) = True := eq_true (Int32.le_refl _)
    refine z_go (cut := [4]) 20 ?_
    simp only [z_wp, Bool.false_eq_true, ↓reduceIte, z_e10, z_e01, eq_self, Int32.reduceLT, Int32.reduceLE, Int32.reduceGT, Int32.reduceGE, z_in, cond_true, cond_false, Nat.reduceAdd, Nat.reduceBEq, z_nth, z_set, z_clr, z_st1, z_st2, z_isL, z_opt, z_pop, z_cats, z_cat, c_X0_inRow_0, c_X0_inRow_1, c_X0_inRow_2, c_X0_inRow_3, c_X0_inRow_4, c_X0_inRow_5, c_X0_inRow_6, c_X0_inRow_7, c_X0_inRow_8, c_X0_inRow_9, c_X0_inRow_10, c_X0_inRow_11, c_X0_inRow_12, c_X0_inRow_13, c_X0_inRow_14, c_X0_inRow_15, c_X0_inRow_16, c_X0_inRow_17, o_bin, o_goto, o_i2l, o_ic, o_icmp, o_iinc, o_iload, o_istore, o_lbin, o_lc, o_lload, o_lret, o_lstore, z_cv0, z_cl0, z_cv1, z_cl1, z_cv2, z_cl2, z_cv3, z_cl3, z_cv4, z_cl4, z_cv5, z_cl5, z_cv6, z_cl6, z_cv7, z_cl7, z_cv8, z_cl8, z_cv9, z_cl9, z_cv10, z_cl10, z_cv11, z_cl11, z_cv12, z_cl12, z_cv13, z_cl13, z_len, z_elt, z_isI, z_isJ, Nat.reduceEqDiff, Nat.reduceLeDiff, Nat.reduceLT, Nat.reduceSub, Nat.reduceMul, not_false_eq_true, not_true_eq_false, true_and, and_true, true_or, or_true, false_or, or_false, true_implies, false_implies, implies_true, forall_const, and_self, ne_eq, Classical.not_not, z_up1, z_up2, z_cp1, z_cp2, z_upL1, z_upL2, if_true, if_false, and_false, false_and, f1]
    exact q
  · intro i hi ih
    have f1 : (nI i ≥ nI k) = False := eq_false (nI_ge hi (by omega))
    have f3 : nI i + 1 = nI (i + 1) := nI_1 i
    refine z_go (cut := [4]) 40 ?_
    simp only [z_wp, Bool.false_eq_true, ↓reduceIte, z_e10, z_e01, eq_self, Int32.reduceLT, Int32.reduceLE, Int32.reduceGT, Int32.reduceGE, z_in, cond_true, cond_false, Nat.reduceAdd, Nat.reduceBEq, z_nth, z_set, z_clr, z_st1, z_st2, z_isL, z_opt, z_pop, z_cats, z_cat, c_X0_inRow_0, c_X0_inRow_1, c_X0_inRow_2, c_X0_inRow_3, c_X0_inRow_4, c_X0_inRow_5, c_X0_inRow_6, c_X0_inRow_7, c_X0_inRow_8, c_X0_inRow_9, c_X0_inRow_10, c_X0_inRow_11, c_X0_inRow_12, c_X0_inRow_13, c_X0_inRow_14, c_X0_inRow_15, c_X0_inRow_16, c_X0_inRow_17, o_bin, o_goto, o_i2l, o_ic, o_icmp, o_iinc, o_iload, o_istore, o_lbin, o_lc, o_lload, o_lret, o_lstore, z_cv0, z_cl0, z_cv1, z_cl1, z_cv2, z_cl2, z_cv3, z_cl3, z_cv4, z_cl4, z_cv5, z_cl5, z_cv6, z_cl6, z_cv7, z_cl7, z_cv8, z_cl8, z_cv9, z_cl9, z_cv10, z_cl10, z_cv11, z_cl11, z_cv12, z_cl12, z_cv13, z_cl13, z_len, z_elt, z_isI, z_isJ, Nat.reduceEqDiff, Nat.reduceLeDiff, Nat.reduceLT, Nat.reduceSub, Nat.reduceMul, not_false_eq_true, not_true_eq_false, true_and, and_true, true_or, or_true, false_or, or_false, true_implies, false_implies, implies_true, forall_const, and_self, ne_eq, Classical.not_not, z_up1, z_up2, z_cp1, z_cp2, z_upL1, z_upL2, if_true, if_false, and_false, false_and, f1, f3]
    exact ih
theorem e_X0_raised {h : Nat} {a0 : Int64} {a1 : Int32} {M : zMem} {K : zK} (q : z_run (z_nop k_X0_raised) (z_call h) K 0 [.inr (.inl a0), z_un, .inl a1, z_un, z_un, z_un] [] M) : z_call (h + 1) 4 [.inr (.inl a0), .inl a1] M K := ⟨by simp only [List.all_cons, List.all_nil, z_isU]; rfl, q⟩
theorem c_X0_raised_0 : z_nop k_X0_raised 0 = o_lc 1 := rfl
theorem c_X0_raised_1 : z_nop k_X0_raised 1 = o_lstore 3 := rfl
theorem c_X0_raised_2 : z_nop k_X0_raised 2 = o_ic 0 := rfl
theorem c_X0_raised_3 : z_nop k_X0_raised 3 = o_istore 5 := rfl
theorem c_X0_raised_4 : z_nop k_X0_raised 4 = o_iload 5 := rfl
theorem c_X0_raised_5 : z_nop k_X0_raised 5 = o_iload 2 := rfl
theorem c_X0_raised_6 : z_nop k_X0_raised 6 = o_icmp (fun x y => x ≥ y) 13 := rfl
theorem c_X0_raised_7 : z_nop k_X0_raised 7 = o_lload 3 := rfl
theorem c_X0_raised_8 : z_nop k_X0_raised 8 = o_lload 0 := rfl
theorem c_X0_raised_9 : z_nop k_X0_raised 9 = o_lbin (fun x y => x * y) := rfl
theorem c_X0_raised_10 : z_nop k_X0_raised 10 = o_lstore 3 := rfl
theorem c_X0_raised_11 : z_nop k_X0_raised 11 = o_iinc 5 1 := rfl
theorem c_X0_raised_12 : z_nop k_X0_raised 12 = o_goto 4 := rfl
theorem c_X0_raised_13 : z_nop k_X0_raised 13 = o_lload 3 := rfl
theorem c_X0_raised_14 : z_nop k_X0_raised 14 = o_lret := rfl

theorem e_X0_hopeAbove {h : Nat} {a0 : Int32} {a1 : Int32} {M : zMem} {K : zK} (q : z_run (z_nop k_X0_hopeAbove) (z_call h) K 0 [.inl a0, .inl a1] [] M) : z_call (h + 1) 7 [.inl a0, .inl a1] M K := ⟨by simp only [List.all_cons, List.all_nil, z_isU]; rfl, q⟩
theorem c_X0_hopeAbove_0 : z_nop k_X0_hopeAbove 0 = o_iload 0 := rfl
theorem c_X0_hopeAbove_1 : z_nop k_X0_hopeAbove 1 = o_i2l := rfl
theorem c_X0_hopeAbove_2 : z_nop k_X0_hopeAbove 2 = o_iload 1 := rfl
theorem c_X0_hopeAbove_3 : z_nop k_X0_hopeAbove 3 = o_ic 1 := rfl
theorem c_X0_hopeAbove_4 : z_nop k_X0_hopeAbove 4 = o_bin (fun x y => x - y) := rfl
theorem c_X0_hopeAbove_5 : z_nop k_X0_hopeAbove 5 = o_i2l := rfl
theorem c_X0_hopeAbove_6 : z_nop k_X0_hopeAbove 6 = o_iload 0 := rfl
theorem c_X0_hopeAbove_7 : z_nop k_X0_hopeAbove 7 = o_ic 1 := rfl
theorem c_X0_hopeAbove_8 : z_nop k_X0_hopeAbove 8 = o_bin (fun x y => x - y) := rfl
theorem c_X0_hopeAbove_9 : z_nop k_X0_hopeAbove 9 = o_call 4 2 := rfl
theorem c_X0_hopeAbove_10 : z_nop k_X0_hopeAbove 10 = o_lbin (fun x y => x * y) := rfl
theorem c_X0_hopeAbove_11 : z_nop k_X0_hopeAbove 11 = o_lret := rfl

theorem e_X0_hopeInSixteenths {h : Nat} {a0 : Int32} {a1 : Int32} {M : zMem} {K : zK} (q : z_run (z_nop k_X0_hopeInSixteenths) (z_call h) K 0 [.inl a0, .inl a1] [] M) : z_call (h + 1) 10 [.inl a0, .inl a1] M K := ⟨by simp only [List.all_cons, List.all_nil, z_isU]; rfl, q⟩
theorem c_X0_hopeInSixteenths_0 : z_nop k_X0_hopeInSixteenths 0 = o_iload 0 := rfl
theorem c_X0_hopeInSixteenths_1 : z_nop k_X0_hopeInSixteenths 1 = o_ic 1 := rfl
theorem c_X0_hopeInSixteenths_2 : z_nop k_X0_hopeInSixteenths 2 = o_iload 1 := rfl
theorem c_X0_hopeInSixteenths_3 : z_nop k_X0_hopeInSixteenths 3 = o_bin (fun x y => x <<< (y &&& 31)) := rfl
theorem c_X0_hopeInSixteenths_4 : z_nop k_X0_hopeInSixteenths 4 = o_call 7 2 := rfl
theorem c_X0_hopeInSixteenths_5 : z_nop k_X0_hopeInSixteenths 5 = o_ic 1 := rfl
theorem c_X0_hopeInSixteenths_6 : z_nop k_X0_hopeInSixteenths 6 = o_ic 4 := rfl
theorem c_X0_hopeInSixteenths_7 : z_nop k_X0_hopeInSixteenths 7 = o_iload 1 := rfl
theorem c_X0_hopeInSixteenths_8 : z_nop k_X0_hopeInSixteenths 8 = o_bin (fun x y => x - y) := rfl
theorem c_X0_hopeInSixteenths_9 : z_nop k_X0_hopeInSixteenths 9 = o_bin (fun x y => x <<< (y &&& 31)) := rfl
theorem c_X0_hopeInSixteenths_10 : z_nop k_X0_hopeInSixteenths 10 = o_i2l := rfl
theorem c_X0_hopeInSixteenths_11 : z_nop k_X0_hopeInSixteenths 11 = o_iload 0 := rfl
theorem c_X0_hopeInSixteenths_12 : z_nop k_X0_hopeInSixteenths 12 = o_call 4 2 := rfl
theorem c_X0_hopeInSixteenths_13 : z_nop k_X0_hopeInSixteenths 13 = o_lbin (fun x y => x * y) := rfl
theorem c_X0_hopeInSixteenths_14 : z_nop k_X0_hopeInSixteenths 14 = o_lret := rfl

theorem e_X0_waysOf {h : Nat} {a0 : zId} {a1 : Int32} {a2 : Int32} {a3 : Int32} {M : zMem} {K : zK} (ha0 : (a0.1 == 99) = false) (q : z_run (z_nop k_X0_waysOf) (z_call h) K 0 [.inr (.inr a0), .inl a1, .inl a2, .inl a3, z_un] [] M) : z_call (h + 1) 6 [.inr (.inr a0), .inl a1, .inl a2, .inl a3] M K := ⟨by simp only [List.all_cons, List.all_nil, z_isU, ha0]; rfl, q⟩
theorem c_X0_waysOf_0 : z_nop k_X0_waysOf 0 = o_iload 1 := rfl
theorem c_X0_waysOf_1 : z_nop k_X0_waysOf 1 = o_iload 2 := rfl
theorem c_X0_waysOf_2 : z_nop k_X0_waysOf 2 = o_call 5 2 := rfl
theorem c_X0_waysOf_3 : z_nop k_X0_waysOf 3 = o_if (fun x => x = 0) 9 := rfl
theorem c_X0_waysOf_4 : z_nop k_X0_waysOf 4 = o_iload 3 := rfl
theorem c_X0_waysOf_5 : z_nop k_X0_waysOf 5 = o_if (fun x => x < 0) 9 := rfl
theorem c_X0_waysOf_6 : z_nop k_X0_waysOf 6 = o_iload 3 := rfl
theorem c_X0_waysOf_7 : z_nop k_X0_waysOf 7 = o_iload 1 := rfl
theorem c_X0_waysOf_8 : z_nop k_X0_waysOf 8 = o_icmp (fun x y => x ≤ y) 11 := rfl
theorem c_X0_waysOf_9 : z_nop k_X0_waysOf 9 = o_lc (-1) := rfl
theorem c_X0_waysOf_10 : z_nop k_X0_waysOf 10 = o_lret := rfl
theorem c_X0_waysOf_11 : z_nop k_X0_waysOf 11 = o_ic 1 := rfl
theorem c_X0_waysOf_12 : z_nop k_X0_waysOf 12 = o_iload 2 := rfl
theorem c_X0_waysOf_13 : z_nop k_X0_waysOf 13 = o_bin (fun x y => x <<< (y &&& 31)) := rfl
theorem c_X0_waysOf_14 : z_nop k_X0_waysOf 14 = o_istore 4 := rfl
theorem c_X0_waysOf_15 : z_nop k_X0_waysOf 15 = o_iload 3 := rfl
theorem c_X0_waysOf_16 : z_nop k_X0_waysOf 16 = o_iload 4 := rfl
theorem c_X0_waysOf_17 : z_nop k_X0_waysOf 17 = o_icmp (fun x y => x ≤ y) 20 := rfl
theorem c_X0_waysOf_18 : z_nop k_X0_waysOf 18 = o_lc 0 := rfl
theorem c_X0_waysOf_19 : z_nop k_X0_waysOf 19 = o_lret := rfl
theorem c_X0_waysOf_20 : z_nop k_X0_waysOf 20 = o_iload 4 := rfl
theorem c_X0_waysOf_21 : z_nop k_X0_waysOf 21 = o_iload 3 := rfl
theorem c_X0_waysOf_22 : z_nop k_X0_waysOf 22 = o_call 2 2 := rfl
theorem c_X0_waysOf_23 : z_nop k_X0_waysOf 23 = o_iload 1 := rfl
theorem c_X0_waysOf_24 : z_nop k_X0_waysOf 24 = o_iload 3 := rfl
theorem c_X0_waysOf_25 : z_nop k_X0_waysOf 25 = o_call 3 2 := rfl
theorem c_X0_waysOf_26 : z_nop k_X0_waysOf 26 = o_lbin (fun x y => x * y) := rfl
theorem c_X0_waysOf_27 : z_nop k_X0_waysOf 27 = o_aload 0 := rfl
theorem c_X0_waysOf_28 : z_nop k_X0_waysOf 28 = o_getr 1 (fun w i => (45, 0, 0)) := rfl
theorem c_X0_waysOf_29 : z_nop k_X0_waysOf 29 = o_iload 4 := rfl
theorem c_X0_waysOf_30 : z_nop k_X0_waysOf 30 = o_iload 3 := rfl
theorem c_X0_waysOf_31 : z_nop k_X0_waysOf 31 = o_bin (fun x y => x - y) := rfl
theorem c_X0_waysOf_32 : z_nop k_X0_waysOf 32 = o_iload 1 := rfl
theorem c_X0_waysOf_33 : z_nop k_X0_waysOf 33 = o_iload 3 := rfl
theorem c_X0_waysOf_34 : z_nop k_X0_waysOf 34 = o_bin (fun x y => x - y) := rfl
theorem c_X0_waysOf_35 : z_nop k_X0_waysOf 35 = o_call 0 2 := rfl
theorem c_X0_waysOf_36 : z_nop k_X0_waysOf 36 = o_lald := rfl
theorem c_X0_waysOf_37 : z_nop k_X0_waysOf 37 = o_lbin (fun x y => x * y) := rfl
theorem c_X0_waysOf_38 : z_nop k_X0_waysOf 38 = o_lret := rfl

def r_raised (a : Int64) : Nat → Int64
  | 0 => 1
  | i + 1 => r_raised a i * a
set_option maxRecDepth 100000 in
theorem s_raised0 {h k : Nat} {M : zMem} {a : Int64} {K : zK} (hk : k < 1000) (q : K (some (.inr (.inl (r_raised a k)))) M) : z_call (h + 1) 4 [.inr (.inl a), .inl (nI k)] M K := by
  refine e_X0_raised  ?_
  refine z_wp_run (cut := [4]) 17 _ _ _ _ ?_
  repeat' (first | (simp only [z_wp, Bool.false_eq_true, ↓reduceIte, z_e10, z_e01, eq_self, Int32.reduceLT, Int32.reduceLE, Int32.reduceGT, Int32.reduceGE, z_in, cond_true, cond_false, Nat.reduceAdd, Nat.reduceBEq, z_nth, z_set, z_clr, z_st1, z_st2, z_isL, z_opt, z_pop, z_cats, z_cat, c_X0_raised_0, c_X0_raised_1, c_X0_raised_2, c_X0_raised_3, c_X0_raised_4, c_X0_raised_5, c_X0_raised_6, c_X0_raised_7, c_X0_raised_8, c_X0_raised_9, c_X0_raised_10, c_X0_raised_11, c_X0_raised_12, c_X0_raised_13, c_X0_raised_14, o_goto, o_ic, o_icmp, o_iinc, o_iload, o_istore, o_lbin, o_lc, o_lload, o_lret, o_lstore, z_cv0, z_cl0, z_cv1, z_cl1, z_cv2, z_cl2, z_cv3, z_cl3, z_cv4, z_cl4, z_cv5, z_cl5, z_cv6, z_cl6, z_cv7, z_cl7, z_cv8, z_cl8, z_cv9, z_cl9, z_cv10, z_cl10, z_cv11, z_cl11, z_cv12, z_cl12, z_cv13, z_cl13, z_len, z_elt, z_isI, z_isJ, Nat.reduceEqDiff, Nat.reduceLeDiff, Nat.reduceLT, Nat.reduceSub, Nat.reduceMul, not_false_eq_true, not_true_eq_false, true_and, and_true, true_or, or_true, false_or, or_false, true_implies, false_implies, implies_true, forall_const, and_self, ne_eq, Classical.not_not, z_up1, z_up2, z_cp1, z_cp2, z_upL1, z_upL2, if_true, if_false, and_false, false_and]) | (with_reducible refine And.intro ?_ ?_) | (with_reducible intro _))
  refine z_loop (fun i => z_run (z_nop k_X0_raised) (z_call h) K 4 [.inr (.inl a), z_un, .inl (nI k), .inr (.inl (r_raised a i)), z_un, .inl (nI i)] [] M) k ?_ ?_ 0 (by omega)
  · have f1 : (nI k ≥ nI k) = True := eq_true (Int32.le_refl _)
    refine z_go (cut := [4]) 17 ?_
    simp only [z_wp, Bool.false_eq_true, ↓reduceIte, z_e10, z_e01, eq_self, Int32.reduceLT, Int32.reduceLE, Int32.reduceGT, Int32.reduceGE, z_in, cond_true, cond_false, Nat.reduceAdd, Nat.reduceBEq, z_nth, z_set, z_clr, z_st1, z_st2, z_isL, z_opt, z_pop, z_cats, z_cat, c_X0_raised_0, c_X0_raised_1, c_X0_raised_2, c_X0_raised_3, c_X0_raised_4, c_X0_raised_5, c_X0_raised_6, c_X0_raised_7, c_X0_raised_8, c_X0_raised_9, c_X0_raised_10, c_X0_raised_11, c_X0_raised_12, c_X0_raised_13, c_X0_raised_14, o_goto, o_ic, o_icmp, o_iinc, o_iload, o_istore, o_lbin, o_lc, o_lload, o_lret, o_lstore, z_cv0, z_cl0, z_cv1, z_cl1, z_cv2, z_cl2, z_cv3, z_cl3, z_cv4, z_cl4, z_cv5, z_cl5, z_cv6, z_cl6, z_cv7, z_cl7, z_cv8, z_cl8, z_cv9, z_cl9, z_cv10, z_cl10, z_cv11, z_cl11, z_cv12, z_cl12, z_cv13, z_cl13, z_len, z_elt, z_isI, z_isJ, Nat.reduceEqDiff, Nat.reduceLeDiff, Nat.reduceLT, Nat.reduceSub, Nat.reduceMul, not_false_eq_true, not_true_eq_false, true_and, and_true, true_or, or_true, false_or, or_false, true_implies, false_implies, implies_true, forall_const, and_self, ne_eq, Classical.not_not, z_up1, z_up2, z_cp1, z_cp2, z_upL1, z_upL2, if_true, if_false, and_false, false_and, f1]
    exact q
  · intro i hi ih
    have f1 : (nI i ≥ nI k) = False := eq_false (nI_ge hi (by omega))
    have f3 : nI i + 1 = nI (i + 1) := nI_1 i
    refine z_go (cut := [4]) 40 ?_
    simp only [z_wp, Bool.false_eq_true, ↓reduceIte, z_e10, z_e01, eq_self, Int32.reduceLT, Int32.reduceLE, Int32.reduceGT, Int32.reduceGE, z_in, cond_true, cond_false, Nat.reduceAdd, Nat.reduceBEq, z_nth, z_set, z_clr, z_st1, z_st2, z_isL, z_opt, z_pop, z_cats, z_cat, c_X0_raised_0, c_X0_raised_1, c_X0_raised_2, c_X0_raised_3, c_X0_raised_4, c_X0_raised_5, c_X0_raised_6, c_X0_raised_7, c_X0_raised_8, c_X0_raised_9, c_X0_raised_10, c_X0_raised_11, c_X0_raised_12, c_X0_raised_13, c_X0_raised_14, o_goto, o_ic, o_icmp, o_iinc, o_iload, o_istore, o_lbin, o_lc, o_lload, o_lret, o_lstore, z_cv0, z_cl0, z_cv1, z_cl1, z_cv2, z_cl2, z_cv3, z_cl3, z_cv4, z_cl4, z_cv5, z_cl5, z_cv6, z_cl6, z_cv7, z_cl7, z_cv8, z_cl8, z_cv9, z_cl9, z_cv10, z_cl10, z_cv11, z_cl11, z_cv12, z_cl12, z_cv13, z_cl13, z_len, z_elt, z_isI, z_isJ, Nat.reduceEqDiff, Nat.reduceLeDiff, Nat.reduceLT, Nat.reduceSub, Nat.reduceMul, not_false_eq_true, not_true_eq_false, true_and, and_true, true_or, or_true, false_or, or_false, true_implies, false_implies, implies_true, forall_const, and_self, ne_eq, Classical.not_not, z_up1, z_up2, z_cp1, z_cp2, z_upL1, z_upL2, if_true, if_false, and_false, false_and, f1, f3]
    exact ih
set_option maxRecDepth 100000 in
theorem s_raised {h : Nat} {M : zMem} {a : Int64} {x : Int32} {K : zK} (hx : x < 1000) (q : K (some (.inr (.inl (r_raised a x.toNatClampNeg)))) M) : z_call (h + 1) 4 [.inr (.inl a), .inl x] M K := by
  by_cases h0 : x < 0
  · have e : x.toNatClampNeg = 0 := by
      have h1 := Int32.lt_iff_toInt_lt.mp h0
      have h2 : (0 : Int32).toInt = 0 := rfl
      rw [h2] at h1
      show x.toInt.toNat = 0
      omega
    rw [e] at q
    have f1 : (0 ≥ x) = True := eq_true (Int32.le_of_lt h0)
    refine e_X0_raised  ?_
    refine z_wp_run (cut := [4]) 17 _ _ _ _ ?_
    repeat' (first | (simp only [z_wp, Bool.false_eq_true, ↓reduceIte, z_e10, z_e01, eq_self, Int32.reduceLT, Int32.reduceLE, Int32.reduceGT, Int32.reduceGE, z_in, cond_true, cond_false, Nat.reduceAdd, Nat.reduceBEq, z_nth, z_set, z_clr, z_st1, z_st2, z_isL, z_opt, z_pop, z_cats, z_cat, c_X0_raised_0, c_X0_raised_1, c_X0_raised_2, c_X0_raised_3, c_X0_raised_4, c_X0_raised_5, c_X0_raised_6, c_X0_raised_7, c_X0_raised_8, c_X0_raised_9, c_X0_raised_10, c_X0_raised_11, c_X0_raised_12, c_X0_raised_13, c_X0_raised_14, o_goto, o_ic, o_icmp, o_iinc, o_iload, o_istore, o_lbin, o_lc, o_lload, o_lret, o_lstore, z_cv0, z_cl0, z_cv1, z_cl1, z_cv2, z_cl2, z_cv3, z_cl3, z_cv4, z_cl4, z_cv5, z_cl5, z_cv6, z_cl6, z_cv7, z_cl7, z_cv8, z_cl8, z_cv9, z_cl9, z_cv10, z_cl10, z_cv11, z_cl11, z_cv12, z_cl12, z_cv13, z_cl13, z_len, z_elt, z_isI, z_isJ, Nat.reduceEqDiff, Nat.reduceLeDiff, Nat.reduceLT, Nat.reduceSub, Nat.reduceMul, not_false_eq_true, not_true_eq_false, true_and, and_true, true_or, or_true, false_or, or_false, true_implies, false_implies, implies_true, forall_const, and_self, ne_eq, Classical.not_not, z_up1, z_up2, z_cp1, z_cp2, z_upL1, z_upL2, if_true, if_false, and_false, false_and]) | (with_reducible refine And.intro ?_ ?_) | (with_reducible intro _))
    refine z_go (cut := [4]) 17 ?_
    simp only [z_wp, Bool.false_eq_true, ↓reduceIte, z_e10, z_e01, eq_self, Int32.reduceLT, Int32.reduceLE, Int32.reduceGT, Int32.reduceGE, z_in, cond_true, cond_false, Nat.reduceAdd, Nat.reduceBEq, z_nth, z_set, z_clr, z_st1, z_st2, z_isL, z_opt, z_pop, z_cats, z_cat, c_X0_raised_0, c_X0_raised_1, c_X0_raised_2, c_X0_raised_3, c_X0_raised_4, c_X0_raised_5, c_X0_raised_6, c_X0_raised_7, c_X0_raised_8, c_X0_raised_9, c_X0_raised_10, c_X0_raised_11, c_X0_raised_12, c_X0_raised_13, c_X0_raised_14, o_goto, o_ic, o_icmp, o_iinc, o_iload, o_istore, o_lbin, o_lc, o_lload, o_lret, o_lstore, z_cv0, z_cl0, z_cv1, z_cl1, z_cv2, z_cl2, z_cv3, z_cl3, z_cv4, z_cl4, z_cv5, z_cl5, z_cv6, z_cl6, z_cv7, z_cl7, z_cv8, z_cl8, z_cv9, z_cl9, z_cv10, z_cl10, z_cv11, z_cl11, z_cv12, z_cl12, z_cv13, z_cl13, z_len, z_elt, z_isI, z_isJ, Nat.reduceEqDiff, Nat.reduceLeDiff, Nat.reduceLT, Nat.reduceSub, Nat.reduceMul, not_false_eq_true, not_true_eq_false, true_and, and_true, true_or, or_true, false_or, or_false, true_implies, false_implies, implies_true, forall_const, and_self, ne_eq, Classical.not_not, z_up1, z_up2, z_cp1, z_cp2, z_upL1, z_upL2, if_true, if_false, and_false, false_and, f1]
    exact q
  · obtain ⟨g1, g2⟩ := z_nnat h0
    have h3 : x.toNatClampNeg < 1000 := by
      rw [g1] at hx
      have h4 : nI x.toNatClampNeg < nI 1000 := hx
      exact (nI_ltI g2 (by decide)).mp h4
    have h5 := s_raised0 (h := h) h3 q
    rw [← g1] at h5
    exact h5
def r_hopeAbove (n s : Int32) : Int64 := n.toInt64 * r_raised (s - 1).toInt64 (n - 1).toNatClampNeg
set_option maxRecDepth 100000 in
theorem s_hopeAbove {h : Nat} {M : zMem} {n s : Int32} {K : zK} (hn : n - 1 < 1000) (q : K (some (.inr (.inl (r_hopeAbove n s)))) M) : z_call (h + 2) 7 [.inl n, .inl s] M K := by
  refine e_X0_hopeAbove  ?_
  refine z_wp_run (cut := [10]) 14 _ _ _ _ ?_
  repeat' (first | (simp only [z_wp, Bool.false_eq_true, ↓reduceIte, z_e10, z_e01, eq_self, Int32.reduceLT, Int32.reduceLE, Int32.reduceGT, Int32.reduceGE, z_in, cond_true, cond_false, Nat.reduceAdd, Nat.reduceBEq, z_nth, z_set, z_clr, z_st1, z_st2, z_isL, z_opt, z_pop, z_cats, z_cat, c_X0_hopeAbove_0, c_X0_hopeAbove_1, c_X0_hopeAbove_2, c_X0_hopeAbove_3, c_X0_hopeAbove_4, c_X0_hopeAbove_5, c_X0_hopeAbove_6, c_X0_hopeAbove_7, c_X0_hopeAbove_8, c_X0_hopeAbove_9, c_X0_hopeAbove_10, c_X0_hopeAbove_11, o_bin, o_call, o_i2l, o_ic, o_iload, o_lbin, o_lret, z_cv0, z_cl0, z_cv1, z_cl1, z_cv2, z_cl2, z_cv3, z_cl3, z_cv4, z_cl4, z_cv5, z_cl5, z_cv6, z_cl6, z_cv7, z_cl7, z_cv8, z_cl8, z_cv9, z_cl9, z_cv10, z_cl10, z_cv11, z_cl11, z_cv12, z_cl12, z_cv13, z_cl13, z_len, z_elt, z_isI, z_isJ, Nat.reduceEqDiff, Nat.reduceLeDiff, Nat.reduceLT, Nat.reduceSub, Nat.reduceMul, not_false_eq_true, not_true_eq_false, true_and, and_true, true_or, or_true, false_or, or_false, true_implies, false_implies, implies_true, forall_const, and_self, ne_eq, Classical.not_not, z_up1, z_up2, z_cp1, z_cp2, z_upL1, z_upL2, if_true, if_false, and_false, false_and]) | (refine (s_raised hn) ?_) | (with_reducible refine And.intro ?_ ?_) | (with_reducible intro _) | (with_reducible refine z_go (i := 10) (cut := [10]) 14 ?_))
  all_goals (first | (with_reducible exact q) | ((try simp only [ge_iff_le, gt_iff_lt, ← Int32.not_lt, Classical.not_not] at *); (first | (with_reducible rfl) | rfl | (with_reducible exact z_vi_24 (by assumption) (by assumption)) | (with_reducible exact z_vi_4 (by assumption) (by assumption)) | (with_reducible exact z_vi_512 (by assumption) (by assumption)) | (with_reducible exact z_vi_14 (by assumption) (by assumption)) | (with_reducible exact z_vi_8 (by assumption) (by assumption)) | (with_reducible exact z_vinN (by assumption) (by assumption) (by decide)) | (with_reducible exact z_vin1 (by assumption) (by assumption) (by decide)) | ((try simp only [r_hopeAbove] at q); (try simp only [ge_iff_le, gt_iff_lt, ← Int32.not_lt, Classical.not_not] at q); (try simp only [*, if_true, if_false, ite_self, true_or, or_true, false_or, or_false, true_and, and_true, false_and, and_false, not_true_eq_false, not_false_eq_true, cond_true, cond_false, decide_true, decide_false, Bool.true_and, Bool.and_true, Bool.false_and, Bool.and_false, Bool.true_or, Bool.or_true, Bool.false_or, Bool.or_false, Bool.not_true, Bool.not_false, ne_eq, Nat.reduceEqDiff] at q); with_reducible exact q))) | (simp_all [r_hopeAbove]; done))
def r_hopeIn (n s : Int32) : Int64 := r_hopeAbove n (1 <<< (s &&& 31)) * r_raised ((1 : Int32) <<< ((4 - s) &&& 31)).toInt64 n.toNatClampNeg
set_option maxRecDepth 100000 in
theorem s_hopeIn {h : Nat} {M : zMem} {n s : Int32} {K : zK} (hn : n - 1 < 1000) (hn2 : n < 1000) (q : K (some (.inr (.inl (r_hopeIn n s)))) M) : z_call (h + 3) 10 [.inl n, .inl s] M K := by
  refine e_X0_hopeInSixteenths  ?_
  refine z_wp_run (cut := [5, 13]) 17 _ _ _ _ ?_
  repeat' (first | (simp only [z_wp, Bool.false_eq_true, ↓reduceIte, z_e10, z_e01, eq_self, Int32.reduceLT, Int32.reduceLE, Int32.reduceGT, Int32.reduceGE, z_in, cond_true, cond_false, Nat.reduceAdd, Nat.reduceBEq, z_nth, z_set, z_clr, z_st1, z_st2, z_isL, z_opt, z_pop, z_cats, z_cat, c_X0_hopeInSixteenths_0, c_X0_hopeInSixteenths_1, c_X0_hopeInSixteenths_2, c_X0_hopeInSixteenths_3, c_X0_hopeInSixteenths_4, c_X0_hopeInSixteenths_5, c_X0_hopeInSixteenths_6, c_X0_hopeInSixteenths_7, c_X0_hopeInSixteenths_8, c_X0_hopeInSixteenths_9, c_X0_hopeInSixteenths_10, c_X0_hopeInSixteenths_11, c_X0_hopeInSixteenths_12, c_X0_hopeInSixteenths_13, c_X0_hopeInSixteenths_14, o_bin, o_call, o_i2l, o_ic, o_iload, o_lbin, o_lret, z_cv0, z_cl0, z_cv1, z_cl1, z_cv2, z_cl2, z_cv3, z_cl3, z_cv4, z_cl4, z_cv5, z_cl5, z_cv6, z_cl6, z_cv7, z_cl7, z_cv8, z_cl8, z_cv9, z_cl9, z_cv10, z_cl10, z_cv11, z_cl11, z_cv12, z_cl12, z_cv13, z_cl13, z_len, z_elt, z_isI, z_isJ, Nat.reduceEqDiff, Nat.reduceLeDiff, Nat.reduceLT, Nat.reduceSub, Nat.reduceMul, not_false_eq_true, not_true_eq_false, true_and, and_true, true_or, or_true, false_or, or_false, true_implies, false_implies, implies_true, forall_const, and_self, ne_eq, Classical.not_not, z_up1, z_up2, z_cp1, z_cp2, z_upL1, z_upL2, if_true, if_false, and_false, false_and]) | (refine (s_hopeAbove hn) ?_) | (refine (s_raised hn2) ?_) | (with_reducible refine And.intro ?_ ?_) | (with_reducible intro _) | (with_reducible refine z_go (i := 5) (cut := [5, 13]) 17 ?_) | (with_reducible refine z_go (i := 13) (cut := [5, 13]) 17 ?_))
  all_goals (first | (with_reducible exact q) | ((try simp only [ge_iff_le, gt_iff_lt, ← Int32.not_lt, Classical.not_not] at *); (first | (with_reducible rfl) | rfl | (with_reducible exact z_vi_24 (by assumption) (by assumption)) | (with_reducible exact z_vi_4 (by assumption) (by assumption)) | (with_reducible exact z_vi_512 (by assumption) (by assumption)) | (with_reducible exact z_vi_14 (by assumption) (by assumption)) | (with_reducible exact z_vi_8 (by assumption) (by assumption)) | (with_reducible exact z_vinN (by assumption) (by assumption) (by decide)) | (with_reducible exact z_vin1 (by assumption) (by assumption) (by decide)) | ((try simp only [r_hopeIn] at q); (try simp only [ge_iff_le, gt_iff_lt, ← Int32.not_lt, Classical.not_not] at q); (try simp only [*, if_true, if_false, ite_self, true_or, or_true, false_or, or_false, true_and, and_true, false_and, and_false, not_true_eq_false, not_false_eq_true, cond_true, cond_false, decide_true, decide_false, Bool.true_and, Bool.and_true, Bool.false_and, Bool.and_false, Bool.true_or, Bool.or_true, Bool.false_or, Bool.or_false, Bool.not_true, Bool.not_false, ne_eq, Nat.reduceEqDiff] at q); with_reducible exact q))) | (simp_all [r_hopeIn]; done))
theorem z_shl1 : ∀ q, q ≤ 4 → (1 : Int32) <<< (nI q &&& 31) = nI (2 ^ q) := by decide
theorem z_pow4 {q : Nat} (h : q ≤ 4) : 2 ^ q ≤ 16 := by
  rcases (show q = 0 ∨ q = 1 ∨ q = 2 ∨ q = 3 ∨ q = 4 by omega) with rfl | rfl | rfl | rfl | rfl <;> decide
theorem z_known {n q : Nat} (hn : n ≤ 12) (hq : q ≤ 4) : r_isKnown (nI n) (nI q) = 1 := by
  unfold r_isKnown
  exact if_pos ⟨nI_pos (by omega), nI_nlt (a := 12) (b := n) hn (by decide), nI_pos (by omega), nI_nlt (a := 4) (b := q) hq (by decide)⟩
def r_waysOf (M : zMem) (n q s : Nat) : Int64 := if s ≤ 2 ^ q then r_choose (nI (2 ^ q)) s * r_inRow (nI n) s * M.2 45 ((2 ^ q - s) * 13 + (n - s)) else 0
set_option maxRecDepth 100000 in
theorem s_waysOf {h n q s : Nat} {M : zMem} {K : zK} (hn : n ≤ 12) (hq : q ≤ 4) (hs : s ≤ n) (q0 : K (some (.inr (.inl (r_waysOf M n q s)))) M) : z_call (h + 2) 6 [.inr (.inr (1, 0, 0)), .inl (nI n), .inl (nI q), .inl (nI s)] M K := by
  have hp := z_pow4 hq
  have e1 := z_known hn hq
  have e2 : (nI s < 0) = False := eq_false (nI_pos (by omega))
  have e3 : (nI s ≤ nI n) = True := eq_true (nI_le hs (by omega))
  have e4 := z_shl1 q hq
  unfold r_waysOf at q0
  by_cases c : s ≤ 2 ^ q
  · rw [if_pos c] at q0
    have e5 : (nI s ≤ nI (2 ^ q)) = True := eq_true (nI_le c (by omega))
    have e6 : r_cell (nI (2 ^ q) - nI s) (nI n - nI s) = nI ((2 ^ q - s) * 13 + (n - s)) := by
      unfold r_cell
      rw [pk_sub c, pk_sub hs]
      show nI (2 ^ q - s) * nI 13 + nI (n - s) = _
      rw [pk_mul, nI_add]
    have e7 : vp_in (nI ((2 ^ q - s) * 13 + (n - s))) 221 := vp_in_nI (by omega) (by decide)
    have e8 : (nI ((2 ^ q - s) * 13 + (n - s))).toNatClampNeg = (2 ^ q - s) * 13 + (n - s) := nI_clamp (by omega)
    refine e_X0_waysOf rfl ?_
    refine z_wp_run (cut := [3, 23, 26, 36]) 41 _ _ _ _ ?_
    repeat' (first | (simp only [z_wp, Bool.false_eq_true, ↓reduceIte, z_e10, z_e01, eq_self, Int32.reduceLT, Int32.reduceLE, Int32.reduceGT, Int32.reduceGE, z_in, cond_true, cond_false, Nat.reduceAdd, Nat.reduceBEq, z_nth, z_set, z_clr, z_st1, z_st2, z_isL, z_opt, z_pop, z_cats, z_cat, c_X0_waysOf_0, c_X0_waysOf_1, c_X0_waysOf_2, c_X0_waysOf_3, c_X0_waysOf_4, c_X0_waysOf_5, c_X0_waysOf_6, c_X0_waysOf_7, c_X0_waysOf_8, c_X0_waysOf_9, c_X0_waysOf_10, c_X0_waysOf_11, c_X0_waysOf_12, c_X0_waysOf_13, c_X0_waysOf_14, c_X0_waysOf_15, c_X0_waysOf_16, c_X0_waysOf_17, c_X0_waysOf_18, c_X0_waysOf_19, c_X0_waysOf_20, c_X0_waysOf_21, c_X0_waysOf_22, c_X0_waysOf_23, c_X0_waysOf_24, c_X0_waysOf_25, c_X0_waysOf_26, c_X0_waysOf_27, c_X0_waysOf_28, c_X0_waysOf_29, c_X0_waysOf_30, c_X0_waysOf_31, c_X0_waysOf_32, c_X0_waysOf_33, c_X0_waysOf_34, c_X0_waysOf_35, c_X0_waysOf_36, c_X0_waysOf_37, c_X0_waysOf_38, o_aload, o_bin, o_call, o_getr, o_ic, o_icmp, o_if, o_iload, o_istore, o_lald, o_lbin, o_lc, o_lret, z_cv0, z_cl0, z_cv1, z_cl1, z_cv2, z_cl2, z_cv3, z_cl3, z_cv4, z_cl4, z_cv5, z_cl5, z_cv6, z_cl6, z_cv7, z_cl7, z_cv8, z_cl8, z_cv9, z_cl9, z_cv10, z_cl10, z_cv11, z_cl11, z_cv12, z_cl12, z_cv13, z_cl13, z_len, z_elt, z_isI, z_isJ, Nat.reduceEqDiff, Nat.reduceLeDiff, Nat.reduceLT, Nat.reduceSub, Nat.reduceMul, not_false_eq_true, not_true_eq_false, true_and, and_true, true_or, or_true, false_or, or_false, true_implies, false_implies, implies_true, forall_const, and_self, ne_eq, Classical.not_not, z_up1, z_up2, z_cp1, z_cp2, z_upL1, z_upL2, if_true, if_false, and_false, false_and, e1, e2, e3, e4, e5, e6, e7, e8]) | (refine s_isKnown ?_) | (refine (s_choose (show s < 1000 by omega)) ?_) | (refine (s_inRow (show s < 1000 by omega)) ?_) | (refine s_cell ?_) | (with_reducible refine And.intro ?_ ?_) | (with_reducible intro _) | (with_reducible refine z_go (i := 3) (cut := [3, 23, 26, 36]) 41 ?_) | (with_reducible refine z_go (i := 23) (cut := [3, 23, 26, 36]) 41 ?_) | (with_reducible refine z_go (i := 26) (cut := [3, 23, 26, 36]) 41 ?_) | (with_reducible refine z_go (i := 36) (cut := [3, 23, 26, 36]) 41 ?_))
    all_goals (exact q0)
  · rw [if_neg c] at q0
    have e5 : (nI s ≤ nI (2 ^ q)) = False := eq_false (fun z => c ((nI_leI (by omega) (by omega)).mp z))
    refine e_X0_waysOf rfl ?_
    refine z_wp_run (cut := [3, 23, 26, 36]) 41 _ _ _ _ ?_
    repeat' (first | (simp only [z_wp, Bool.false_eq_true, ↓reduceIte, z_e10, z_e01, eq_self, Int32.reduceLT, Int32.reduceLE, Int32.reduceGT, Int32.reduceGE, z_in, cond_true, cond_false, Nat.reduceAdd, Nat.reduceBEq, z_nth, z_set, z_clr, z_st1, z_st2, z_isL, z_opt, z_pop, z_cats, z_cat, c_X0_waysOf_0, c_X0_waysOf_1, c_X0_waysOf_2, c_X0_waysOf_3, c_X0_waysOf_4, c_X0_waysOf_5, c_X0_waysOf_6, c_X0_waysOf_7, c_X0_waysOf_8, c_X0_waysOf_9, c_X0_waysOf_10, c_X0_waysOf_11, c_X0_waysOf_12, c_X0_waysOf_13, c_X0_waysOf_14, c_X0_waysOf_15, c_X0_waysOf_16, c_X0_waysOf_17, c_X0_waysOf_18, c_X0_waysOf_19, c_X0_waysOf_20, c_X0_waysOf_21, c_X0_waysOf_22, c_X0_waysOf_23, c_X0_waysOf_24, c_X0_waysOf_25, c_X0_waysOf_26, c_X0_waysOf_27, c_X0_waysOf_28, c_X0_waysOf_29, c_X0_waysOf_30, c_X0_waysOf_31, c_X0_waysOf_32, c_X0_waysOf_33, c_X0_waysOf_34, c_X0_waysOf_35, c_X0_waysOf_36, c_X0_waysOf_37, c_X0_waysOf_38, o_aload, o_bin, o_call, o_getr, o_ic, o_icmp, o_if, o_iload, o_istore, o_lald, o_lbin, o_lc, o_lret, z_cv0, z_cl0, z_cv1, z_cl1, z_cv2, z_cl2, z_cv3, z_cl3, z_cv4, z_cl4, z_cv5, z_cl5, z_cv6, z_cl6, z_cv7, z_cl7, z_cv8, z_cl8, z_cv9, z_cl9, z_cv10, z_cl10, z_cv11, z_cl11, z_cv12, z_cl12, z_cv13, z_cl13, z_len, z_elt, z_isI, z_isJ, Nat.reduceEqDiff, Nat.reduceLeDiff, Nat.reduceLT, Nat.reduceSub, Nat.reduceMul, not_false_eq_true, not_true_eq_false, true_and, and_true, true_or, or_true, false_or, or_false, true_implies, false_implies, implies_true, forall_const, and_self, ne_eq, Classical.not_not, z_up1, z_up2, z_cp1, z_cp2, z_upL1, z_upL2, if_true, if_false, and_false, false_and, e1, e2, e3, e4, e5]) | (refine s_isKnown ?_) | (with_reducible refine And.intro ?_ ?_) | (with_reducible intro _) | (with_reducible refine z_go (i := 3) (cut := [3, 23, 26, 36]) 41 ?_) | (with_reducible refine z_go (i := 23) (cut := [3, 23, 26, 36]) 41 ?_) | (with_reducible refine z_go (i := 26) (cut := [3, 23, 26, 36]) 41 ?_) | (with_reducible refine z_go (i := 36) (cut := [3, 23, 26, 36]) 41 ?_))
    all_goals (exact q0)
set_option maxRecDepth 100000 in
theorem s_waysOf0 {h : Nat} {M : zMem} {n q s : Int32} {K : zK} (hb : r_isKnown n q = 0 ∨ s < 0 ∨ ¬ s ≤ n) (q0 : K (some (.inr (.inl (-1)))) M) : z_call (h + 2) 6 [.inr (.inr (1, 0, 0)), .inl n, .inl q, .inl s] M K := by
  rcases hb with c | c | c
  · refine e_X0_waysOf rfl ?_
    refine z_wp_run (cut := [3, 23, 26, 36]) 41 _ _ _ _ ?_
    repeat' (first | (simp only [z_wp, Bool.false_eq_true, ↓reduceIte, z_e10, z_e01, eq_self, Int32.reduceLT, Int32.reduceLE, Int32.reduceGT, Int32.reduceGE, z_in, cond_true, cond_false, Nat.reduceAdd, Nat.reduceBEq, z_nth, z_set, z_clr, z_st1, z_st2, z_isL, z_opt, z_pop, z_cats, z_cat, c_X0_waysOf_0, c_X0_waysOf_1, c_X0_waysOf_2, c_X0_waysOf_3, c_X0_waysOf_4, c_X0_waysOf_5, c_X0_waysOf_6, c_X0_waysOf_7, c_X0_waysOf_8, c_X0_waysOf_9, c_X0_waysOf_10, c_X0_waysOf_11, c_X0_waysOf_12, c_X0_waysOf_13, c_X0_waysOf_14, c_X0_waysOf_15, c_X0_waysOf_16, c_X0_waysOf_17, c_X0_waysOf_18, c_X0_waysOf_19, c_X0_waysOf_20, c_X0_waysOf_21, c_X0_waysOf_22, c_X0_waysOf_23, c_X0_waysOf_24, c_X0_waysOf_25, c_X0_waysOf_26, c_X0_waysOf_27, c_X0_waysOf_28, c_X0_waysOf_29, c_X0_waysOf_30, c_X0_waysOf_31, c_X0_waysOf_32, c_X0_waysOf_33, c_X0_waysOf_34, c_X0_waysOf_35, c_X0_waysOf_36, c_X0_waysOf_37, c_X0_waysOf_38, o_aload, o_bin, o_call, o_getr, o_ic, o_icmp, o_if, o_iload, o_istore, o_lald, o_lbin, o_lc, o_lret, z_cv0, z_cl0, z_cv1, z_cl1, z_cv2, z_cl2, z_cv3, z_cl3, z_cv4, z_cl4, z_cv5, z_cl5, z_cv6, z_cl6, z_cv7, z_cl7, z_cv8, z_cl8, z_cv9, z_cl9, z_cv10, z_cl10, z_cv11, z_cl11, z_cv12, z_cl12, z_cv13, z_cl13, z_len, z_elt, z_isI, z_isJ, Nat.reduceEqDiff, Nat.reduceLeDiff, Nat.reduceLT, Nat.reduceSub, Nat.reduceMul, not_false_eq_true, not_true_eq_false, true_and, and_true, true_or, or_true, false_or, or_false, true_implies, false_implies, implies_true, forall_const, and_self, ne_eq, Classical.not_not, z_up1, z_up2, z_cp1, z_cp2, z_upL1, z_upL2, if_true, if_false, and_false, false_and, c]) | (refine s_isKnown ?_) | (with_reducible refine And.intro ?_ ?_) | (with_reducible intro _) | (with_reducible refine z_go (i := 3) (cut := [3, 23, 26, 36]) 41 ?_) | (with_reducible refine z_go (i := 23) (cut := [3, 23, 26, 36]) 41 ?_) | (with_reducible refine z_go (i := 26) (cut := [3, 23, 26, 36]) 41 ?_) | (with_reducible refine z_go (i := 36) (cut := [3, 23, 26, 36]) 41 ?_))
    all_goals (exact q0)
  · refine e_X0_waysOf rfl ?_
    refine z_wp_run (cut := [3, 23, 26, 36]) 41 _ _ _ _ ?_
    repeat' (first | (simp only [z_wp, Bool.false_eq_true, ↓reduceIte, z_e10, z_e01, eq_self, Int32.reduceLT, Int32.reduceLE, Int32.reduceGT, Int32.reduceGE, z_in, cond_true, cond_false, Nat.reduceAdd, Nat.reduceBEq, z_nth, z_set, z_clr, z_st1, z_st2, z_isL, z_opt, z_pop, z_cats, z_cat, c_X0_waysOf_0, c_X0_waysOf_1, c_X0_waysOf_2, c_X0_waysOf_3, c_X0_waysOf_4, c_X0_waysOf_5, c_X0_waysOf_6, c_X0_waysOf_7, c_X0_waysOf_8, c_X0_waysOf_9, c_X0_waysOf_10, c_X0_waysOf_11, c_X0_waysOf_12, c_X0_waysOf_13, c_X0_waysOf_14, c_X0_waysOf_15, c_X0_waysOf_16, c_X0_waysOf_17, c_X0_waysOf_18, c_X0_waysOf_19, c_X0_waysOf_20, c_X0_waysOf_21, c_X0_waysOf_22, c_X0_waysOf_23, c_X0_waysOf_24, c_X0_waysOf_25, c_X0_waysOf_26, c_X0_waysOf_27, c_X0_waysOf_28, c_X0_waysOf_29, c_X0_waysOf_30, c_X0_waysOf_31, c_X0_waysOf_32, c_X0_waysOf_33, c_X0_waysOf_34, c_X0_waysOf_35, c_X0_waysOf_36, c_X0_waysOf_37, c_X0_waysOf_38, o_aload, o_bin, o_call, o_getr, o_ic, o_icmp, o_if, o_iload, o_istore, o_lald, o_lbin, o_lc, o_lret, z_cv0, z_cl0, z_cv1, z_cl1, z_cv2, z_cl2, z_cv3, z_cl3, z_cv4, z_cl4, z_cv5, z_cl5, z_cv6, z_cl6, z_cv7, z_cl7, z_cv8, z_cl8, z_cv9, z_cl9, z_cv10, z_cl10, z_cv11, z_cl11, z_cv12, z_cl12, z_cv13, z_cl13, z_len, z_elt, z_isI, z_isJ, Nat.reduceEqDiff, Nat.reduceLeDiff, Nat.reduceLT, Nat.reduceSub, Nat.reduceMul, not_false_eq_true, not_true_eq_false, true_and, and_true, true_or, or_true, false_or, or_false, true_implies, false_implies, implies_true, forall_const, and_self, ne_eq, Classical.not_not, z_up1, z_up2, z_cp1, z_cp2, z_upL1, z_upL2, if_true, if_false, and_false, false_and, c]) | (refine s_isKnown ?_) | (with_reducible refine And.intro ?_ ?_) | (with_reducible intro _) | (with_reducible refine z_go (i := 3) (cut := [3, 23, 26, 36]) 41 ?_) | (with_reducible refine z_go (i := 23) (cut := [3, 23, 26, 36]) 41 ?_) | (with_reducible refine z_go (i := 26) (cut := [3, 23, 26, 36]) 41 ?_) | (with_reducible refine z_go (i := 36) (cut := [3, 23, 26, 36]) 41 ?_))
    all_goals (exact q0)
  · refine e_X0_waysOf rfl ?_
    refine z_wp_run (cut := [3, 23, 26, 36]) 41 _ _ _ _ ?_
    repeat' (first | (simp only [z_wp, Bool.false_eq_true, ↓reduceIte, z_e10, z_e01, eq_self, Int32.reduceLT, Int32.reduceLE, Int32.reduceGT, Int32.reduceGE, z_in, cond_true, cond_false, Nat.reduceAdd, Nat.reduceBEq, z_nth, z_set, z_clr, z_st1, z_st2, z_isL, z_opt, z_pop, z_cats, z_cat, c_X0_waysOf_0, c_X0_waysOf_1, c_X0_waysOf_2, c_X0_waysOf_3, c_X0_waysOf_4, c_X0_waysOf_5, c_X0_waysOf_6, c_X0_waysOf_7, c_X0_waysOf_8, c_X0_waysOf_9, c_X0_waysOf_10, c_X0_waysOf_11, c_X0_waysOf_12, c_X0_waysOf_13, c_X0_waysOf_14, c_X0_waysOf_15, c_X0_waysOf_16, c_X0_waysOf_17, c_X0_waysOf_18, c_X0_waysOf_19, c_X0_waysOf_20, c_X0_waysOf_21, c_X0_waysOf_22, c_X0_waysOf_23, c_X0_waysOf_24, c_X0_waysOf_25, c_X0_waysOf_26, c_X0_waysOf_27, c_X0_waysOf_28, c_X0_waysOf_29, c_X0_waysOf_30, c_X0_waysOf_31, c_X0_waysOf_32, c_X0_waysOf_33, c_X0_waysOf_34, c_X0_waysOf_35, c_X0_waysOf_36, c_X0_waysOf_37, c_X0_waysOf_38, o_aload, o_bin, o_call, o_getr, o_ic, o_icmp, o_if, o_iload, o_istore, o_lald, o_lbin, o_lc, o_lret, z_cv0, z_cl0, z_cv1, z_cl1, z_cv2, z_cl2, z_cv3, z_cl3, z_cv4, z_cl4, z_cv5, z_cl5, z_cv6, z_cl6, z_cv7, z_cl7, z_cv8, z_cl8, z_cv9, z_cl9, z_cv10, z_cl10, z_cv11, z_cl11, z_cv12, z_cl12, z_cv13, z_cl13, z_len, z_elt, z_isI, z_isJ, Nat.reduceEqDiff, Nat.reduceLeDiff, Nat.reduceLT, Nat.reduceSub, Nat.reduceMul, not_false_eq_true, not_true_eq_false, true_and, and_true, true_or, or_true, false_or, or_false, true_implies, false_implies, implies_true, forall_const, and_self, ne_eq, Classical.not_not, z_up1, z_up2, z_cp1, z_cp2, z_upL1, z_upL2, if_true, if_false, and_false, false_and, c]) | (refine s_isKnown ?_) | (with_reducible refine And.intro ?_ ?_) | (with_reducible intro _) | (with_reducible refine z_go (i := 3) (cut := [3, 23, 26, 36]) 41 ?_) | (with_reducible refine z_go (i := 23) (cut := [3, 23, 26, 36]) 41 ?_) | (with_reducible refine z_go (i := 26) (cut := [3, 23, 26, 36]) 41 ?_) | (with_reducible refine z_go (i := 36) (cut := [3, 23, 26, 36]) 41 ?_))
    all_goals (exact q0)
