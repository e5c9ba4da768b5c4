/-! Tally, Prefixes, Journal -/
theorem e_X7_clear {h : Nat} {a0 : zId} {M : zMem} {K : zK} (ha0 : (a0.1 == 99) = false) (q : z_run (z_nop k_X7_clear) (z_call h) K 0 [.inr (.inr a0)] [] M) : z_call (h + 1) 87 [.inr (.inr a0)] M K := ⟨by simp only [List.all_cons, List.all_nil, z_isU, ha0]; rfl, q⟩
theorem c_X7_clear_0 : z_nop k_X7_clear 0 = o_aload 0 := rfl
theorem c_X7_clear_1 : z_nop k_X7_clear 1 = o_ic 0 := rfl
theorem c_X7_clear_2 : z_nop k_X7_clear 2 = o_put 8 0 := rfl
theorem c_X7_clear_3 : z_nop k_X7_clear 3 = o_aload 0 := rfl
theorem c_X7_clear_4 : z_nop k_X7_clear 4 = o_ic 0 := rfl
theorem c_X7_clear_5 : z_nop k_X7_clear 5 = o_put 8 1 := rfl
theorem c_X7_clear_6 : z_nop k_X7_clear 6 = o_aload 0 := rfl
theorem c_X7_clear_7 : z_nop k_X7_clear 7 = o_ic 0 := rfl
theorem c_X7_clear_8 : z_nop k_X7_clear 8 = o_put 8 2 := rfl
theorem c_X7_clear_9 : z_nop k_X7_clear 9 = o_ret := rfl

def m_tallyClear (M : zMem) (w i : Nat) : zMem := z_up (z_up (z_up M 8 w i 0 0) 8 w i 1 0) 8 w i 2 0
set_option maxRecDepth 100000 in
theorem s_tallyClear {h w i : Nat} {M : zMem} {K : zK} (q : K none (m_tallyClear M w i)) : z_call (h + 1) 87 [.inr (.inr (8, w, i))] M K := by
  refine e_X7_clear rfl ?_
  refine z_wp_run (cut := []) 12 _ _ _ _ ?_
  repeat' (first | (simp only [z_wp, Bool.false_eq_true, ↓reduceIte, z_e10, z_e01, eq_self, Int32.reduceLT, Int32.reduceLE, Int32.reduceGT, Int32.reduceGE, z_in, cond_true, cond_false, Nat.reduceAdd, Nat.reduceBEq, z_nth, z_set, z_clr, z_st1, z_st2, z_isL, z_opt, z_pop, z_cats, z_cat, c_X7_clear_0, c_X7_clear_1, c_X7_clear_2, c_X7_clear_3, c_X7_clear_4, c_X7_clear_5, c_X7_clear_6, c_X7_clear_7, c_X7_clear_8, c_X7_clear_9, o_aload, o_ic, o_put, o_ret, z_cv0, z_cl0, z_cv1, z_cl1, z_cv2, z_cl2, z_cv3, z_cl3, z_cv4, z_cl4, z_cv5, z_cl5, z_cv6, z_cl6, z_cv7, z_cl7, z_cv8, z_cl8, z_cv9, z_cl9, z_cv10, z_cl10, z_cv11, z_cl11, z_cv12, z_cl12, z_cv13, z_cl13, z_len, z_elt, z_isI, z_isJ, Nat.reduceEqDiff, Nat.reduceLeDiff, Nat.reduceLT, Nat.reduceSub, Nat.reduceMul, not_false_eq_true, not_true_eq_false, true_and, and_true, true_or, or_true, false_or, or_false, true_implies, false_implies, implies_true, forall_const, and_self, ne_eq, Classical.not_not, z_up1, z_up2, z_cp1, z_cp2, z_upL1, z_upL2, if_true, if_false, and_false, false_and]) | (with_reducible refine And.intro ?_ ?_) | (with_reducible intro _))
  all_goals (first | (with_reducible exact q) | ((try simp only [ge_iff_le, gt_iff_lt, ← Int32.not_lt, Classical.not_not] at *); (first | (with_reducible rfl) | rfl | (with_reducible exact z_vi_24 (by assumption) (by assumption)) | (with_reducible exact z_vi_4 (by assumption) (by assumption)) | (with_reducible exact z_vi_512 (by assumption) (by assumption)) | (with_reducible exact z_vi_14 (by assumption) (by assumption)) | (with_reducible exact z_vi_8 (by assumption) (by assumption)) | (with_reducible exact z_vinN (by assumption) (by assumption) (by decide)) | (with_reducible exact z_vin1 (by assumption) (by assumption) (by decide)) | ((try simp only [m_tallyClear] at q); (try simp only [ge_iff_le, gt_iff_lt, ← Int32.not_lt, Classical.not_not] at q); (try simp only [*, if_true, if_false, ite_self, true_or, or_true, false_or, or_false, true_and, and_true, false_and, and_false, not_true_eq_false, not_false_eq_true, cond_true, cond_false, decide_true, decide_false, Bool.true_and, Bool.and_true, Bool.false_and, Bool.and_false, Bool.true_or, Bool.or_true, Bool.false_or, Bool.or_false, Bool.not_true, Bool.not_false, ne_eq, Nat.reduceEqDiff] at q); with_reducible exact q))) | (simp_all [m_tallyClear]; done))
theorem e_X7_add {h : Nat} {a0 : zId} {a1 : Int32} {M : zMem} {K : zK} (ha0 : (a0.1 == 99) = false) (q : z_run (z_nop k_X7_add) (z_call h) K 0 [.inr (.inr a0), .inl a1] [] M) : z_call (h + 1) 88 [.inr (.inr a0), .inl a1] M K := ⟨by simp only [List.all_cons, List.all_nil, z_isU, ha0]; rfl, q⟩
theorem c_X7_add_0 : z_nop k_X7_add 0 = o_iload 1 := rfl
theorem c_X7_add_1 : z_nop k_X7_add 1 = o_if (fun x => x ≠ 0) 9 := rfl
theorem c_X7_add_2 : z_nop k_X7_add 2 = o_aload 0 := rfl
theorem c_X7_add_3 : z_nop k_X7_add 3 = o_dup := rfl
theorem c_X7_add_4 : z_nop k_X7_add 4 = o_get 8 0 := rfl
theorem c_X7_add_5 : z_nop k_X7_add 5 = o_ic 1 := rfl
theorem c_X7_add_6 : z_nop k_X7_add 6 = o_bin (fun x y => x + y) := rfl
theorem c_X7_add_7 : z_nop k_X7_add 7 = o_put 8 0 := rfl
theorem c_X7_add_8 : z_nop k_X7_add 8 = o_goto 25 := rfl
theorem c_X7_add_9 : z_nop k_X7_add 9 = o_iload 1 := rfl
theorem c_X7_add_10 : z_nop k_X7_add 10 = o_ic 1 := rfl
theorem c_X7_add_11 : z_nop k_X7_add 11 = o_icmp (fun x y => x ≠ y) 19 := rfl
theorem c_X7_add_12 : z_nop k_X7_add 12 = o_aload 0 := rfl
theorem c_X7_add_13 : z_nop k_X7_add 13 = o_dup := rfl
theorem c_X7_add_14 : z_nop k_X7_add 14 = o_get 8 1 := rfl
theorem c_X7_add_15 : z_nop k_X7_add 15 = o_ic 1 := rfl
theorem c_X7_add_16 : z_nop k_X7_add 16 = o_bin (fun x y => x + y) := rfl
theorem c_X7_add_17 : z_nop k_X7_add 17 = o_put 8 1 := rfl
theorem c_X7_add_18 : z_nop k_X7_add 18 = o_goto 25 := rfl
theorem c_X7_add_19 : z_nop k_X7_add 19 = o_aload 0 := rfl
theorem c_X7_add_20 : z_nop k_X7_add 20 = o_dup := rfl
theorem c_X7_add_21 : z_nop k_X7_add 21 = o_get 8 2 := rfl
theorem c_X7_add_22 : z_nop k_X7_add 22 = o_ic 1 := rfl
theorem c_X7_add_23 : z_nop k_X7_add 23 = o_bin (fun x y => x + y) := rfl
theorem c_X7_add_24 : z_nop k_X7_add 24 = o_put 8 2 := rfl
theorem c_X7_add_25 : z_nop k_X7_add 25 = o_ret := rfl

def m_tallyAdd (M : zMem) (w i : Nat) (x : Int32) : zMem := if x = 0 then z_up M 8 w i 0 (M.1 8 w i 0 + 1) else if x = 1 then z_up M 8 w i 1 (M.1 8 w i 1 + 1) else z_up M 8 w i 2 (M.1 8 w i 2 + 1)
set_option maxRecDepth 100000 in
theorem s_tallyAdd {h w i : Nat} {M : zMem} {x : Int32} {K : zK} (q : K none (m_tallyAdd M w i x)) : z_call (h + 1) 88 [.inr (.inr (8, w, i)), .inl x] M K := by
  refine e_X7_add rfl ?_
  refine z_wp_run (cut := []) 28 _ _ _ _ ?_
  repeat' (first | (simp only [z_wp, Bool.false_eq_true, ↓reduceIte, z_e10, z_e01, eq_self, Int32.reduceLT, Int32.reduceLE, Int32.reduceGT, Int32.reduceGE, z_in, cond_true, cond_false, Nat.reduceAdd, Nat.reduceBEq, z_nth, z_set, z_clr, z_st1, z_st2, z_isL, z_opt, z_pop, z_cats, z_cat, c_X7_add_0, c_X7_add_1, c_X7_add_2, c_X7_add_3, c_X7_add_4, c_X7_add_5, c_X7_add_6, c_X7_add_7, c_X7_add_8, c_X7_add_9, c_X7_add_10, c_X7_add_11, c_X7_add_12, c_X7_add_13, c_X7_add_14, c_X7_add_15, c_X7_add_16, c_X7_add_17, c_X7_add_18, c_X7_add_19, c_X7_add_20, c_X7_add_21, c_X7_add_22, c_X7_add_23, c_X7_add_24, c_X7_add_25, o_aload, o_bin, o_dup, o_get, o_goto, o_ic, o_icmp, o_if, o_iload, o_put, o_ret, z_cv0, z_cl0, z_cv1, z_cl1, z_cv2, z_cl2, z_cv3, z_cl3, z_cv4, z_cl4, z_cv5, z_cl5, z_cv6, z_cl6, z_cv7, z_cl7, z_cv8, z_cl8, z_cv9, z_cl9, z_cv10, z_cl10, z_cv11, z_cl11, z_cv12, z_cl12, z_cv13, z_cl13, z_len, z_elt, z_isI, z_isJ, Nat.reduceEqDiff, Nat.reduceLeDiff, Nat.reduceLT, Nat.reduceSub, Nat.reduceMul, not_false_eq_true, not_true_eq_false, true_and, and_true, true_or, or_true, false_or, or_false, true_implies, false_implies, implies_true, forall_const, and_self, ne_eq, Classical.not_not, z_up1, z_up2, z_cp1, z_cp2, z_upL1, z_upL2, if_true, if_false, and_false, false_and]) | (with_reducible refine And.intro ?_ ?_) | (with_reducible intro _))
  all_goals (first | (with_reducible exact q) | ((try simp only [ge_iff_le, gt_iff_lt, ← Int32.not_lt, Classical.not_not] at *); (first | (with_reducible rfl) | rfl | (with_reducible exact z_vi_24 (by assumption) (by assumption)) | (with_reducible exact z_vi_4 (by assumption) (by assumption)) | (with_reducible exact z_vi_512 (by assumption) (by assumption)) | (with_reducible exact z_vi_14 (by assumption) (by assumption)) | (with_reducible exact z_vi_8 (by assumption) (by assumption)) | (with_reducible exact z_vinN (by assumption) (by assumption) (by decide)) | (with_reducible exact z_vin1 (by assumption) (by assumption) (by decide)) | ((try simp only [m_tallyAdd] at q); (try simp only [ge_iff_le, gt_iff_lt, ← Int32.not_lt, Classical.not_not] at q); (try simp only [*, if_true, if_false, ite_self, true_or, or_true, false_or, or_false, true_and, and_true, false_and, and_false, not_true_eq_false, not_false_eq_true, cond_true, cond_false, decide_true, decide_false, Bool.true_and, Bool.and_true, Bool.false_and, Bool.and_false, Bool.true_or, Bool.or_true, Bool.false_or, Bool.or_false, Bool.not_true, Bool.not_false, ne_eq, Nat.reduceEqDiff] at q); with_reducible exact q))) | (simp_all [m_tallyAdd]; done))
theorem e_X7_sum {h : Nat} {a0 : zId} {M : zMem} {K : zK} (ha0 : (a0.1 == 99) = false) (q : z_run (z_nop k_X7_sum) (z_call h) K 0 [.inr (.inr a0)] [] M) : z_call (h + 1) 89 [.inr (.inr a0)] M K := ⟨by simp only [List.all_cons, List.all_nil, z_isU, ha0]; rfl, q⟩
theorem c_X7_sum_0 : z_nop k_X7_sum 0 = o_aload 0 := rfl
theorem c_X7_sum_1 : z_nop k_X7_sum 1 = o_get 8 0 := rfl
theorem c_X7_sum_2 : z_nop k_X7_sum 2 = o_aload 0 := rfl
theorem c_X7_sum_3 : z_nop k_X7_sum 3 = o_get 8 1 := rfl
theorem c_X7_sum_4 : z_nop k_X7_sum 4 = o_bin (fun x y => x + y) := rfl
theorem c_X7_sum_5 : z_nop k_X7_sum 5 = o_aload 0 := rfl
theorem c_X7_sum_6 : z_nop k_X7_sum 6 = o_get 8 2 := rfl
theorem c_X7_sum_7 : z_nop k_X7_sum 7 = o_bin (fun x y => x + y) := rfl
theorem c_X7_sum_8 : z_nop k_X7_sum 8 = o_iret := rfl

def r_tallySum (M : zMem) (w i : Nat) : Int32 := M.1 8 w i 0 + M.1 8 w i 1 + M.1 8 w i 2
set_option maxRecDepth 100000 in
theorem s_tallySum {h w i : Nat} {M : zMem} {K : zK} (q : K (some (.inl (r_tallySum M w i))) M) : z_call (h + 1) 89 [.inr (.inr (8, w, i))] M K := by
  refine e_X7_sum rfl ?_
  refine z_wp_run (cut := []) 11 _ _ _ _ ?_
  repeat' (first | (simp only [z_wp, Bool.false_eq_true, ↓reduceIte, z_e10, z_e01, eq_self, Int32.reduceLT, Int32.reduceLE, Int32.reduceGT, Int32.reduceGE, z_in, cond_true, cond_false, Nat.reduceAdd, Nat.reduceBEq, z_nth, z_set, z_clr, z_st1, z_st2, z_isL, z_opt, z_pop, z_cats, z_cat, c_X7_sum_0, c_X7_sum_1, c_X7_sum_2, c_X7_sum_3, c_X7_sum_4, c_X7_sum_5, c_X7_sum_6, c_X7_sum_7, c_X7_sum_8, o_aload, o_bin, o_get, o_iret, z_cv0, z_cl0, z_cv1, z_cl1, z_cv2, z_cl2, z_cv3, z_cl3, z_cv4, z_cl4, z_cv5, z_cl5, z_cv6, z_cl6, z_cv7, z_cl7, z_cv8, z_cl8, z_cv9, z_cl9, z_cv10, z_cl10, z_cv11, z_cl11, z_cv12, z_cl12, z_cv13, z_cl13, z_len, z_elt, z_isI, z_isJ, Nat.reduceEqDiff, Nat.reduceLeDiff, Nat.reduceLT, Nat.reduceSub, Nat.reduceMul, not_false_eq_true, not_true_eq_false, true_and, and_true, true_or, or_true, false_or, or_false, true_implies, false_implies, implies_true, forall_const, and_self, ne_eq, Classical.not_not, z_up1, z_up2, z_cp1, z_cp2, z_upL1, z_upL2, if_true, if_false, and_false, false_and]) | (with_reducible refine And.intro ?_ ?_) | (with_reducible intro _))
  all_goals (first | (with_reducible exact q) | ((try simp only [ge_iff_le, gt_iff_lt, ← Int32.not_lt, Classical.not_not] at *); (first | (with_reducible rfl) | rfl | (with_reducible exact z_vi_24 (by assumption) (by assumption)) | (with_reducible exact z_vi_4 (by assumption) (by assumption)) | (with_reducible exact z_vi_512 (by assumption) (by assumption)) | (with_reducible exact z_vi_14 (by assumption) (by assumption)) | (with_reducible exact z_vi_8 (by assumption) (by assumption)) | (with_reducible exact z_vinN (by assumption) (by assumption) (by decide)) | (with_reducible exact z_vin1 (by assumption) (by assumption) (by decide)) | ((try simp only [r_tallySum] at q); (try simp only [ge_iff_le, gt_iff_lt, ← Int32.not_lt, Classical.not_not] at q); (try simp only [*, if_true, if_false, ite_self, true_or, or_true, false_or, or_false, true_and, and_true, false_and, and_false, not_true_eq_false, not_false_eq_true, cond_true, cond_false, decide_true, decide_false, Bool.true_and, Bool.and_true, Bool.false_and, Bool.and_false, Bool.true_or, Bool.or_true, Bool.false_or, Bool.or_false, Bool.not_true, Bool.not_false, ne_eq, Nat.reduceEqDiff] at q); with_reducible exact q))) | (simp_all [r_tallySum]; done))
theorem e_X7_copyFrom {h : Nat} {a0 : zId} {a1 : zId} {M : zMem} {K : zK} (ha0 : (a0.1 == 99) = false) (ha1 : (a1.1 == 99) = false) (q : z_run (z_nop k_X7_copyFrom) (z_call h) K 0 [.inr (.inr a0), .inr (.inr a1)] [] M) : z_call (h + 1) 90 [.inr (.inr a0), .inr (.inr a1)] M K := ⟨by simp only [List.all_cons, List.all_nil, z_isU, ha0, ha1]; rfl, q⟩
theorem c_X7_copyFrom_0 : z_nop k_X7_copyFrom 0 = o_aload 0 := rfl
theorem c_X7_copyFrom_1 : z_nop k_X7_copyFrom 1 = o_aload 1 := rfl
theorem c_X7_copyFrom_2 : z_nop k_X7_copyFrom 2 = o_get 8 0 := rfl
theorem c_X7_copyFrom_3 : z_nop k_X7_copyFrom 3 = o_put 8 0 := rfl
theorem c_X7_copyFrom_4 : z_nop k_X7_copyFrom 4 = o_aload 0 := rfl
theorem c_X7_copyFrom_5 : z_nop k_X7_copyFrom 5 = o_aload 1 := rfl
theorem c_X7_copyFrom_6 : z_nop k_X7_copyFrom 6 = o_get 8 1 := rfl
theorem c_X7_copyFrom_7 : z_nop k_X7_copyFrom 7 = o_put 8 1 := rfl
theorem c_X7_copyFrom_8 : z_nop k_X7_copyFrom 8 = o_aload 0 := rfl
theorem c_X7_copyFrom_9 : z_nop k_X7_copyFrom 9 = o_aload 1 := rfl
theorem c_X7_copyFrom_10 : z_nop k_X7_copyFrom 10 = o_get 8 2 := rfl
theorem c_X7_copyFrom_11 : z_nop k_X7_copyFrom 11 = o_put 8 2 := rfl
theorem c_X7_copyFrom_12 : z_nop k_X7_copyFrom 12 = o_ret := rfl

def m_tallyCopy (M : zMem) (w i w2 : Nat) : zMem := z_up (z_up (z_up M 8 w i 0 (M.1 8 w2 i 0)) 8 w i 1 (M.1 8 w2 i 1)) 8 w i 2 (M.1 8 w2 i 2)
set_option maxRecDepth 100000 in
theorem s_tallyCopy {h w i w2 : Nat} {M : zMem} {K : zK} (q : K none (m_tallyCopy M w i w2)) : z_call (h + 1) 90 [.inr (.inr (8, w, i)), .inr (.inr (8, w2, i))] M K := by
  refine e_X7_copyFrom rfl rfl ?_
  refine z_wp_run (cut := []) 15 _ _ _ _ ?_
  repeat' (first | (simp only [z_wp, Bool.false_eq_true, ↓reduceIte, z_e10, z_e01, eq_self, Int32.reduceLT, Int32.reduceLE, Int32.reduceGT, Int32.reduceGE, z_in, cond_true, cond_false, Nat.reduceAdd, Nat.reduceBEq, z_nth, z_set, z_clr, z_st1, z_st2, z_isL, z_opt, z_pop, z_cats, z_cat, c_X7_copyFrom_0, c_X7_copyFrom_1, c_X7_copyFrom_2, c_X7_copyFrom_3, c_X7_copyFrom_4, c_X7_copyFrom_5, c_X7_copyFrom_6, c_X7_copyFrom_7, c_X7_copyFrom_8, c_X7_copyFrom_9, c_X7_copyFrom_10, c_X7_copyFrom_11, c_X7_copyFrom_12, o_aload, o_get, o_put, o_ret, z_cv0, z_cl0, z_cv1, z_cl1, z_cv2, z_cl2, z_cv3, z_cl3, z_cv4, z_cl4, z_cv5, z_cl5, z_cv6, z_cl6, z_cv7, z_cl7, z_cv8, z_cl8, z_cv9, z_cl9, z_cv10, z_cl10, z_cv11, z_cl11, z_cv12, z_cl12, z_cv13, z_cl13, z_len, z_elt, z_isI, z_isJ, Nat.reduceEqDiff, Nat.reduceLeDiff, Nat.reduceLT, Nat.reduceSub, Nat.reduceMul, not_false_eq_true, not_true_eq_false, true_and, and_true, true_or, or_true, false_or, or_false, true_implies, false_implies, implies_true, forall_const, and_self, ne_eq, Classical.not_not, z_up1, z_up2, z_cp1, z_cp2, z_upL1, z_upL2, if_true, if_false, and_false, false_and]) | (with_reducible refine And.intro ?_ ?_) | (with_reducible intro _))
  all_goals (first | (with_reducible exact q) | ((try simp only [ge_iff_le, gt_iff_lt, ← Int32.not_lt, Classical.not_not] at *); (first | (with_reducible rfl) | rfl | (with_reducible exact z_vi_24 (by assumption) (by assumption)) | (with_reducible exact z_vi_4 (by assumption) (by assumption)) | (with_reducible exact z_vi_512 (by assumption) (by assumption)) | (with_reducible exact z_vi_14 (by assumption) (by assumption)) | (with_reducible exact z_vi_8 (by assumption) (by assumption)) | (with_reducible exact z_vinN (by assumption) (by assumption) (by decide)) | (with_reducible exact z_vin1 (by assumption) (by assumption) (by decide)) | ((try simp only [m_tallyCopy] at q); (try simp only [ge_iff_le, gt_iff_lt, ← Int32.not_lt, Classical.not_not] at q); (try simp only [*, if_true, if_false, ite_self, true_or, or_true, false_or, or_false, true_and, and_true, false_and, and_false, not_true_eq_false, not_false_eq_true, cond_true, cond_false, decide_true, decide_false, Bool.true_and, Bool.and_true, Bool.false_and, Bool.and_false, Bool.true_or, Bool.or_true, Bool.false_or, Bool.or_false, Bool.not_true, Bool.not_false, ne_eq, Nat.reduceEqDiff] at q); with_reducible exact q))) | (simp_all [m_tallyCopy]; done))
theorem e_X2_lengthOf {h : Nat} {a0 : Int32} {M : zMem} {K : zK} (q : z_run (z_nop k_X2_lengthOf) (z_call h) K 0 [.inl a0] [] M) : z_call (h + 1) 15 [.inl a0] M K := ⟨by simp only [List.all_cons, List.all_nil, z_isU]; rfl, q⟩
theorem c_X2_lengthOf_0 : z_nop k_X2_lengthOf 0 = o_iload 0 := rfl
theorem c_X2_lengthOf_1 : z_nop k_X2_lengthOf 1 = o_ic 16 := rfl
theorem c_X2_lengthOf_2 : z_nop k_X2_lengthOf 2 = o_bin (fun x y => x >>> (y &&& 31)) := rfl
theorem c_X2_lengthOf_3 : z_nop k_X2_lengthOf 3 = o_ic 31 := rfl
theorem c_X2_lengthOf_4 : z_nop k_X2_lengthOf 4 = o_bin (fun x y => x &&& y) := rfl
theorem c_X2_lengthOf_5 : z_nop k_X2_lengthOf 5 = o_iret := rfl

def r_lengthOf (x : Int32) : Int32 := x >>> (16 &&& 31) &&& 31
set_option maxRecDepth 100000 in
theorem s_lengthOf {h : Nat} {M : zMem} {x : Int32} {K : zK} (q : K (some (.inl (r_lengthOf x))) M) : z_call (h + 1) 15 [.inl x] M K := by
  refine e_X2_lengthOf  ?_
  refine z_wp_run (cut := []) 8 _ _ _ _ ?_
  repeat' (first | (simp only [z_wp, Bool.false_eq_true, ↓reduceIte, z_e10, z_e01, eq_self, Int32.reduceLT, Int32.reduceLE, Int32.reduceGT, Int32.reduceGE, z_in, cond_true, cond_false, Nat.reduceAdd, Nat.reduceBEq, z_nth, z_set, z_clr, z_st1, z_st2, z_isL, z_opt, z_pop, z_cats, z_cat, c_X2_lengthOf_0, c_X2_lengthOf_1, c_X2_lengthOf_2, c_X2_lengthOf_3, c_X2_lengthOf_4, c_X2_lengthOf_5, o_bin, o_ic, o_iload, o_iret, z_cv0, z_cl0, z_cv1, z_cl1, z_cv2, z_cl2, z_cv3, z_cl3, z_cv4, z_cl4, z_cv5, z_cl5, z_cv6, z_cl6, z_cv7, z_cl7, z_cv8, z_cl8, z_cv9, z_cl9, z_cv10, z_cl10, z_cv11, z_cl11, z_cv12, z_cl12, z_cv13, z_cl13, z_len, z_elt, z_isI, z_isJ, Nat.reduceEqDiff, Nat.reduceLeDiff, Nat.reduceLT, Nat.reduceSub, Nat.reduceMul, not_false_eq_true, not_true_eq_false, true_and, and_true, true_or, or_true, false_or, or_false, true_implies, false_implies, implies_true, forall_const, and_self, ne_eq, Classical.not_not, z_up1, z_up2, z_cp1, z_cp2, z_upL1, z_upL2, if_true, if_false, and_false, false_and]) | (with_reducible refine And.intro ?_ ?_) | (with_reducible intro _))
  all_goals (first | (with_reducible exact q) | ((try simp only [ge_iff_le, gt_iff_lt, ← Int32.not_lt, Classical.not_not] at *); (first | (with_reducible rfl) | rfl | (with_reducible exact z_vi_24 (by assumption) (by assumption)) | (with_reducible exact z_vi_4 (by assumption) (by assumption)) | (with_reducible exact z_vi_512 (by assumption) (by assumption)) | (with_reducible exact z_vi_14 (by assumption) (by assumption)) | (with_reducible exact z_vi_8 (by assumption) (by assumption)) | (with_reducible exact z_vinN (by assumption) (by assumption) (by decide)) | (with_reducible exact z_vin1 (by assumption) (by assumption) (by decide)) | ((try simp only [r_lengthOf] at q); (try simp only [ge_iff_le, gt_iff_lt, ← Int32.not_lt, Classical.not_not] at q); (try simp only [*, if_true, if_false, ite_self, true_or, or_true, false_or, or_false, true_and, and_true, false_and, and_false, not_true_eq_false, not_false_eq_true, cond_true, cond_false, decide_true, decide_false, Bool.true_and, Bool.and_true, Bool.false_and, Bool.and_false, Bool.true_or, Bool.or_true, Bool.false_or, Bool.or_false, Bool.not_true, Bool.not_false, ne_eq, Nat.reduceEqDiff] at q); with_reducible exact q))) | (simp_all [r_lengthOf]; done))
theorem e_X2_bitsOf {h : Nat} {a0 : Int32} {M : zMem} {K : zK} (q : z_run (z_nop k_X2_bitsOf) (z_call h) K 0 [.inl a0] [] M) : z_call (h + 1) 16 [.inl a0] M K := ⟨by simp only [List.all_cons, List.all_nil, z_isU]; rfl, q⟩
theorem c_X2_bitsOf_0 : z_nop k_X2_bitsOf 0 = o_iload 0 := rfl
theorem c_X2_bitsOf_1 : z_nop k_X2_bitsOf 1 = o_ic 65535 := rfl
theorem c_X2_bitsOf_2 : z_nop k_X2_bitsOf 2 = o_bin (fun x y => x &&& y) := rfl
theorem c_X2_bitsOf_3 : z_nop k_X2_bitsOf 3 = o_iret := rfl

def r_bitsOf (x : Int32) : Int32 := x &&& 65535
set_option maxRecDepth 100000 in
theorem s_bitsOf {h : Nat} {M : zMem} {x : Int32} {K : zK} (q : K (some (.inl (r_bitsOf x))) M) : z_call (h + 1) 16 [.inl x] M K := by
  refine e_X2_bitsOf  ?_
  refine z_wp_run (cut := []) 6 _ _ _ _ ?_
  repeat' (first | (simp only [z_wp, Bool.false_eq_true, ↓reduceIte, z_e10, z_e01, eq_self, Int32.reduceLT, Int32.reduceLE, Int32.reduceGT, Int32.reduceGE, z_in, cond_true, cond_false, Nat.reduceAdd, Nat.reduceBEq, z_nth, z_set, z_clr, z_st1, z_st2, z_isL, z_opt, z_pop, z_cats, z_cat, c_X2_bitsOf_0, c_X2_bitsOf_1, c_X2_bitsOf_2, c_X2_bitsOf_3, o_bin, o_ic, o_iload, o_iret, z_cv0, z_cl0, z_cv1, z_cl1, z_cv2, z_cl2, z_cv3, z_cl3, z_cv4, z_cl4, z_cv5, z_cl5, z_cv6, z_cl6, z_cv7, z_cl7, z_cv8, z_cl8, z_cv9, z_cl9, z_cv10, z_cl10, z_cv11, z_cl11, z_cv12, z_cl12, z_cv13, z_cl13, z_len, z_elt, z_isI, z_isJ, Nat.reduceEqDiff, Nat.reduceLeDiff, Nat.reduceLT, Nat.reduceSub, Nat.reduceMul, not_false_eq_true, not_true_eq_false, true_and, and_true, true_or, or_true, false_or, or_false, true_implies, false_implies, implies_true, forall_const, and_self, ne_eq, Classical.not_not, z_up1, z_up2, z_cp1, z_cp2, z_upL1, z_upL2, if_true, if_false, and_false, false_and]) | (with_reducible refine And.intro ?_ ?_) | (with_reducible intro _))
  all_goals (first | (with_reducible exact q) | ((try simp only [ge_iff_le, gt_iff_lt, ← Int32.not_lt, Classical.not_not] at *); (first | (with_reducible rfl) | rfl | (with_reducible exact z_vi_24 (by assumption) (by assumption)) | (with_reducible exact z_vi_4 (by assumption) (by assumption)) | (with_reducible exact z_vi_512 (by assumption) (by assumption)) | (with_reducible exact z_vi_14 (by assumption) (by assumption)) | (with_reducible exact z_vi_8 (by assumption) (by assumption)) | (with_reducible exact z_vinN (by assumption) (by assumption) (by decide)) | (with_reducible exact z_vin1 (by assumption) (by assumption) (by decide)) | ((try simp only [r_bitsOf] at q); (try simp only [ge_iff_le, gt_iff_lt, ← Int32.not_lt, Classical.not_not] at q); (try simp only [*, if_true, if_false, ite_self, true_or, or_true, false_or, or_false, true_and, and_true, false_and, and_false, not_true_eq_false, not_false_eq_true, cond_true, cond_false, decide_true, decide_false, Bool.true_and, Bool.and_true, Bool.false_and, Bool.and_false, Bool.true_or, Bool.or_true, Bool.false_or, Bool.or_false, Bool.not_true, Bool.not_false, ne_eq, Nat.reduceEqDiff] at q); with_reducible exact q))) | (simp_all [r_bitsOf]; done))
theorem e_X2_longer {h : Nat} {a0 : Int32} {a1 : Int32} {M : zMem} {K : zK} (q : z_run (z_nop k_X2_longer) (z_call h) K 0 [.inl a0, .inl a1] [] M) : z_call (h + 1) 17 [.inl a0, .inl a1] M K := ⟨by simp only [List.all_cons, List.all_nil, z_isU]; rfl, q⟩
theorem c_X2_longer_0 : z_nop k_X2_longer 0 = o_iload 0 := rfl
theorem c_X2_longer_1 : z_nop k_X2_longer 1 = o_call 15 1 := rfl
theorem c_X2_longer_2 : z_nop k_X2_longer 2 = o_ic 1 := rfl
theorem c_X2_longer_3 : z_nop k_X2_longer 3 = o_bin (fun x y => x + y) := rfl
theorem c_X2_longer_4 : z_nop k_X2_longer 4 = o_ic 16 := rfl
theorem c_X2_longer_5 : z_nop k_X2_longer 5 = o_bin (fun x y => x <<< (y &&& 31)) := rfl
theorem c_X2_longer_6 : z_nop k_X2_longer 6 = o_iload 0 := rfl
theorem c_X2_longer_7 : z_nop k_X2_longer 7 = o_call 16 1 := rfl
theorem c_X2_longer_8 : z_nop k_X2_longer 8 = o_ic 1 := rfl
theorem c_X2_longer_9 : z_nop k_X2_longer 9 = o_bin (fun x y => x <<< (y &&& 31)) := rfl
theorem c_X2_longer_10 : z_nop k_X2_longer 10 = o_ic 65535 := rfl
theorem c_X2_longer_11 : z_nop k_X2_longer 11 = o_bin (fun x y => x &&& y) := rfl
theorem c_X2_longer_12 : z_nop k_X2_longer 12 = o_bin (fun x y => x ||| y) := rfl
theorem c_X2_longer_13 : z_nop k_X2_longer 13 = o_iload 1 := rfl
theorem c_X2_longer_14 : z_nop k_X2_longer 14 = o_bin (fun x y => x ||| y) := rfl
theorem c_X2_longer_15 : z_nop k_X2_longer 15 = o_iret := rfl

def r_longer (x b : Int32) : Int32 := (r_lengthOf x + 1) <<< (16 &&& 31) ||| r_bitsOf x <<< (1 &&& 31) &&& 65535 ||| b
set_option maxRecDepth 100000 in
theorem s_longer {h : Nat} {M : zMem} {x b : Int32} {K : zK} (q : K (some (.inl (r_longer x b))) M) : z_call (h + 2) 17 [.inl x, .inl b] M K := by
  refine e_X2_longer  ?_
  refine z_wp_run (cut := [2, 8]) 18 _ _ _ _ ?_
  repeat' (first | (simp only [z_wp, Bool.false_eq_true, ↓reduceIte, z_e10, z_e01, eq_self, Int32.reduceLT, Int32.reduceLE, Int32.reduceGT, Int32.reduceGE, z_in, cond_true, cond_false, Nat.reduceAdd, Nat.reduceBEq, z_nth, z_set, z_clr, z_st1, z_st2, z_isL, z_opt, z_pop, z_cats, z_cat, c_X2_longer_0, c_X2_longer_1, c_X2_longer_2, c_X2_longer_3, c_X2_longer_4, c_X2_longer_5, c_X2_longer_6, c_X2_longer_7, c_X2_longer_8, c_X2_longer_9, c_X2_longer_10, c_X2_longer_11, c_X2_longer_12, c_X2_longer_13, c_X2_longer_14, c_X2_longer_15, o_bin, o_call, o_ic, o_iload, o_iret, z_cv0, z_cl0, z_cv1, z_cl1, z_cv2, z_cl2, z_cv3, z_cl3, z_cv4, z_cl4, z_cv5, z_cl5, z_cv6, z_cl6, z_cv7, z_cl7, z_cv8, z_cl8, z_cv9, z_cl9, z_cv10, z_cl10, z_cv11, z_cl11, z_cv12, z_cl12, z_cv13, z_cl13, z_len, z_elt, z_isI, z_isJ, Nat.reduceEqDiff, Nat.reduceLeDiff, Nat.reduceLT, Nat.reduceSub, Nat.reduceMul, not_false_eq_true, not_true_eq_false, true_and, and_true, true_or, or_true, false_or, or_false, true_implies, false_implies, implies_true, forall_const, and_self, ne_eq, Classical.not_not, z_up1, z_up2, z_cp1, z_cp2, z_upL1, z_upL2, if_true, if_false, and_false, false_and]) | (refine s_lengthOf ?_) | (refine s_bitsOf ?_) | (with_reducible refine And.intro ?_ ?_) | (with_reducible intro _) | (with_reducible refine z_go (i := 2) (cut := [2, 8]) 18 ?_) | (with_reducible refine z_go (i := 8) (cut := [2, 8]) 18 ?_))
  all_goals (first | (with_reducible exact q) | ((try simp only [ge_iff_le, gt_iff_lt, ← Int32.not_lt, Classical.not_not] at *); (first | (with_reducible rfl) | rfl | (with_reducible exact z_vi_24 (by assumption) (by assumption)) | (with_reducible exact z_vi_4 (by assumption) (by assumption)) | (with_reducible exact z_vi_512 (by assumption) (by assumption)) | (with_reducible exact z_vi_14 (by assumption) (by assumption)) | (with_reducible exact z_vi_8 (by assumption) (by assumption)) | (with_reducible exact z_vinN (by assumption) (by assumption) (by decide)) | (with_reducible exact z_vin1 (by assumption) (by assumption) (by decide)) | ((try simp only [r_longer] at q); (try simp only [ge_iff_le, gt_iff_lt, ← Int32.not_lt, Classical.not_not] at q); (try simp only [*, if_true, if_false, ite_self, true_or, or_true, false_or, or_false, true_and, and_true, false_and, and_false, not_true_eq_false, not_false_eq_true, cond_true, cond_false, decide_true, decide_false, Bool.true_and, Bool.and_true, Bool.false_and, Bool.and_false, Bool.true_or, Bool.or_true, Bool.false_or, Bool.or_false, Bool.not_true, Bool.not_false, ne_eq, Nat.reduceEqDiff] at q); with_reducible exact q))) | (simp_all [r_longer]; done))
theorem e_X2_begins {h : Nat} {a0 : Int32} {a1 : Int32} {M : zMem} {K : zK} (q : z_run (z_nop k_X2_begins) (z_call h) K 0 [.inl a0, .inl a1] [] M) : z_call (h + 1) 18 [.inl a0, .inl a1] M K := ⟨by simp only [List.all_cons, List.all_nil, z_isU]; rfl, q⟩
theorem c_X2_begins_0 : z_nop k_X2_begins 0 = o_iload 1 := rfl
theorem c_X2_begins_1 : z_nop k_X2_begins 1 = o_ic 16 := rfl
theorem c_X2_begins_2 : z_nop k_X2_begins 2 = o_iload 0 := rfl
theorem c_X2_begins_3 : z_nop k_X2_begins 3 = o_call 15 1 := rfl
theorem c_X2_begins_4 : z_nop k_X2_begins 4 = o_bin (fun x y => x - y) := rfl
theorem c_X2_begins_5 : z_nop k_X2_begins 5 = o_bin (fun x y => x >>> (y &&& 31)) := rfl
theorem c_X2_begins_6 : z_nop k_X2_begins 6 = o_iload 0 := rfl
theorem c_X2_begins_7 : z_nop k_X2_begins 7 = o_call 16 1 := rfl
theorem c_X2_begins_8 : z_nop k_X2_begins 8 = o_icmp (fun x y => x ≠ y) 11 := rfl
theorem c_X2_begins_9 : z_nop k_X2_begins 9 = o_ic 1 := rfl
theorem c_X2_begins_10 : z_nop k_X2_begins 10 = o_goto 12 := rfl
theorem c_X2_begins_11 : z_nop k_X2_begins 11 = o_ic 0 := rfl
theorem c_X2_begins_12 : z_nop k_X2_begins 12 = o_zret := rfl

def r_begins (x d : Int32) : Int32 := if d >>> ((16 - r_lengthOf x) &&& 31) = r_bitsOf x then 1 else 0
set_option maxRecDepth 100000 in
theorem s_begins {h : Nat} {M : zMem} {x d : Int32} {K : zK} (q : K (some (.inl (r_begins x d))) M) : z_call (h + 2) 18 [.inl x, .inl d] M K := by
  refine e_X2_begins  ?_
  refine z_wp_run (cut := [4, 8]) 15 _ _ _ _ ?_
  repeat' (first | (simp only [z_wp, Bool.false_eq_true, ↓reduceIte, z_e10, z_e01, eq_self, Int32.reduceLT, Int32.reduceLE, Int32.reduceGT, Int32.reduceGE, z_in, cond_true, cond_false, Nat.reduceAdd, Nat.reduceBEq, z_nth, z_set, z_clr, z_st1, z_st2, z_isL, z_opt, z_pop, z_cats, z_cat, c_X2_begins_0, c_X2_begins_1, c_X2_begins_2, c_X2_begins_3, c_X2_begins_4, c_X2_begins_5, c_X2_begins_6, c_X2_begins_7, c_X2_begins_8, c_X2_begins_9, c_X2_begins_10, c_X2_begins_11, c_X2_begins_12, o_bin, o_call, o_goto, o_ic, o_icmp, o_iload, o_zret, z_cv0, z_cl0, z_cv1, z_cl1, z_cv2, z_cl2, z_cv3, z_cl3, z_cv4, z_cl4, z_cv5, z_cl5, z_cv6, z_cl6, z_cv7, z_cl7, z_cv8, z_cl8, z_cv9, z_cl9, z_cv10, z_cl10, z_cv11, z_cl11, z_cv12, z_cl12, z_cv13, z_cl13, z_len, z_elt, z_isI, z_isJ, Nat.reduceEqDiff, Nat.reduceLeDiff, Nat.reduceLT, Nat.reduceSub, Nat.reduceMul, not_false_eq_true, not_true_eq_false, true_and, and_true, true_or, or_true, false_or, or_false, true_implies, false_implies, implies_true, forall_const, and_self, ne_eq, Classical.not_not, z_up1, z_up2, z_cp1, z_cp2, z_upL1, z_upL2, if_true, if_false, and_false, false_and]) | (refine s_lengthOf ?_) | (refine s_bitsOf ?_) | (with_reducible refine And.intro ?_ ?_) | (with_reducible intro _) | (with_reducible refine z_go (i := 4) (cut := [4, 8]) 15 ?_) | (with_reducible refine z_go (i := 8) (cut := [4, 8]) 15 ?_))
  all_goals (first | (with_reducible exact q) | ((try simp only [ge_iff_le, gt_iff_lt, ← Int32.not_lt, Classical.not_not] at *); (first | (with_reducible rfl) | rfl | (with_reducible exact z_vi_24 (by assumption) (by assumption)) | (with_reducible exact z_vi_4 (by assumption) (by assumption)) | (with_reducible exact z_vi_512 (by assumption) (by assumption)) | (with_reducible exact z_vi_14 (by assumption) (by assumption)) | (with_reducible exact z_vi_8 (by assumption) (by assumption)) | (with_reducible exact z_vinN (by assumption) (by assumption) (by decide)) | (with_reducible exact z_vin1 (by assumption) (by assumption) (by decide)) | ((try simp only [r_begins] at q); (try simp only [ge_iff_le, gt_iff_lt, ← Int32.not_lt, Classical.not_not] at q); (try simp only [*, if_true, if_false, ite_self, true_or, or_true, false_or, or_false, true_and, and_true, false_and, and_false, not_true_eq_false, not_false_eq_true, cond_true, cond_false, decide_true, decide_false, Bool.true_and, Bool.and_true, Bool.false_and, Bool.and_false, Bool.true_or, Bool.or_true, Bool.false_or, Bool.or_false, Bool.not_true, Bool.not_false, ne_eq, Nat.reduceEqDiff] at q); with_reducible exact q))) | (simp_all [r_begins]; done))
theorem e_X2_clear {h : Nat} {a0 : zId} {M : zMem} {K : zK} (ha0 : (a0.1 == 99) = false) (q : z_run (z_nop k_X2_clear) (z_call h) K 0 [.inr (.inr a0)] [] M) : z_call (h + 1) 19 [.inr (.inr a0)] M K := ⟨by simp only [List.all_cons, List.all_nil, z_isU, ha0]; rfl, q⟩
theorem c_X2_clear_0 : z_nop k_X2_clear 0 = o_aload 0 := rfl
theorem c_X2_clear_1 : z_nop k_X2_clear 1 = o_ic 0 := rfl
theorem c_X2_clear_2 : z_nop k_X2_clear 2 = o_put 3 1 := rfl
theorem c_X2_clear_3 : z_nop k_X2_clear 3 = o_ret := rfl

def m_pfxClear (M : zMem) (w i : Nat) : zMem := z_up M 3 w i 1 0
set_option maxRecDepth 100000 in
theorem s_pfxClear {h w i : Nat} {M : zMem} {K : zK} (q : K none (m_pfxClear M w i)) : z_call (h + 1) 19 [.inr (.inr (3, w, i))] M K := by
  refine e_X2_clear rfl ?_
  refine z_wp_run (cut := []) 6 _ _ _ _ ?_
  repeat' (first | (simp only [z_wp, Bool.false_eq_true, ↓reduceIte, z_e10, z_e01, eq_self, Int32.reduceLT, Int32.reduceLE, Int32.reduceGT, Int32.reduceGE, z_in, cond_true, cond_false, Nat.reduceAdd, Nat.reduceBEq, z_nth, z_set, z_clr, z_st1, z_st2, z_isL, z_opt, z_pop, z_cats, z_cat, c_X2_clear_0, c_X2_clear_1, c_X2_clear_2, c_X2_clear_3, o_aload, o_ic, o_put, o_ret, z_cv0, z_cl0, z_cv1, z_cl1, z_cv2, z_cl2, z_cv3, z_cl3, z_cv4, z_cl4, z_cv5, z_cl5, z_cv6, z_cl6, z_cv7, z_cl7, z_cv8, z_cl8, z_cv9, z_cl9, z_cv10, z_cl10, z_cv11, z_cl11, z_cv12, z_cl12, z_cv13, z_cl13, z_len, z_elt, z_isI, z_isJ, Nat.reduceEqDiff, Nat.reduceLeDiff, Nat.reduceLT, Nat.reduceSub, Nat.reduceMul, not_false_eq_true, not_true_eq_false, true_and, and_true, true_or, or_true, false_or, or_false, true_implies, false_implies, implies_true, forall_const, and_self, ne_eq, Classical.not_not, z_up1, z_up2, z_cp1, z_cp2, z_upL1, z_upL2, if_true, if_false, and_false, false_and]) | (with_reducible refine And.intro ?_ ?_) | (with_reducible intro _))
  all_goals (first | (with_reducible exact q) | ((try simp only [ge_iff_le, gt_iff_lt, ← Int32.not_lt, Classical.not_not] at *); (first | (with_reducible rfl) | rfl | (with_reducible exact z_vi_24 (by assumption) (by assumption)) | (with_reducible exact z_vi_4 (by assumption) (by assumption)) | (with_reducible exact z_vi_512 (by assumption) (by assumption)) | (with_reducible exact z_vi_14 (by assumption) (by assumption)) | (with_reducible exact z_vi_8 (by assumption) (by assumption)) | (with_reducible exact z_vinN (by assumption) (by assumption) (by decide)) | (with_reducible exact z_vin1 (by assumption) (by assumption) (by decide)) | ((try simp only [m_pfxClear] at q); (try simp only [ge_iff_le, gt_iff_lt, ← Int32.not_lt, Classical.not_not] at q); (try simp only [*, if_true, if_false, ite_self, true_or, or_true, false_or, or_false, true_and, and_true, false_and, and_false, not_true_eq_false, not_false_eq_true, cond_true, cond_false, decide_true, decide_false, Bool.true_and, Bool.and_true, Bool.false_and, Bool.and_false, Bool.true_or, Bool.or_true, Bool.false_or, Bool.or_false, Bool.not_true, Bool.not_false, ne_eq, Nat.reduceEqDiff] at q); with_reducible exact q))) | (simp_all [m_pfxClear]; done))
theorem e_X2_add {h : Nat} {a0 : zId} {a1 : Int32} {M : zMem} {K : zK} (ha0 : (a0.1 == 99) = false) (q : z_run (z_nop k_X2_add) (z_call h) K 0 [.inr (.inr a0), .inl a1] [] M) : z_call (h + 1) 20 [.inr (.inr a0), .inl a1] M K := ⟨by simp only [List.all_cons, List.all_nil, z_isU, ha0]; rfl, q⟩
theorem c_X2_add_0 : z_nop k_X2_add 0 = o_aload 0 := rfl
theorem c_X2_add_1 : z_nop k_X2_add 1 = o_get 3 1 := rfl
theorem c_X2_add_2 : z_nop k_X2_add 2 = o_ic 512 := rfl
theorem c_X2_add_3 : z_nop k_X2_add 3 = o_icmp (fun x y => x ≥ y) 16 := rfl
theorem c_X2_add_4 : z_nop k_X2_add 4 = o_aload 0 := rfl
theorem c_X2_add_5 : z_nop k_X2_add 5 = o_getr 3 (fun w i => (22, w, i)) := rfl
theorem c_X2_add_6 : z_nop k_X2_add 6 = o_aload 0 := rfl
theorem c_X2_add_7 : z_nop k_X2_add 7 = o_get 3 1 := rfl
theorem c_X2_add_8 : z_nop k_X2_add 8 = o_iload 1 := rfl
theorem c_X2_add_9 : z_nop k_X2_add 9 = o_iast := rfl
theorem c_X2_add_10 : z_nop k_X2_add 10 = o_aload 0 := rfl
theorem c_X2_add_11 : z_nop k_X2_add 11 = o_dup := rfl
theorem c_X2_add_12 : z_nop k_X2_add 12 = o_get 3 1 := rfl
theorem c_X2_add_13 : z_nop k_X2_add 13 = o_ic 1 := rfl
theorem c_X2_add_14 : z_nop k_X2_add 14 = o_bin (fun x y => x + y) := rfl
theorem c_X2_add_15 : z_nop k_X2_add 15 = o_put 3 1 := rfl
theorem c_X2_add_16 : z_nop k_X2_add 16 = o_ret := rfl

def m_pfxAdd (M : zMem) (w i : Nat) (x : Int32) : zMem := if M.1 3 w i 1 < 512 then z_up (z_up M 22 w i (M.1 3 w i 1).toNatClampNeg x) 3 w i 1 (M.1 3 w i 1 + 1) else M
set_option maxRecDepth 100000 in
theorem s_pfxAdd {h w i : Nat} {M : zMem} {x : Int32} {K : zK} (hs : ¬ M.1 3 w i 1 < 0) (q : K none (m_pfxAdd M w i x)) : z_call (h + 1) 20 [.inr (.inr (3, w, i)), .inl x] M K := by
  refine e_X2_add rfl ?_
  refine z_wp_run (cut := []) 19 _ _ _ _ ?_
  repeat' (first | (simp only [z_wp, Bool.false_eq_true, ↓reduceIte, z_e10, z_e01, eq_self, Int32.reduceLT, Int32.reduceLE, Int32.reduceGT, Int32.reduceGE, z_in, cond_true, cond_false, Nat.reduceAdd, Nat.reduceBEq, z_nth, z_set, z_clr, z_st1, z_st2, z_isL, z_opt, z_pop, z_cats, z_cat, c_X2_add_0, c_X2_add_1, c_X2_add_2, c_X2_add_3, c_X2_add_4, c_X2_add_5, c_X2_add_6, c_X2_add_7, c_X2_add_8, c_X2_add_9, c_X2_add_10, c_X2_add_11, c_X2_add_12, c_X2_add_13, c_X2_add_14, c_X2_add_15, c_X2_add_16, o_aload, o_bin, o_dup, o_get, o_getr, o_iast, o_ic, o_icmp, o_iload, o_put, o_ret, z_cv0, z_cl0, z_cv1, z_cl1, z_cv2, z_cl2, z_cv3, z_cl3, z_cv4, z_cl4, z_cv5, z_cl5, z_cv6, z_cl6, z_cv7, z_cl7, z_cv8, z_cl8, z_cv9, z_cl9, z_cv10, z_cl10, z_cv11, z_cl11, z_cv12, z_cl12, z_cv13, z_cl13, z_len, z_elt, z_isI, z_isJ, Nat.reduceEqDiff, Nat.reduceLeDiff, Nat.reduceLT, Nat.reduceSub, Nat.reduceMul, not_false_eq_true, not_true_eq_false, true_and, and_true, true_or, or_true, false_or, or_false, true_implies, false_implies, implies_true, forall_const, and_self, ne_eq, Classical.not_not, z_up1, z_up2, z_cp1, z_cp2, z_upL1, z_upL2, if_true, if_false, and_false, false_and]) | (with_reducible refine And.intro ?_ ?_) | (with_reducible intro _))
  all_goals (first | (with_reducible exact q) | ((try simp only [ge_iff_le, gt_iff_lt, ← Int32.not_lt, Classical.not_not] at *); (first | (with_reducible rfl) | rfl | (with_reducible exact z_vi_24 (by assumption) (by assumption)) | (with_reducible exact z_vi_4 (by assumption) (by assumption)) | (with_reducible exact z_vi_512 (by assumption) (by assumption)) | (with_reducible exact z_vi_14 (by assumption) (by assumption)) | (with_reducible exact z_vi_8 (by assumption) (by assumption)) | (with_reducible exact z_vinN (by assumption) (by assumption) (by decide)) | (with_reducible exact z_vin1 (by assumption) (by assumption) (by decide)) | ((try simp only [m_pfxAdd] at q); (try simp only [ge_iff_le, gt_iff_lt, ← Int32.not_lt, Classical.not_not] at q); (try simp only [*, if_true, if_false, ite_self, true_or, or_true, false_or, or_false, true_and, and_true, false_and, and_false, not_true_eq_false, not_false_eq_true, cond_true, cond_false, decide_true, decide_false, Bool.true_and, Bool.and_true, Bool.false_and, Bool.and_false, Bool.true_or, Bool.or_true, Bool.false_or, Bool.or_false, Bool.not_true, Bool.not_false, ne_eq, Nat.reduceEqDiff] at q); with_reducible exact q))) | (simp_all [m_pfxAdd]; done))
theorem e_X2_takeLast {h : Nat} {a0 : zId} {M : zMem} {K : zK} (ha0 : (a0.1 == 99) = false) (q : z_run (z_nop k_X2_takeLast) (z_call h) K 0 [.inr (.inr a0)] [] M) : z_call (h + 1) 21 [.inr (.inr a0)] M K := ⟨by simp only [List.all_cons, List.all_nil, z_isU, ha0]; rfl, q⟩
theorem c_X2_takeLast_0 : z_nop k_X2_takeLast 0 = o_aload 0 := rfl
theorem c_X2_takeLast_1 : z_nop k_X2_takeLast 1 = o_get 3 1 := rfl
theorem c_X2_takeLast_2 : z_nop k_X2_takeLast 2 = o_ic 1 := rfl
theorem c_X2_takeLast_3 : z_nop k_X2_takeLast 3 = o_icmp (fun x y => x < y) 8 := rfl
theorem c_X2_takeLast_4 : z_nop k_X2_takeLast 4 = o_aload 0 := rfl
theorem c_X2_takeLast_5 : z_nop k_X2_takeLast 5 = o_get 3 1 := rfl
theorem c_X2_takeLast_6 : z_nop k_X2_takeLast 6 = o_ic 512 := rfl
theorem c_X2_takeLast_7 : z_nop k_X2_takeLast 7 = o_icmp (fun x y => x ≤ y) 10 := rfl
theorem c_X2_takeLast_8 : z_nop k_X2_takeLast 8 = o_ic (-1) := rfl
theorem c_X2_takeLast_9 : z_nop k_X2_takeLast 9 = o_iret := rfl
theorem c_X2_takeLast_10 : z_nop k_X2_takeLast 10 = o_aload 0 := rfl
theorem c_X2_takeLast_11 : z_nop k_X2_takeLast 11 = o_dup := rfl
theorem c_X2_takeLast_12 : z_nop k_X2_takeLast 12 = o_get 3 1 := rfl
theorem c_X2_takeLast_13 : z_nop k_X2_takeLast 13 = o_ic 1 := rfl
theorem c_X2_takeLast_14 : z_nop k_X2_takeLast 14 = o_bin (fun x y => x - y) := rfl
theorem c_X2_takeLast_15 : z_nop k_X2_takeLast 15 = o_put 3 1 := rfl
theorem c_X2_takeLast_16 : z_nop k_X2_takeLast 16 = o_aload 0 := rfl
theorem c_X2_takeLast_17 : z_nop k_X2_takeLast 17 = o_getr 3 (fun w i => (22, w, i)) := rfl
theorem c_X2_takeLast_18 : z_nop k_X2_takeLast 18 = o_aload 0 := rfl
theorem c_X2_takeLast_19 : z_nop k_X2_takeLast 19 = o_get 3 1 := rfl
theorem c_X2_takeLast_20 : z_nop k_X2_takeLast 20 = o_iald := rfl
theorem c_X2_takeLast_21 : z_nop k_X2_takeLast 21 = o_iret := rfl

def r_pfxTake (M : zMem) (w i : Nat) : Int32 := if M.1 3 w i 1 < 1 ∨ M.1 3 w i 1 > 512 then -1 else M.1 22 w i (M.1 3 w i 1 - 1).toNatClampNeg
def m_pfxTake (M : zMem) (w i : Nat) : zMem := if M.1 3 w i 1 < 1 ∨ M.1 3 w i 1 > 512 then M else z_up M 3 w i 1 (M.1 3 w i 1 - 1)
set_option maxRecDepth 100000 in
theorem s_pfxTake {h w i : Nat} {M : zMem} {K : zK} (q : K (some (.inl (r_pfxTake M w i))) (m_pfxTake M w i)) : z_call (h + 1) 21 [.inr (.inr (3, w, i))] M K := by
  refine e_X2_takeLast rfl ?_
  refine z_wp_run (cut := []) 24 _ _ _ _ ?_
  repeat' (first | (simp only [z_wp, Bool.false_eq_true, ↓reduceIte, z_e10, z_e01, eq_self, Int32.reduceLT, Int32.reduceLE, Int32.reduceGT, Int32.reduceGE, z_in, cond_true, cond_false, Nat.reduceAdd, Nat.reduceBEq, z_nth, z_set, z_clr, z_st1, z_st2, z_isL, z_opt, z_pop, z_cats, z_cat, c_X2_takeLast_0, c_X2_takeLast_1, c_X2_takeLast_2, c_X2_takeLast_3, c_X2_takeLast_4, c_X2_takeLast_5, c_X2_takeLast_6, c_X2_takeLast_7, c_X2_takeLast_8, c_X2_takeLast_9, c_X2_takeLast_10, c_X2_takeLast_11, c_X2_takeLast_12, c_X2_takeLast_13, c_X2_takeLast_14, c_X2_takeLast_15, c_X2_takeLast_16, c_X2_takeLast_17, c_X2_takeLast_18, c_X2_takeLast_19, c_X2_takeLast_20, c_X2_takeLast_21, o_aload, o_bin, o_dup, o_get, o_getr, o_iald, o_ic, o_icmp, o_iret, o_put, z_cv0, z_cl0, z_cv1, z_cl1, z_cv2, z_cl2, z_cv3, z_cl3, z_cv4, z_cl4, z_cv5, z_cl5, z_cv6, z_cl6, z_cv7, z_cl7, z_cv8, z_cl8, z_cv9, z_cl9, z_cv10, z_cl10, z_cv11, z_cl11, z_cv12, z_cl12, z_cv13, z_cl13, z_len, z_elt, z_isI, z_isJ, Nat.reduceEqDiff, Nat.reduceLeDiff, Nat.reduceLT, Nat.reduceSub, Nat.reduceMul, not_false_eq_true, not_true_eq_false, true_and, and_true, true_or, or_true, false_or, or_false, true_implies, false_implies, implies_true, forall_const, and_self, ne_eq, Classical.not_not, z_up1, z_up2, z_cp1, z_cp2, z_upL1, z_upL2, if_true, if_false, and_false, false_and]) | (with_reducible refine And.intro ?_ ?_) | (with_reducible intro _))
  all_goals (first | (with_reducible exact q) | ((try simp only [ge_iff_le, gt_iff_lt, ← Int32.not_lt, Classical.not_not] at *); (first | (with_reducible rfl) | rfl | (with_reducible exact z_vi_24 (by assumption) (by assumption)) | (with_reducible exact z_vi_4 (by assumption) (by assumption)) | (with_reducible exact z_vi_512 (by assumption) (by assumption)) | (with_reducible exact z_vi_14 (by assumption) (by assumption)) | (with_reducible exact z_vi_8 (by assumption) (by assumption)) | (with_reducible exact z_vinN (by assumption) (by assumption) (by decide)) | (with_reducible exact z_vin1 (by assumption) (by assumption) (by decide)) | ((try simp only [r_pfxTake, m_pfxTake] at q); (try simp only [ge_iff_le, gt_iff_lt, ← Int32.not_lt, Classical.not_not] at q); (try simp only [*, if_true, if_false, ite_self, true_or, or_true, false_or, or_false, true_and, and_true, false_and, and_false, not_true_eq_false, not_false_eq_true, cond_true, cond_false, decide_true, decide_false, Bool.true_and, Bool.and_true, Bool.false_and, Bool.and_false, Bool.true_or, Bool.or_true, Bool.false_or, Bool.or_false, Bool.not_true, Bool.not_false, ne_eq, Nat.reduceEqDiff] at q); with_reducible exact q))) | (simp_all [r_pfxTake, m_pfxTake]; done))
theorem e_X2_at {h : Nat} {a0 : zId} {a1 : Int32} {M : zMem} {K : zK} (ha0 : (a0.1 == 99) = false) (q : z_run (z_nop k_X2_at) (z_call h) K 0 [.inr (.inr a0), .inl a1] [] M) : z_call (h + 1) 22 [.inr (.inr a0), .inl a1] M K := ⟨by simp only [List.all_cons, List.all_nil, z_isU, ha0]; rfl, q⟩
theorem c_X2_at_0 : z_nop k_X2_at 0 = o_iload 1 := rfl
theorem c_X2_at_1 : z_nop k_X2_at 1 = o_if (fun x => x < 0) 9 := rfl
theorem c_X2_at_2 : z_nop k_X2_at 2 = o_iload 1 := rfl
theorem c_X2_at_3 : z_nop k_X2_at 3 = o_aload 0 := rfl
theorem c_X2_at_4 : z_nop k_X2_at 4 = o_get 3 1 := rfl
theorem c_X2_at_5 : z_nop k_X2_at 5 = o_icmp (fun x y => x ≥ y) 9 := rfl
theorem c_X2_at_6 : z_nop k_X2_at 6 = o_iload 1 := rfl
theorem c_X2_at_7 : z_nop k_X2_at 7 = o_ic 512 := rfl
theorem c_X2_at_8 : z_nop k_X2_at 8 = o_icmp (fun x y => x < y) 11 := rfl
theorem c_X2_at_9 : z_nop k_X2_at 9 = o_ic (-1) := rfl
theorem c_X2_at_10 : z_nop k_X2_at 10 = o_goto 15 := rfl
theorem c_X2_at_11 : z_nop k_X2_at 11 = o_aload 0 := rfl
theorem c_X2_at_12 : z_nop k_X2_at 12 = o_getr 3 (fun w i => (22, w, i)) := rfl
theorem c_X2_at_13 : z_nop k_X2_at 13 = o_iload 1 := rfl
theorem c_X2_at_14 : z_nop k_X2_at 14 = o_iald := rfl
theorem c_X2_at_15 : z_nop k_X2_at 15 = o_iret := rfl

def r_pfxAt (M : zMem) (w i : Nat) (k : Int32) : Int32 := if k < 0 ∨ k ≥ M.1 3 w i 1 ∨ k ≥ 512 then -1 else M.1 22 w i k.toNatClampNeg
set_option maxRecDepth 100000 in
theorem s_pfxAt {h w i : Nat} {M : zMem} {k : Int32} {K : zK} (q : K (some (.inl (r_pfxAt M w i k))) M) : z_call (h + 1) 22 [.inr (.inr (3, w, i)), .inl k] M K := by
  refine e_X2_at rfl ?_
  refine z_wp_run (cut := []) 18 _ _ _ _ ?_
  repeat' (first | (simp only [z_wp, Bool.false_eq_true, ↓reduceIte, z_e10, z_e01, eq_self, Int32.reduceLT, Int32.reduceLE, Int32.reduceGT, Int32.reduceGE, z_in, cond_true, cond_false, Nat.reduceAdd, Nat.reduceBEq, z_nth, z_set, z_clr, z_st1, z_st2, z_isL, z_opt, z_pop, z_cats, z_cat, c_X2_at_0, c_X2_at_1, c_X2_at_2, c_X2_at_3, c_X2_at_4, c_X2_at_5, c_X2_at_6, c_X2_at_7, c_X2_at_8, c_X2_at_9, c_X2_at_10, c_X2_at_11, c_X2_at_12, c_X2_at_13, c_X2_at_14, c_X2_at_15, o_aload, o_get, o_getr, o_goto, o_iald, o_ic, o_icmp, o_if, o_iload, o_iret, z_cv0, z_cl0, z_cv1, z_cl1, z_cv2, z_cl2, z_cv3, z_cl3, z_cv4, z_cl4, z_cv5, z_cl5, z_cv6, z_cl6, z_cv7, z_cl7, z_cv8, z_cl8, z_cv9, z_cl9, z_cv10, z_cl10, z_cv11, z_cl11, z_cv12, z_cl12, z_cv13, z_cl13, z_len, z_elt, z_isI, z_isJ, Nat.reduceEqDiff, Nat.reduceLeDiff, Nat.reduceLT, Nat.reduceSub, Nat.reduceMul, not_false_eq_true, not_true_eq_false, true_and, and_true, true_or, or_true, false_or, or_false, true_implies, false_implies, implies_true, forall_const, and_self, ne_eq, Classical.not_not, z_up1, z_up2, z_cp1, z_cp2, z_upL1, z_upL2, if_true, if_false, and_false, false_and]) | (with_reducible refine And.intro ?_ ?_) | (with_reducible intro _))
  all_goals (first | (with_reducible exact q) | ((try simp only [ge_iff_le, gt_iff_lt, ← Int32.not_lt, Classical.not_not] at *); (first | (with_reducible rfl) | rfl | (with_reducible exact z_vi_24 (by assumption) (by assumption)) | (with_reducible exact z_vi_4 (by assumption) (by assumption)) | (with_reducible exact z_vi_512 (by assumption) (by assumption)) | (with_reducible exact z_vi_14 (by assumption) (by assumption)) | (with_reducible exact z_vi_8 (by assumption) (by assumption)) | (with_reducible exact z_vinN (by assumption) (by assumption) (by decide)) | (with_reducible exact z_vin1 (by assumption) (by assumption) (by decide)) | ((try simp only [r_pfxAt] at q); (try simp only [ge_iff_le, gt_iff_lt, ← Int32.not_lt, Classical.not_not] at q); (try simp only [*, if_true, if_false, ite_self, true_or, or_true, false_or, or_false, true_and, and_true, false_and, and_false, not_true_eq_false, not_false_eq_true, cond_true, cond_false, decide_true, decide_false, Bool.true_and, Bool.and_true, Bool.false_and, Bool.and_false, Bool.true_or, Bool.or_true, Bool.false_or, Bool.or_false, Bool.not_true, Bool.not_false, ne_eq, Nat.reduceEqDiff] at q); with_reducible exact q))) | (simp_all [r_pfxAt]; done))
theorem e_X2_tells {h : Nat} {a0 : zId} {a1 : Int32} {a2 : Int32} {M : zMem} {K : zK} (ha0 : (a0.1 == 99) = false) (q : z_run (z_nop k_X2_tells) (z_call h) K 0 [.inr (.inr a0), .inl a1, .inl a2, z_un] [] M) : z_call (h + 1) 23 [.inr (.inr a0), .inl a1, .inl a2] M K := ⟨by simp only [List.all_cons, List.all_nil, z_isU, ha0]; rfl, q⟩
theorem c_X2_tells_0 : z_nop k_X2_tells 0 = o_aload 0 := rfl
theorem c_X2_tells_1 : z_nop k_X2_tells 1 = o_iload 1 := rfl
theorem c_X2_tells_2 : z_nop k_X2_tells 2 = o_callv 3 22 2 := rfl
theorem c_X2_tells_3 : z_nop k_X2_tells 3 = o_istore 3 := rfl
theorem c_X2_tells_4 : z_nop k_X2_tells 4 = o_iload 3 := rfl
theorem c_X2_tells_5 : z_nop k_X2_tells 5 = o_ic (-1) := rfl
theorem c_X2_tells_6 : z_nop k_X2_tells 6 = o_icmp (fun x y => x ≠ y) 9 := rfl
theorem c_X2_tells_7 : z_nop k_X2_tells 7 = o_ic (-1) := rfl
theorem c_X2_tells_8 : z_nop k_X2_tells 8 = o_iret := rfl
theorem c_X2_tells_9 : z_nop k_X2_tells 9 = o_iload 2 := rfl
theorem c_X2_tells_10 : z_nop k_X2_tells 10 = o_tsw 0 [11, 14, 17] 25 := rfl
theorem c_X2_tells_11 : z_nop k_X2_tells 11 = o_iload 3 := rfl
theorem c_X2_tells_12 : z_nop k_X2_tells 12 = o_call 15 1 := rfl
theorem c_X2_tells_13 : z_nop k_X2_tells 13 = o_iret := rfl
theorem c_X2_tells_14 : z_nop k_X2_tells 14 = o_iload 3 := rfl
theorem c_X2_tells_15 : z_nop k_X2_tells 15 = o_call 16 1 := rfl
theorem c_X2_tells_16 : z_nop k_X2_tells 16 = o_iret := rfl
theorem c_X2_tells_17 : z_nop k_X2_tells 17 = o_iload 3 := rfl
theorem c_X2_tells_18 : z_nop k_X2_tells 18 = o_ic 16777216 := rfl
theorem c_X2_tells_19 : z_nop k_X2_tells 19 = o_bin (fun x y => x &&& y) := rfl
theorem c_X2_tells_20 : z_nop k_X2_tells 20 = o_if (fun x => x ≠ 0) 23 := rfl
theorem c_X2_tells_21 : z_nop k_X2_tells 21 = o_ic 0 := rfl
theorem c_X2_tells_22 : z_nop k_X2_tells 22 = o_goto 24 := rfl
theorem c_X2_tells_23 : z_nop k_X2_tells 23 = o_ic 1 := rfl
theorem c_X2_tells_24 : z_nop k_X2_tells 24 = o_iret := rfl
theorem c_X2_tells_25 : z_nop k_X2_tells 25 = o_ic (-1) := rfl
theorem c_X2_tells_26 : z_nop k_X2_tells 26 = o_iret := rfl

def r_pfxTells (M : zMem) (w i : Nat) (k t : Int32) : Int32 :=
  if r_pfxAt M w i k = -1 then -1 else if t = 0 then r_lengthOf (r_pfxAt M w i k) else if t = 1 then r_bitsOf (r_pfxAt M w i k) else if t = 2 then (if r_pfxAt M w i k &&& 16777216 = 0 then 0 else 1) else -1
set_option maxRecDepth 100000 in
theorem s_pfxTells {h w i : Nat} {M : zMem} {k t : Int32} {K : zK} (q : K (some (.inl (r_pfxTells M w i k t))) M) : z_call (h + 2) 23 [.inr (.inr (3, w, i)), .inl k, .inl t] M K := by
  refine e_X2_tells rfl ?_
  refine z_wp_run (cut := [3, 13, 16]) 29 _ _ _ _ ?_
  repeat' (first | (simp only [z_wp, Bool.false_eq_true, ↓reduceIte, z_e10, z_e01, eq_self, Int32.reduceLT, Int32.reduceLE, Int32.reduceGT, Int32.reduceGE, z_in, cond_true, cond_false, Nat.reduceAdd, Nat.reduceBEq, z_nth, z_set, z_clr, z_st1, z_st2, z_isL, z_opt, z_pop, z_cats, z_cat, c_X2_tells_0, c_X2_tells_1, c_X2_tells_2, c_X2_tells_3, c_X2_tells_4, c_X2_tells_5, c_X2_tells_6, c_X2_tells_7, c_X2_tells_8, c_X2_tells_9, c_X2_tells_10, c_X2_tells_11, c_X2_tells_12, c_X2_tells_13, c_X2_tells_14, c_X2_tells_15, c_X2_tells_16, c_X2_tells_17, c_X2_tells_18, c_X2_tells_19, c_X2_tells_20, c_X2_tells_21, c_X2_tells_22, c_X2_tells_23, c_X2_tells_24, c_X2_tells_25, c_X2_tells_26, o_aload, o_bin, o_call, o_callv, o_goto, o_ic, o_icmp, o_if, o_iload, o_iret, o_istore, o_tsw, z_cv0, z_cl0, z_cv1, z_cl1, z_cv2, z_cl2, z_cv3, z_cl3, z_cv4, z_cl4, z_cv5, z_cl5, z_cv6, z_cl6, z_cv7, z_cl7, z_cv8, z_cl8, z_cv9, z_cl9, z_cv10, z_cl10, z_cv11, z_cl11, z_cv12, z_cl12, z_cv13, z_cl13, z_len, z_elt, z_isI, z_isJ, Nat.reduceEqDiff, Nat.reduceLeDiff, Nat.reduceLT, Nat.reduceSub, Nat.reduceMul, not_false_eq_true, not_true_eq_false, true_and, and_true, true_or, or_true, false_or, or_false, true_implies, false_implies, implies_true, forall_const, and_self, ne_eq, Classical.not_not, z_up1, z_up2, z_cp1, z_cp2, z_upL1, z_upL2, if_true, if_false, and_false, false_and, z_cases, Int.reduceAdd]) | (refine s_pfxAt ?_) | (refine s_lengthOf ?_) | (refine s_bitsOf ?_) | (with_reducible refine And.intro ?_ ?_) | (with_reducible intro _) | (with_reducible refine z_go (i := 3) (cut := [3, 13, 16]) 29 ?_) | (with_reducible refine z_go (i := 13) (cut := [3, 13, 16]) 29 ?_) | (with_reducible refine z_go (i := 16) (cut := [3, 13, 16]) 29 ?_))
  all_goals (first | (with_reducible exact q) | ((try simp only [ge_iff_le, gt_iff_lt, ← Int32.not_lt, Classical.not_not] at *); (first | (with_reducible rfl) | rfl | (with_reducible exact z_vi_24 (by assumption) (by assumption)) | (with_reducible exact z_vi_4 (by assumption) (by assumption)) | (with_reducible exact z_vi_512 (by assumption) (by assumption)) | (with_reducible exact z_vi_14 (by assumption) (by assumption)) | (with_reducible exact z_vi_8 (by assumption) (by assumption)) | (with_reducible exact z_vinN (by assumption) (by assumption) (by decide)) | (with_reducible exact z_vin1 (by assumption) (by assumption) (by decide)) | ((try simp only [r_pfxTells] at q); (try simp only [ge_iff_le, gt_iff_lt, ← Int32.not_lt, Classical.not_not] at q); (try simp only [*, if_true, if_false, ite_self, true_or, or_true, false_or, or_false, true_and, and_true, false_and, and_false, not_true_eq_false, not_false_eq_true, cond_true, cond_false, decide_true, decide_false, Bool.true_and, Bool.and_true, Bool.false_and, Bool.and_false, Bool.true_or, Bool.or_true, Bool.false_or, Bool.or_false, Bool.not_true, Bool.not_false, ne_eq, Nat.reduceEqDiff] at q); with_reducible exact q))) | (simp_all [r_pfxTells]; done))
theorem e_X2_endsInEmptyPair {h : Nat} {a0 : zId} {M : zMem} {K : zK} (ha0 : (a0.1 == 99) = false) (q : z_run (z_nop k_X2_endsInEmptyPair) (z_call h) K 0 [.inr (.inr a0), z_un, z_un] [] M) : z_call (h + 1) 26 [.inr (.inr a0)] M K := ⟨by simp only [List.all_cons, List.all_nil, z_isU, ha0]; rfl, q⟩
theorem c_X2_endsInEmptyPair_0 : z_nop k_X2_endsInEmptyPair 0 = o_aload 0 := rfl
theorem c_X2_endsInEmptyPair_1 : z_nop k_X2_endsInEmptyPair 1 = o_aload 0 := rfl
theorem c_X2_endsInEmptyPair_2 : z_nop k_X2_endsInEmptyPair 2 = o_get 3 1 := rfl
theorem c_X2_endsInEmptyPair_3 : z_nop k_X2_endsInEmptyPair 3 = o_ic 2 := rfl
theorem c_X2_endsInEmptyPair_4 : z_nop k_X2_endsInEmptyPair 4 = o_bin (fun x y => x - y) := rfl
theorem c_X2_endsInEmptyPair_5 : z_nop k_X2_endsInEmptyPair 5 = o_callv 3 22 2 := rfl
theorem c_X2_endsInEmptyPair_6 : z_nop k_X2_endsInEmptyPair 6 = o_istore 1 := rfl
theorem c_X2_endsInEmptyPair_7 : z_nop k_X2_endsInEmptyPair 7 = o_aload 0 := rfl
theorem c_X2_endsInEmptyPair_8 : z_nop k_X2_endsInEmptyPair 8 = o_aload 0 := rfl
theorem c_X2_endsInEmptyPair_9 : z_nop k_X2_endsInEmptyPair 9 = o_get 3 1 := rfl
theorem c_X2_endsInEmptyPair_10 : z_nop k_X2_endsInEmptyPair 10 = o_ic 1 := rfl
theorem c_X2_endsInEmptyPair_11 : z_nop k_X2_endsInEmptyPair 11 = o_bin (fun x y => x - y) := rfl
theorem c_X2_endsInEmptyPair_12 : z_nop k_X2_endsInEmptyPair 12 = o_callv 3 22 2 := rfl
theorem c_X2_endsInEmptyPair_13 : z_nop k_X2_endsInEmptyPair 13 = o_istore 2 := rfl
theorem c_X2_endsInEmptyPair_14 : z_nop k_X2_endsInEmptyPair 14 = o_iload 1 := rfl
theorem c_X2_endsInEmptyPair_15 : z_nop k_X2_endsInEmptyPair 15 = o_ic (-1) := rfl
theorem c_X2_endsInEmptyPair_16 : z_nop k_X2_endsInEmptyPair 16 = o_icmp (fun x y => x = y) 27 := rfl
theorem c_X2_endsInEmptyPair_17 : z_nop k_X2_endsInEmptyPair 17 = o_iload 2 := rfl
theorem c_X2_endsInEmptyPair_18 : z_nop k_X2_endsInEmptyPair 18 = o_ic (-1) := rfl
theorem c_X2_endsInEmptyPair_19 : z_nop k_X2_endsInEmptyPair 19 = o_icmp (fun x y => x = y) 27 := rfl
theorem c_X2_endsInEmptyPair_20 : z_nop k_X2_endsInEmptyPair 20 = o_iload 2 := rfl
theorem c_X2_endsInEmptyPair_21 : z_nop k_X2_endsInEmptyPair 21 = o_call 15 1 := rfl
theorem c_X2_endsInEmptyPair_22 : z_nop k_X2_endsInEmptyPair 22 = o_if (fun x => x = 0) 27 := rfl
theorem c_X2_endsInEmptyPair_23 : z_nop k_X2_endsInEmptyPair 23 = o_iload 1 := rfl
theorem c_X2_endsInEmptyPair_24 : z_nop k_X2_endsInEmptyPair 24 = o_ic 16777216 := rfl
theorem c_X2_endsInEmptyPair_25 : z_nop k_X2_endsInEmptyPair 25 = o_bin (fun x y => x &&& y) := rfl
theorem c_X2_endsInEmptyPair_26 : z_nop k_X2_endsInEmptyPair 26 = o_if (fun x => x ≠ 0) 29 := rfl
theorem c_X2_endsInEmptyPair_27 : z_nop k_X2_endsInEmptyPair 27 = o_ic 0 := rfl
theorem c_X2_endsInEmptyPair_28 : z_nop k_X2_endsInEmptyPair 28 = o_zret := rfl
theorem c_X2_endsInEmptyPair_29 : z_nop k_X2_endsInEmptyPair 29 = o_iload 2 := rfl
theorem c_X2_endsInEmptyPair_30 : z_nop k_X2_endsInEmptyPair 30 = o_ic 1 := rfl
theorem c_X2_endsInEmptyPair_31 : z_nop k_X2_endsInEmptyPair 31 = o_bin (fun x y => x &&& y) := rfl
theorem c_X2_endsInEmptyPair_32 : z_nop k_X2_endsInEmptyPair 32 = o_ic 1 := rfl
theorem c_X2_endsInEmptyPair_33 : z_nop k_X2_endsInEmptyPair 33 = o_icmp (fun x y => x ≠ y) 41 := rfl
theorem c_X2_endsInEmptyPair_34 : z_nop k_X2_endsInEmptyPair 34 = o_iload 1 := rfl
theorem c_X2_endsInEmptyPair_35 : z_nop k_X2_endsInEmptyPair 35 = o_iload 2 := rfl
theorem c_X2_endsInEmptyPair_36 : z_nop k_X2_endsInEmptyPair 36 = o_ic 1 := rfl
theorem c_X2_endsInEmptyPair_37 : z_nop k_X2_endsInEmptyPair 37 = o_bin (fun x y => x - y) := rfl
theorem c_X2_endsInEmptyPair_38 : z_nop k_X2_endsInEmptyPair 38 = o_icmp (fun x y => x ≠ y) 41 := rfl
theorem c_X2_endsInEmptyPair_39 : z_nop k_X2_endsInEmptyPair 39 = o_ic 1 := rfl
theorem c_X2_endsInEmptyPair_40 : z_nop k_X2_endsInEmptyPair 40 = o_goto 42 := rfl
theorem c_X2_endsInEmptyPair_41 : z_nop k_X2_endsInEmptyPair 41 = o_ic 0 := rfl
theorem c_X2_endsInEmptyPair_42 : z_nop k_X2_endsInEmptyPair 42 = o_zret := rfl

def r_pfxPair (M : zMem) (w i : Nat) : Int32 :=
  if r_pfxAt M w i (M.1 3 w i 1 - 2) = -1 ∨ r_pfxAt M w i (M.1 3 w i 1 - 1) = -1 ∨ r_lengthOf (r_pfxAt M w i (M.1 3 w i 1 - 1)) = 0 ∨ r_pfxAt M w i (M.1 3 w i 1 - 2) &&& 16777216 = 0 then 0
  else if r_pfxAt M w i (M.1 3 w i 1 - 1) &&& 1 = 1 ∧ r_pfxAt M w i (M.1 3 w i 1 - 2) = r_pfxAt M w i (M.1 3 w i 1 - 1) - 1 then 1 else 0
set_option maxRecDepth 100000 in
theorem s_pfxPair {h w i : Nat} {M : zMem} {K : zK} (q : K (some (.inl (r_pfxPair M w i))) M) : z_call (h + 2) 26 [.inr (.inr (3, w, i))] M K := by
  refine e_X2_endsInEmptyPair rfl ?_
  refine z_wp_run (cut := [6, 13, 22]) 45 _ _ _ _ ?_
  repeat' (first | (simp only [z_wp, Bool.false_eq_true, ↓reduceIte, z_e10, z_e01, eq_self, Int32.reduceLT, Int32.reduceLE, Int32.reduceGT, Int32.reduceGE, z_in, cond_true, cond_false, Nat.reduceAdd, Nat.reduceBEq, z_nth, z_set, z_clr, z_st1, z_st2, z_isL, z_opt, z_pop, z_cats, z_cat, c_X2_endsInEmptyPair_0, c_X2_endsInEmptyPair_1, c_X2_endsInEmptyPair_2, c_X2_endsInEmptyPair_3, c_X2_endsInEmptyPair_4, c_X2_endsInEmptyPair_5, c_X2_endsInEmptyPair_6, c_X2_endsInEmptyPair_7, c_X2_endsInEmptyPair_8, c_X2_endsInEmptyPair_9, c_X2_endsInEmptyPair_10, c_X2_endsInEmptyPair_11, c_X2_endsInEmptyPair_12, c_X2_endsInEmptyPair_13, c_X2_endsInEmptyPair_14, c_X2_endsInEmptyPair_15, c_X2_endsInEmptyPair_16, c_X2_endsInEmptyPair_17, c_X2_endsInEmptyPair_18, c_X2_endsInEmptyPair_19, c_X2_endsInEmptyPair_20, c_X2_endsInEmptyPair_21, c_X2_endsInEmptyPair_22, c_X2_endsInEmptyPair_23, c_X2_endsInEmptyPair_24, c_X2_endsInEmptyPair_25, c_X2_endsInEmptyPair_26, c_X2_endsInEmptyPair_27, c_X2_endsInEmptyPair_28, c_X2_endsInEmptyPair_29, c_X2_endsInEmptyPair_30, c_X2_endsInEmptyPair_31, c_X2_endsInEmptyPair_32, c_X2_endsInEmptyPair_33, c_X2_endsInEmptyPair_34, c_X2_endsInEmptyPair_35, c_X2_endsInEmptyPair_36, c_X2_endsInEmptyPair_37, c_X2_endsInEmptyPair_38, c_X2_endsInEmptyPair_39, c_X2_endsInEmptyPair_40, c_X2_endsInEmptyPair_41, c_X2_endsInEmptyPair_42, o_aload, o_bin, o_call, o_callv, o_get, o_goto, o_ic, o_icmp, o_if, o_iload, o_istore, o_zret, z_cv0, z_cl0, z_cv1, z_cl1, z_cv2, z_cl2, z_cv3, z_cl3, z_cv4, z_cl4, z_cv5, z_cl5, z_cv6, z_cl6, z_cv7, z_cl7, z_cv8, z_cl8, z_cv9, z_cl9, z_cv10, z_cl10, z_cv11, z_cl11, z_cv12, z_cl12, z_cv13, z_cl13, z_len, z_elt, z_isI, z_isJ, Nat.reduceEqDiff, Nat.reduceLeDiff, Nat.reduceLT, Nat.reduceSub, Nat.reduceMul, not_false_eq_true, not_true_eq_false, true_and, and_true, true_or, or_true, false_or, or_false, true_implies, false_implies, implies_true, forall_const, and_self, ne_eq, Classical.not_not, z_up1, z_up2, z_cp1, z_cp2, z_upL1, z_upL2, if_true, if_false, and_false, false_and]) | (refine s_pfxAt ?_) | (refine s_lengthOf ?_) | (with_reducible refine And.intro ?_ ?_) | (with_reducible intro _) | (with_reducible refine z_go (i := 6) (cut := [6, 13, 22]) 45 ?_) | (with_reducible refine z_go (i := 13) (cut := [6, 13, 22]) 45 ?_) | (with_reducible refine z_go (i := 22) (cut := [6, 13, 22]) 45 ?_))
  all_goals (first | (with_reducible exact q) | ((try simp only [ge_iff_le, gt_iff_lt, ← Int32.not_lt, Classical.not_not] at *); (first | (with_reducible rfl) | rfl | (with_reducible exact z_vi_24 (by assumption) (by assumption)) | (with_reducible exact z_vi_4 (by assumption) (by assumption)) | (with_reducible exact z_vi_512 (by assumption) (by assumption)) | (with_reducible exact z_vi_14 (by assumption) (by assumption)) | (with_reducible exact z_vi_8 (by assumption) (by assumption)) | (with_reducible exact z_vinN (by assumption) (by assumption) (by decide)) | (with_reducible exact z_vin1 (by assumption) (by assumption) (by decide)) | ((try simp only [r_pfxPair] at q); (try simp only [ge_iff_le, gt_iff_lt, ← Int32.not_lt, Classical.not_not] at q); (try simp only [*, if_true, if_false, ite_self, true_or, or_true, false_or, or_false, true_and, and_true, false_and, and_false, not_true_eq_false, not_false_eq_true, cond_true, cond_false, decide_true, decide_false, Bool.true_and, Bool.and_true, Bool.false_and, Bool.and_false, Bool.true_or, Bool.or_true, Bool.false_or, Bool.or_false, Bool.not_true, Bool.not_false, ne_eq, Nat.reduceEqDiff] at q); with_reducible exact q))) | (simp_all [r_pfxPair]; done))
theorem e_X2_copyFrom {h : Nat} {a0 : zId} {a1 : zId} {M : zMem} {K : zK} (ha0 : (a0.1 == 99) = false) (ha1 : (a1.1 == 99) = false) (q : z_run (z_nop k_X2_copyFrom) (z_call h) K 0 [.inr (.inr a0), .inr (.inr a1)] [] M) : z_call (h + 1) 27 [.inr (.inr a0), .inr (.inr a1)] M K := ⟨by simp only [List.all_cons, List.all_nil, z_isU, ha0, ha1]; rfl, q⟩
theorem c_X2_copyFrom_0 : z_nop k_X2_copyFrom 0 = o_aload 0 := rfl
theorem c_X2_copyFrom_1 : z_nop k_X2_copyFrom 1 = o_aload 1 := rfl
theorem c_X2_copyFrom_2 : z_nop k_X2_copyFrom 2 = o_get 3 1 := rfl
theorem c_X2_copyFrom_3 : z_nop k_X2_copyFrom 3 = o_put 3 1 := rfl
theorem c_X2_copyFrom_4 : z_nop k_X2_copyFrom 4 = o_aload 1 := rfl
theorem c_X2_copyFrom_5 : z_nop k_X2_copyFrom 5 = o_getr 3 (fun w i => (22, w, i)) := rfl
theorem c_X2_copyFrom_6 : z_nop k_X2_copyFrom 6 = o_ic 0 := rfl
theorem c_X2_copyFrom_7 : z_nop k_X2_copyFrom 7 = o_aload 0 := rfl
theorem c_X2_copyFrom_8 : z_nop k_X2_copyFrom 8 = o_getr 3 (fun w i => (22, w, i)) := rfl
theorem c_X2_copyFrom_9 : z_nop k_X2_copyFrom 9 = o_ic 0 := rfl
theorem c_X2_copyFrom_10 : z_nop k_X2_copyFrom 10 = o_ic 512 := rfl
theorem c_X2_copyFrom_11 : z_nop k_X2_copyFrom 11 = o_copy 22 512 := rfl
theorem c_X2_copyFrom_12 : z_nop k_X2_copyFrom 12 = o_ret := rfl

def m_pfxCopy (M : zMem) (w i w2 : Nat) : zMem := z_cp (z_up M 3 w i 1 (M.1 3 w2 i 1)) 22 w i (fun j => if j < 512 then M.1 22 w2 i j else M.1 22 w i j)
set_option maxRecDepth 100000 in
theorem s_pfxCopy {h w i w2 : Nat} {M : zMem} {K : zK} (q : K none (m_pfxCopy M w i w2)) : z_call (h + 1) 27 [.inr (.inr (3, w, i)), .inr (.inr (3, w2, i))] M K := by
  refine e_X2_copyFrom rfl rfl ?_
  refine z_wp_run (cut := []) 15 _ _ _ _ ?_
  repeat' (first | (simp only [z_wp, Bool.false_eq_true, ↓reduceIte, z_e10, z_e01, eq_self, Int32.reduceLT, Int32.reduceLE, Int32.reduceGT, Int32.reduceGE, z_in, cond_true, cond_false, Nat.reduceAdd, Nat.reduceBEq, z_nth, z_set, z_clr, z_st1, z_st2, z_isL, z_opt, z_pop, z_cats, z_cat, c_X2_copyFrom_0, c_X2_copyFrom_1, c_X2_copyFrom_2, c_X2_copyFrom_3, c_X2_copyFrom_4, c_X2_copyFrom_5, c_X2_copyFrom_6, c_X2_copyFrom_7, c_X2_copyFrom_8, c_X2_copyFrom_9, c_X2_copyFrom_10, c_X2_copyFrom_11, c_X2_copyFrom_12, o_aload, o_copy, o_get, o_getr, o_ic, o_put, o_ret, z_cv0, z_cl0, z_cv1, z_cl1, z_cv2, z_cl2, z_cv3, z_cl3, z_cv4, z_cl4, z_cv5, z_cl5, z_cv6, z_cl6, z_cv7, z_cl7, z_cv8, z_cl8, z_cv9, z_cl9, z_cv10, z_cl10, z_cv11, z_cl11, z_cv12, z_cl12, z_cv13, z_cl13, z_len, z_elt, z_isI, z_isJ, Nat.reduceEqDiff, Nat.reduceLeDiff, Nat.reduceLT, Nat.reduceSub, Nat.reduceMul, not_false_eq_true, not_true_eq_false, true_and, and_true, true_or, or_true, false_or, or_false, true_implies, false_implies, implies_true, forall_const, and_self, ne_eq, Classical.not_not, z_up1, z_up2, z_cp1, z_cp2, z_upL1, z_upL2, if_true, if_false, and_false, false_and]) | (with_reducible refine And.intro ?_ ?_) | (with_reducible intro _))
  all_goals (first | (with_reducible exact q) | ((try simp only [ge_iff_le, gt_iff_lt, ← Int32.not_lt, Classical.not_not] at *); (first | (with_reducible rfl) | rfl | (with_reducible exact z_vi_24 (by assumption) (by assumption)) | (with_reducible exact z_vi_4 (by assumption) (by assumption)) | (with_reducible exact z_vi_512 (by assumption) (by assumption)) | (with_reducible exact z_vi_14 (by assumption) (by assumption)) | (with_reducible exact z_vi_8 (by assumption) (by assumption)) | (with_reducible exact z_vinN (by assumption) (by assumption) (by decide)) | (with_reducible exact z_vin1 (by assumption) (by assumption) (by decide)) | ((try simp only [m_pfxCopy] at q); (try simp only [ge_iff_le, gt_iff_lt, ← Int32.not_lt, Classical.not_not] at q); (try simp only [*, if_true, if_false, ite_self, true_or, or_true, false_or, or_false, true_and, and_true, false_and, and_false, not_true_eq_false, not_false_eq_true, cond_true, cond_false, decide_true, decide_false, Bool.true_and, Bool.and_true, Bool.false_and, Bool.and_false, Bool.true_or, Bool.or_true, Bool.false_or, Bool.or_false, Bool.not_true, Bool.not_false, ne_eq, Nat.reduceEqDiff] at q); with_reducible exact q))) | (simp_all [m_pfxCopy]; done))
theorem e_J9_floorMod_7cf53 {h : Nat} {a0 : Int32} {a1 : Int32} {M : zMem} {K : zK} (q : z_run (z_nop k_J9_floorMod_7cf53) (z_call h) K 0 [.inl a0, .inl a1, z_un] [] M) : z_call (h + 1) 275 [.inl a0, .inl a1] M K := ⟨by simp only [List.all_cons, List.all_nil, z_isU]; rfl, q⟩
theorem c_J9_floorMod_7cf53_0 : z_nop k_J9_floorMod_7cf53 0 = o_iload 0 := rfl
theorem c_J9_floorMod_7cf53_1 : z_nop k_J9_floorMod_7cf53 1 = o_iload 1 := rfl
theorem c_J9_floorMod_7cf53_2 : z_nop k_J9_floorMod_7cf53 2 = o_divi (fun x y => x - x / y * y) := rfl
theorem c_J9_floorMod_7cf53_3 : z_nop k_J9_floorMod_7cf53 3 = o_istore 2 := rfl
theorem c_J9_floorMod_7cf53_4 : z_nop k_J9_floorMod_7cf53 4 = o_iload 0 := rfl
theorem c_J9_floorMod_7cf53_5 : z_nop k_J9_floorMod_7cf53 5 = o_iload 1 := rfl
theorem c_J9_floorMod_7cf53_6 : z_nop k_J9_floorMod_7cf53 6 = o_bin (fun x y => x ^^^ y) := rfl
theorem c_J9_floorMod_7cf53_7 : z_nop k_J9_floorMod_7cf53 7 = o_if (fun x => x ≥ 0) 14 := rfl
theorem c_J9_floorMod_7cf53_8 : z_nop k_J9_floorMod_7cf53 8 = o_iload 2 := rfl
theorem c_J9_floorMod_7cf53_9 : z_nop k_J9_floorMod_7cf53 9 = o_if (fun x => x = 0) 14 := rfl
theorem c_J9_floorMod_7cf53_10 : z_nop k_J9_floorMod_7cf53 10 = o_iload 2 := rfl
theorem c_J9_floorMod_7cf53_11 : z_nop k_J9_floorMod_7cf53 11 = o_iload 1 := rfl
theorem c_J9_floorMod_7cf53_12 : z_nop k_J9_floorMod_7cf53 12 = o_bin (fun x y => x + y) := rfl
theorem c_J9_floorMod_7cf53_13 : z_nop k_J9_floorMod_7cf53 13 = o_iret := rfl
theorem c_J9_floorMod_7cf53_14 : z_nop k_J9_floorMod_7cf53 14 = o_iload 2 := rfl
theorem c_J9_floorMod_7cf53_15 : z_nop k_J9_floorMod_7cf53 15 = o_iret := rfl

def r_floorMod (x y : Int32) : Int32 := if ¬ x ^^^ y ≥ 0 ∧ ¬ x - x / y * y = 0 then x - x / y * y + y else x - x / y * y
set_option maxRecDepth 100000 in
theorem s_floorMod {h : Nat} {M : zMem} {x y : Int32} {K : zK} (hy : ¬ y = 0) (q : K (some (.inl (r_floorMod x y))) M) : z_call (h + 1) 275 [.inl x, .inl y] M K := by
  refine e_J9_floorMod_7cf53  ?_
  refine z_wp_run (cut := []) 18 _ _ _ _ ?_
  repeat' (first | (simp only [z_wp, Bool.false_eq_true, ↓reduceIte, z_e10, z_e01, eq_self, Int32.reduceLT, Int32.reduceLE, Int32.reduceGT, Int32.reduceGE, z_in, cond_true, cond_false, Nat.reduceAdd, Nat.reduceBEq, z_nth, z_set, z_clr, z_st1, z_st2, z_isL, z_opt, z_pop, z_cats, z_cat, c_J9_floorMod_7cf53_0, c_J9_floorMod_7cf53_1, c_J9_floorMod_7cf53_2, c_J9_floorMod_7cf53_3, c_J9_floorMod_7cf53_4, c_J9_floorMod_7cf53_5, c_J9_floorMod_7cf53_6, c_J9_floorMod_7cf53_7, c_J9_floorMod_7cf53_8, c_J9_floorMod_7cf53_9, c_J9_floorMod_7cf53_10, c_J9_floorMod_7cf53_11, c_J9_floorMod_7cf53_12, c_J9_floorMod_7cf53_13, c_J9_floorMod_7cf53_14, c_J9_floorMod_7cf53_15, o_bin, o_divi, o_if, o_iload, o_iret, o_istore, z_cv0, z_cl0, z_cv1, z_cl1, z_cv2, z_cl2, z_cv3, z_cl3, z_cv4, z_cl4, z_cv5, z_cl5, z_cv6, z_cl6, z_cv7, z_cl7, z_cv8, z_cl8, z_cv9, z_cl9, z_cv10, z_cl10, z_cv11, z_cl11, z_cv12, z_cl12, z_cv13, z_cl13, z_len, z_elt, z_isI, z_isJ, Nat.reduceEqDiff, Nat.reduceLeDiff, Nat.reduceLT, Nat.reduceSub, Nat.reduceMul, not_false_eq_true, not_true_eq_false, true_and, and_true, true_or, or_true, false_or, or_false, true_implies, false_implies, implies_true, forall_const, and_self, ne_eq, Classical.not_not, z_up1, z_up2, z_cp1, z_cp2, z_upL1, z_upL2, if_true, if_false, and_false, false_and]) | (with_reducible refine And.intro ?_ ?_) | (with_reducible intro _))
  all_goals (first | (with_reducible exact q) | ((try simp only [ge_iff_le, gt_iff_lt, ← Int32.not_lt, Classical.not_not] at *); (first | (with_reducible rfl) | rfl | (with_reducible exact z_vi_24 (by assumption) (by assumption)) | (with_reducible exact z_vi_4 (by assumption) (by assumption)) | (with_reducible exact z_vi_512 (by assumption) (by assumption)) | (with_reducible exact z_vi_14 (by assumption) (by assumption)) | (with_reducible exact z_vi_8 (by assumption) (by assumption)) | (with_reducible exact z_vinN (by assumption) (by assumption) (by decide)) | (with_reducible exact z_vin1 (by assumption) (by assumption) (by decide)) | ((try simp only [r_floorMod] at q); (try simp only [ge_iff_le, gt_iff_lt, ← Int32.not_lt, Classical.not_not] at q); (try simp only [*, if_true, if_false, ite_self, true_or, or_true, false_or, or_false, true_and, and_true, false_and, and_false, not_true_eq_false, not_false_eq_true, cond_true, cond_false, decide_true, decide_false, Bool.true_and, Bool.and_true, Bool.false_and, Bool.and_false, Bool.true_or, Bool.or_true, Bool.false_or, Bool.or_false, Bool.not_true, Bool.not_false, ne_eq, Nat.reduceEqDiff] at q); with_reducible exact q))) | (simp_all [r_floorMod]; done))
