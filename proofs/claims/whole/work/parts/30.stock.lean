/-! Stock: frames, what is heard, ends -/
theorem e_X4_releaseAll {h : Nat} {a0 : zId} {a1 : Int32} {M : zMem} {K : zK} (ha0 : (a0.1 == 99) = false) (q : z_run (z_nop k_X4_releaseAll) (z_call h) K 0 [.inr (.inr a0), .inl a1, z_un] [] M) : z_call (h + 1) 55 [.inr (.inr a0), .inl a1] M K := ⟨by simp only [List.all_cons, List.all_nil, z_isU, ha0]; rfl, q⟩
theorem c_X4_releaseAll_0 : z_nop k_X4_releaseAll 0 = o_ic 0 := rfl
theorem c_X4_releaseAll_1 : z_nop k_X4_releaseAll 1 = o_istore 2 := rfl
theorem c_X4_releaseAll_2 : z_nop k_X4_releaseAll 2 = o_iload 2 := rfl
theorem c_X4_releaseAll_3 : z_nop k_X4_releaseAll 3 = o_ic 24 := rfl
theorem c_X4_releaseAll_4 : z_nop k_X4_releaseAll 4 = o_icmp (fun x y => x ≥ y) 19 := rfl
theorem c_X4_releaseAll_5 : z_nop k_X4_releaseAll 5 = o_aload 0 := rfl
theorem c_X4_releaseAll_6 : z_nop k_X4_releaseAll 6 = o_getr 9 (fun w i => (30, w, 0)) := rfl
theorem c_X4_releaseAll_7 : z_nop k_X4_releaseAll 7 = o_iload 2 := rfl
theorem c_X4_releaseAll_8 : z_nop k_X4_releaseAll 8 = o_aald := rfl
theorem c_X4_releaseAll_9 : z_nop k_X4_releaseAll 9 = o_get 7 4 := rfl
theorem c_X4_releaseAll_10 : z_nop k_X4_releaseAll 10 = o_iload 1 := rfl
theorem c_X4_releaseAll_11 : z_nop k_X4_releaseAll 11 = o_icmp (fun x y => x ≠ y) 17 := rfl
theorem c_X4_releaseAll_12 : z_nop k_X4_releaseAll 12 = o_aload 0 := rfl
theorem c_X4_releaseAll_13 : z_nop k_X4_releaseAll 13 = o_getr 9 (fun w i => (30, w, 0)) := rfl
theorem c_X4_releaseAll_14 : z_nop k_X4_releaseAll 14 = o_iload 2 := rfl
theorem c_X4_releaseAll_15 : z_nop k_X4_releaseAll 15 = o_aald := rfl
theorem c_X4_releaseAll_16 : z_nop k_X4_releaseAll 16 = o_callv 7 78 1 := rfl
theorem c_X4_releaseAll_17 : z_nop k_X4_releaseAll 17 = o_iinc 2 1 := rfl
theorem c_X4_releaseAll_18 : z_nop k_X4_releaseAll 18 = o_goto 2 := rfl
theorem c_X4_releaseAll_19 : z_nop k_X4_releaseAll 19 = o_ret := rfl

def f_rel (w : Nat) (x : Int32) (i : Nat) (M : zMem) : zMem := if M.1 7 w i 4 = x then m_release M w i else M
def m_releaseAll (M : zMem) (w : Nat) (x : Int32) : zMem := z_it (f_rel w x) 24 M
set_option maxRecDepth 100000 in
theorem s_releaseAll {h w : Nat} {M : zMem} {x : Int32} {K : zK} (q : K none (m_releaseAll M w x)) : z_call (h + 2) 55 [.inr (.inr (9, w, 0)), .inl x] M K := by
  unfold m_releaseAll at q
  refine e_X4_releaseAll rfl ?_
  refine z_wp_run (cut := [2, 17]) 22 _ _ _ _ ?_
  repeat' (first | (simp only [z_wp, Bool.false_eq_true, ↓reduceIte, z_e10, z_e01, eq_self, Int32.reduceLT, Int32.reduceLE, Int32.reduceGT, Int32.reduceGE, z_in, cond_true, cond_false, Nat.reduceAdd, Nat.reduceBEq, z_nth, z_set, z_clr, z_st1, z_st2, z_isL, z_opt, z_pop, z_cats, z_cat, c_X4_releaseAll_0, c_X4_releaseAll_1, c_X4_releaseAll_2, c_X4_releaseAll_3, c_X4_releaseAll_4, c_X4_releaseAll_5, c_X4_releaseAll_6, c_X4_releaseAll_7, c_X4_releaseAll_8, c_X4_releaseAll_9, c_X4_releaseAll_10, c_X4_releaseAll_11, c_X4_releaseAll_12, c_X4_releaseAll_13, c_X4_releaseAll_14, c_X4_releaseAll_15, c_X4_releaseAll_16, c_X4_releaseAll_17, c_X4_releaseAll_18, c_X4_releaseAll_19, o_aald, o_aload, o_callv, o_get, o_getr, o_goto, o_ic, o_icmp, o_iinc, o_iload, o_istore, o_ret, z_cv0, z_cl0, z_cv1, z_cl1, z_cv2, z_cl2, z_cv3, z_cl3, z_cv4, z_cl4, z_cv5, z_cl5, z_cv6, z_cl6, z_cv7, z_cl7, z_cv8, z_cl8, z_cv9, z_cl9, z_cv10, z_cl10, z_cv11, z_cl11, z_cv12, z_cl12, z_cv13, z_cl13, z_len, z_elt, z_isI, z_isJ, Nat.reduceEqDiff, Nat.reduceLeDiff, Nat.reduceLT, Nat.reduceSub, Nat.reduceMul, not_false_eq_true, not_true_eq_false, true_and, and_true, true_or, or_true, false_or, or_false, true_implies, false_implies, implies_true, forall_const, and_self, ne_eq, Classical.not_not, z_up1, z_up2, z_cp1, z_cp2, z_upL1, z_upL2, if_true, if_false, and_false, false_and]) | (with_reducible refine And.intro ?_ ?_) | (with_reducible intro _) | (with_reducible refine z_go (i := 17) (cut := [2, 17]) 22 ?_))
  refine z_loop (fun n => z_run (z_nop k_X4_releaseAll) (z_call (h+ 1)) K 2 [.inr (.inr (9, w, 0)), .inl x, .inl (nI n)] [] (z_it (f_rel w x) n M)) 24 ?_ ?_ 0 (by omega)
  · obtain ⟨f1, f2⟩ := z_eq24
    refine z_go (cut := [2, 17]) 22 ?_
    repeat' (first | (simp only [z_wp, Bool.false_eq_true, ↓reduceIte, z_e10, z_e01, eq_self, Int32.reduceLT, Int32.reduceLE, Int32.reduceGT, Int32.reduceGE, z_in, cond_true, cond_false, Nat.reduceAdd, Nat.reduceBEq, z_nth, z_set, z_clr, z_st1, z_st2, z_isL, z_opt, z_pop, z_cats, z_cat, c_X4_releaseAll_0, c_X4_releaseAll_1, c_X4_releaseAll_2, c_X4_releaseAll_3, c_X4_releaseAll_4, c_X4_releaseAll_5, c_X4_releaseAll_6, c_X4_releaseAll_7, c_X4_releaseAll_8, c_X4_releaseAll_9, c_X4_releaseAll_10, c_X4_releaseAll_11, c_X4_releaseAll_12, c_X4_releaseAll_13, c_X4_releaseAll_14, c_X4_releaseAll_15, c_X4_releaseAll_16, c_X4_releaseAll_17, c_X4_releaseAll_18, c_X4_releaseAll_19, o_aald, o_aload, o_callv, o_get, o_getr, o_goto, o_ic, o_icmp, o_iinc, o_iload, o_istore, o_ret, z_cv0, z_cl0, z_cv1, z_cl1, z_cv2, z_cl2, z_cv3, z_cl3, z_cv4, z_cl4, z_cv5, z_cl5, z_cv6, z_cl6, z_cv7, z_cl7, z_cv8, z_cl8, z_cv9, z_cl9, z_cv10, z_cl10, z_cv11, z_cl11, z_cv12, z_cl12, z_cv13, z_cl13, z_len, z_elt, z_isI, z_isJ, Nat.reduceEqDiff, Nat.reduceLeDiff, Nat.reduceLT, Nat.reduceSub, Nat.reduceMul, not_false_eq_true, not_true_eq_false, true_and, and_true, true_or, or_true, false_or, or_false, true_implies, false_implies, implies_true, forall_const, and_self, ne_eq, Classical.not_not, z_up1, z_up2, z_cp1, z_cp2, z_upL1, z_upL2, if_true, if_false, and_false, false_and, f1, f2]) | (refine s_release ?_) | (with_reducible refine And.intro ?_ ?_) | (with_reducible intro _) | (with_reducible refine z_go (i := 17) (cut := [2, 17]) 22 ?_))
    all_goals (first | (with_reducible exact q) | ((try simp only [ge_iff_le, gt_iff_lt, ← Int32.not_lt, Classical.not_not] at *); (first | (with_reducible rfl) | rfl | (with_reducible exact z_vi_24 (by assumption) (by assumption)) | (with_reducible exact z_vi_4 (by assumption) (by assumption)) | (with_reducible exact z_vi_512 (by assumption) (by assumption)) | (with_reducible exact z_vi_14 (by assumption) (by assumption)) | (with_reducible exact z_vi_8 (by assumption) (by assumption)) | (with_reducible exact z_vinN (by assumption) (by assumption) (by decide)) | (with_reducible exact z_vin1 (by assumption) (by assumption) (by decide)) | ((try simp only [z_it, f_rel] at q); (try simp only [ge_iff_le, gt_iff_lt, ← Int32.not_lt, Classical.not_not] at q); (try simp only [*, if_true, if_false, ite_self, true_or, or_true, false_or, or_false, true_and, and_true, false_and, and_false, not_true_eq_false, not_false_eq_true, cond_true, cond_false, decide_true, decide_false, Bool.true_and, Bool.and_true, Bool.false_and, Bool.and_false, Bool.true_or, Bool.or_true, Bool.false_or, Bool.or_false, Bool.not_true, Bool.not_false, ne_eq, Nat.reduceEqDiff] at q); with_reducible exact q))) | (simp_all [z_it, f_rel]; done))
  · intro n hn ih
    obtain ⟨f1, f2, f3, f4, f5⟩ := z_lt24 hn
    refine z_go (cut := [2, 17]) 22 ?_
    repeat' (first | (simp only [z_wp, Bool.false_eq_true, ↓reduceIte, z_e10, z_e01, eq_self, Int32.reduceLT, Int32.reduceLE, Int32.reduceGT, Int32.reduceGE, z_in, cond_true, cond_false, Nat.reduceAdd, Nat.reduceBEq, z_nth, z_set, z_clr, z_st1, z_st2, z_isL, z_opt, z_pop, z_cats, z_cat, c_X4_releaseAll_0, c_X4_releaseAll_1, c_X4_releaseAll_2, c_X4_releaseAll_3, c_X4_releaseAll_4, c_X4_releaseAll_5, c_X4_releaseAll_6, c_X4_releaseAll_7, c_X4_releaseAll_8, c_X4_releaseAll_9, c_X4_releaseAll_10, c_X4_releaseAll_11, c_X4_releaseAll_12, c_X4_releaseAll_13, c_X4_releaseAll_14, c_X4_releaseAll_15, c_X4_releaseAll_16, c_X4_releaseAll_17, c_X4_releaseAll_18, c_X4_releaseAll_19, o_aald, o_aload, o_callv, o_get, o_getr, o_goto, o_ic, o_icmp, o_iinc, o_iload, o_istore, o_ret, z_cv0, z_cl0, z_cv1, z_cl1, z_cv2, z_cl2, z_cv3, z_cl3, z_cv4, z_cl4, z_cv5, z_cl5, z_cv6, z_cl6, z_cv7, z_cl7, z_cv8, z_cl8, z_cv9, z_cl9, z_cv10, z_cl10, z_cv11, z_cl11, z_cv12, z_cl12, z_cv13, z_cl13, z_len, z_elt, z_isI, z_isJ, Nat.reduceEqDiff, Nat.reduceLeDiff, Nat.reduceLT, Nat.reduceSub, Nat.reduceMul, not_false_eq_true, not_true_eq_false, true_and, and_true, true_or, or_true, false_or, or_false, true_implies, false_implies, implies_true, forall_const, and_self, ne_eq, Classical.not_not, z_up1, z_up2, z_cp1, z_cp2, z_upL1, z_upL2, if_true, if_false, and_false, false_and, f1, f2, f3, f4, f5]) | (refine s_release ?_) | (with_reducible refine And.intro ?_ ?_) | (with_reducible intro _) | (with_reducible refine z_go (i := 17) (cut := [2, 17]) 22 ?_))
    all_goals (first | (with_reducible exact ih) | ((try simp only [ge_iff_le, gt_iff_lt, ← Int32.not_lt, Classical.not_not] at *); (first | (with_reducible rfl) | rfl | (with_reducible exact z_vi_24 (by assumption) (by assumption)) | (with_reducible exact z_vi_4 (by assumption) (by assumption)) | (with_reducible exact z_vi_512 (by assumption) (by assumption)) | (with_reducible exact z_vi_14 (by assumption) (by assumption)) | (with_reducible exact z_vi_8 (by assumption) (by assumption)) | (with_reducible exact z_vinN (by assumption) (by assumption) (by decide)) | (with_reducible exact z_vin1 (by assumption) (by assumption) (by decide)) | ((try simp only [z_it, f_rel] at ih); (try simp only [ge_iff_le, gt_iff_lt, ← Int32.not_lt, Classical.not_not] at ih); (try simp only [*, if_true, if_false, ite_self, true_or, or_true, false_or, or_false, true_and, and_true, false_and, and_false, not_true_eq_false, not_false_eq_true, cond_true, cond_false, decide_true, decide_false, Bool.true_and, Bool.and_true, Bool.false_and, Bool.and_false, Bool.true_or, Bool.or_true, Bool.false_or, Bool.or_false, Bool.not_true, Bool.not_false, ne_eq, Nat.reduceEqDiff] at ih); with_reducible exact ih))) | (simp_all [z_it, f_rel]; done))
theorem e_X4_inSlotZero {h : Nat} {a0 : zId} {a1 : Int32} {M : zMem} {K : zK} (ha0 : (a0.1 == 99) = false) (q : z_run (z_nop k_X4_inSlotZero) (z_call h) K 0 [.inr (.inr a0), .inl a1, z_un, z_un] [] M) : z_call (h + 1) 44 [.inr (.inr a0), .inl a1] M K := ⟨by simp only [List.all_cons, List.all_nil, z_isU, ha0]; rfl, q⟩
theorem c_X4_inSlotZero_0 : z_nop k_X4_inSlotZero 0 = o_ic 0 := rfl
theorem c_X4_inSlotZero_1 : z_nop k_X4_inSlotZero 1 = o_istore 2 := rfl
theorem c_X4_inSlotZero_2 : z_nop k_X4_inSlotZero 2 = o_ic 0 := rfl
theorem c_X4_inSlotZero_3 : z_nop k_X4_inSlotZero 3 = o_istore 3 := rfl
theorem c_X4_inSlotZero_4 : z_nop k_X4_inSlotZero 4 = o_iload 3 := rfl
theorem c_X4_inSlotZero_5 : z_nop k_X4_inSlotZero 5 = o_ic 24 := rfl
theorem c_X4_inSlotZero_6 : z_nop k_X4_inSlotZero 6 = o_icmp (fun x y => x ≥ y) 30 := rfl
theorem c_X4_inSlotZero_7 : z_nop k_X4_inSlotZero 7 = o_iload 2 := rfl
theorem c_X4_inSlotZero_8 : z_nop k_X4_inSlotZero 8 = o_aload 0 := rfl
theorem c_X4_inSlotZero_9 : z_nop k_X4_inSlotZero 9 = o_getr 9 (fun w i => (30, w, 0)) := rfl
theorem c_X4_inSlotZero_10 : z_nop k_X4_inSlotZero 10 = o_iload 3 := rfl
theorem c_X4_inSlotZero_11 : z_nop k_X4_inSlotZero 11 = o_aald := rfl
theorem c_X4_inSlotZero_12 : z_nop k_X4_inSlotZero 12 = o_get 7 4 := rfl
theorem c_X4_inSlotZero_13 : z_nop k_X4_inSlotZero 13 = o_iload 1 := rfl
theorem c_X4_inSlotZero_14 : z_nop k_X4_inSlotZero 14 = o_icmp (fun x y => x ≠ y) 25 := rfl
theorem c_X4_inSlotZero_15 : z_nop k_X4_inSlotZero 15 = o_aload 0 := rfl
theorem c_X4_inSlotZero_16 : z_nop k_X4_inSlotZero 16 = o_getr 9 (fun w i => (30, w, 0)) := rfl
theorem c_X4_inSlotZero_17 : z_nop k_X4_inSlotZero 17 = o_iload 3 := rfl
theorem c_X4_inSlotZero_18 : z_nop k_X4_inSlotZero 18 = o_aald := rfl
theorem c_X4_inSlotZero_19 : z_nop k_X4_inSlotZero 19 = o_get 7 5 := rfl
theorem c_X4_inSlotZero_20 : z_nop k_X4_inSlotZero 20 = o_if (fun x => x ≠ 0) 25 := rfl
theorem c_X4_inSlotZero_21 : z_nop k_X4_inSlotZero 21 = o_ic 1 := rfl
theorem c_X4_inSlotZero_22 : z_nop k_X4_inSlotZero 22 = o_iload 3 := rfl
theorem c_X4_inSlotZero_23 : z_nop k_X4_inSlotZero 23 = o_bin (fun x y => x <<< (y &&& 31)) := rfl
theorem c_X4_inSlotZero_24 : z_nop k_X4_inSlotZero 24 = o_goto 26 := rfl
theorem c_X4_inSlotZero_25 : z_nop k_X4_inSlotZero 25 = o_ic 0 := rfl
theorem c_X4_inSlotZero_26 : z_nop k_X4_inSlotZero 26 = o_bin (fun x y => x ||| y) := rfl
theorem c_X4_inSlotZero_27 : z_nop k_X4_inSlotZero 27 = o_istore 2 := rfl
theorem c_X4_inSlotZero_28 : z_nop k_X4_inSlotZero 28 = o_iinc 3 1 := rfl
theorem c_X4_inSlotZero_29 : z_nop k_X4_inSlotZero 29 = o_goto 4 := rfl
theorem c_X4_inSlotZero_30 : z_nop k_X4_inSlotZero 30 = o_iload 2 := rfl
theorem c_X4_inSlotZero_31 : z_nop k_X4_inSlotZero 31 = o_iret := rfl

def r_inSlotZero (M : zMem) (w : Nat) (x : Int32) : Int32 := z_mk (fun i => decide (M.1 7 w i 4 = x ∧ M.1 7 w i 5 = 0)) 24
set_option maxRecDepth 100000 in
theorem s_inSlotZero {h w : Nat} {M : zMem} {x : Int32} {K : zK} (q : K (some (.inl (r_inSlotZero M w x))) M) : z_call (h + 1) 44 [.inr (.inr (9, w, 0)), .inl x] M K := by
  unfold r_inSlotZero at q
  refine e_X4_inSlotZero rfl ?_
  refine z_wp_run (cut := [4]) 34 _ _ _ _ ?_
  repeat' (first | (simp only [z_wp, Bool.false_eq_true, ↓reduceIte, z_e10, z_e01, eq_self, Int32.reduceLT, Int32.reduceLE, Int32.reduceGT, Int32.reduceGE, z_in, cond_true, cond_false, Nat.reduceAdd, Nat.reduceBEq, z_nth, z_set, z_clr, z_st1, z_st2, z_isL, z_opt, z_pop, z_cats, z_cat, c_X4_inSlotZero_0, c_X4_inSlotZero_1, c_X4_inSlotZero_2, c_X4_inSlotZero_3, c_X4_inSlotZero_4, c_X4_inSlotZero_5, c_X4_inSlotZero_6, c_X4_inSlotZero_7, c_X4_inSlotZero_8, c_X4_inSlotZero_9, c_X4_inSlotZero_10, c_X4_inSlotZero_11, c_X4_inSlotZero_12, c_X4_inSlotZero_13, c_X4_inSlotZero_14, c_X4_inSlotZero_15, c_X4_inSlotZero_16, c_X4_inSlotZero_17, c_X4_inSlotZero_18, c_X4_inSlotZero_19, c_X4_inSlotZero_20, c_X4_inSlotZero_21, c_X4_inSlotZero_22, c_X4_inSlotZero_23, c_X4_inSlotZero_24, c_X4_inSlotZero_25, c_X4_inSlotZero_26, c_X4_inSlotZero_27, c_X4_inSlotZero_28, c_X4_inSlotZero_29, c_X4_inSlotZero_30, c_X4_inSlotZero_31, o_aald, o_aload, o_bin, o_get, o_getr, o_goto, o_ic, o_icmp, o_if, o_iinc, o_iload, o_iret, o_istore, z_cv0, z_cl0, z_cv1, z_cl1, z_cv2, z_cl2, z_cv3, z_cl3, z_cv4, z_cl4, z_cv5, z_cl5, z_cv6, z_cl6, z_cv7, z_cl7, z_cv8, z_cl8, z_cv9, z_cl9, z_cv10, z_cl10, z_cv11, z_cl11, z_cv12, z_cl12, z_cv13, z_cl13, z_len, z_elt, z_isI, z_isJ, Nat.reduceEqDiff, Nat.reduceLeDiff, Nat.reduceLT, Nat.reduceSub, Nat.reduceMul, not_false_eq_true, not_true_eq_false, true_and, and_true, true_or, or_true, false_or, or_false, true_implies, false_implies, implies_true, forall_const, and_self, ne_eq, Classical.not_not, z_up1, z_up2, z_cp1, z_cp2, z_upL1, z_upL2, if_true, if_false, and_false, false_and]) | (with_reducible refine And.intro ?_ ?_) | (with_reducible intro _))
  refine z_loop (fun n => z_run (z_nop k_X4_inSlotZero) (z_call (h)) K 4 [.inr (.inr (9, w, 0)), .inl x, .inl (z_mk (fun i => decide (M.1 7 w i 4 = x ∧ M.1 7 w i 5 = 0)) n), .inl (nI n)] [] (M)) 24 ?_ ?_ 0 (by omega)
  · obtain ⟨f1, f2⟩ := z_eq24
    refine z_go (cut := [4]) 34 ?_
    repeat' (first | (simp only [z_wp, Bool.false_eq_true, ↓reduceIte, z_e10, z_e01, eq_self, Int32.reduceLT, Int32.reduceLE, Int32.reduceGT, Int32.reduceGE, z_in, cond_true, cond_false, Nat.reduceAdd, Nat.reduceBEq, z_nth, z_set, z_clr, z_st1, z_st2, z_isL, z_opt, z_pop, z_cats, z_cat, c_X4_inSlotZero_0, c_X4_inSlotZero_1, c_X4_inSlotZero_2, c_X4_inSlotZero_3, c_X4_inSlotZero_4, c_X4_inSlotZero_5, c_X4_inSlotZero_6, c_X4_inSlotZero_7, c_X4_inSlotZero_8, c_X4_inSlotZero_9, c_X4_inSlotZero_10, c_X4_inSlotZero_11, c_X4_inSlotZero_12, c_X4_inSlotZero_13, c_X4_inSlotZero_14, c_X4_inSlotZero_15, c_X4_inSlotZero_16, c_X4_inSlotZero_17, c_X4_inSlotZero_18, c_X4_inSlotZero_19, c_X4_inSlotZero_20, c_X4_inSlotZero_21, c_X4_inSlotZero_22, c_X4_inSlotZero_23, c_X4_inSlotZero_24, c_X4_inSlotZero_25, c_X4_inSlotZero_26, c_X4_inSlotZero_27, c_X4_inSlotZero_28, c_X4_inSlotZero_29, c_X4_inSlotZero_30, c_X4_inSlotZero_31, o_aald, o_aload, o_bin, o_get, o_getr, o_goto, o_ic, o_icmp, o_if, o_iinc, o_iload, o_iret, o_istore, z_cv0, z_cl0, z_cv1, z_cl1, z_cv2, z_cl2, z_cv3, z_cl3, z_cv4, z_cl4, z_cv5, z_cl5, z_cv6, z_cl6, z_cv7, z_cl7, z_cv8, z_cl8, z_cv9, z_cl9, z_cv10, z_cl10, z_cv11, z_cl11, z_cv12, z_cl12, z_cv13, z_cl13, z_len, z_elt, z_isI, z_isJ, Nat.reduceEqDiff, Nat.reduceLeDiff, Nat.reduceLT, Nat.reduceSub, Nat.reduceMul, not_false_eq_true, not_true_eq_false, true_and, and_true, true_or, or_true, false_or, or_false, true_implies, false_implies, implies_true, forall_const, and_self, ne_eq, Classical.not_not, z_up1, z_up2, z_cp1, z_cp2, z_upL1, z_upL2, if_true, if_false, and_false, false_and, f1, f2]) | (with_reducible refine And.intro ?_ ?_) | (with_reducible intro _))
    all_goals (first | (with_reducible exact q) | ((try simp only [ge_iff_le, gt_iff_lt, ← Int32.not_lt, Classical.not_not] at *); (first | (with_reducible rfl) | rfl | (with_reducible exact z_vi_24 (by assumption) (by assumption)) | (with_reducible exact z_vi_4 (by assumption) (by assumption)) | (with_reducible exact z_vi_512 (by assumption) (by assumption)) | (with_reducible exact z_vi_14 (by assumption) (by assumption)) | (with_reducible exact z_vi_8 (by assumption) (by assumption)) | (with_reducible exact z_vinN (by assumption) (by assumption) (by decide)) | (with_reducible exact z_vin1 (by assumption) (by assumption) (by decide)) | ((try simp only [z_mk] at q); (try simp only [ge_iff_le, gt_iff_lt, ← Int32.not_lt, Classical.not_not] at q); (try simp only [*, if_true, if_false, ite_self, true_or, or_true, false_or, or_false, true_and, and_true, false_and, and_false, not_true_eq_false, not_false_eq_true, cond_true, cond_false, decide_true, decide_false, Bool.true_and, Bool.and_true, Bool.false_and, Bool.and_false, Bool.true_or, Bool.or_true, Bool.false_or, Bool.or_false, Bool.not_true, Bool.not_false, ne_eq, Nat.reduceEqDiff] at q); with_reducible exact q))) | (simp_all [z_mk]; done))
  · intro n hn ih
    obtain ⟨f1, f2, f3, f4, f5⟩ := z_lt24 hn
    refine z_go (cut := [4]) 34 ?_
    repeat' (first | (simp only [z_wp, Bool.false_eq_true, ↓reduceIte, z_e10, z_e01, eq_self, Int32.reduceLT, Int32.reduceLE, Int32.reduceGT, Int32.reduceGE, z_in, cond_true, cond_false, Nat.reduceAdd, Nat.reduceBEq, z_nth, z_set, z_clr, z_st1, z_st2, z_isL, z_opt, z_pop, z_cats, z_cat, c_X4_inSlotZero_0, c_X4_inSlotZero_1, c_X4_inSlotZero_2, c_X4_inSlotZero_3, c_X4_inSlotZero_4, c_X4_inSlotZero_5, c_X4_inSlotZero_6, c_X4_inSlotZero_7, c_X4_inSlotZero_8, c_X4_inSlotZero_9, c_X4_inSlotZero_10, c_X4_inSlotZero_11, c_X4_inSlotZero_12, c_X4_inSlotZero_13, c_X4_inSlotZero_14, c_X4_inSlotZero_15, c_X4_inSlotZero_16, c_X4_inSlotZero_17, c_X4_inSlotZero_18, c_X4_inSlotZero_19, c_X4_inSlotZero_20, c_X4_inSlotZero_21, c_X4_inSlotZero_22, c_X4_inSlotZero_23, c_X4_inSlotZero_24, c_X4_inSlotZero_25, c_X4_inSlotZero_26, c_X4_inSlotZero_27, c_X4_inSlotZero_28, c_X4_inSlotZero_29, c_X4_inSlotZero_30, c_X4_inSlotZero_31, o_aald, o_aload, o_bin, o_get, o_getr, o_goto, o_ic, o_icmp, o_if, o_iinc, o_iload, o_iret, o_istore, z_cv0, z_cl0, z_cv1, z_cl1, z_cv2, z_cl2, z_cv3, z_cl3, z_cv4, z_cl4, z_cv5, z_cl5, z_cv6, z_cl6, z_cv7, z_cl7, z_cv8, z_cl8, z_cv9, z_cl9, z_cv10, z_cl10, z_cv11, z_cl11, z_cv12, z_cl12, z_cv13, z_cl13, z_len, z_elt, z_isI, z_isJ, Nat.reduceEqDiff, Nat.reduceLeDiff, Nat.reduceLT, Nat.reduceSub, Nat.reduceMul, not_false_eq_true, not_true_eq_false, true_and, and_true, true_or, or_true, false_or, or_false, true_implies, false_implies, implies_true, forall_const, and_self, ne_eq, Classical.not_not, z_up1, z_up2, z_cp1, z_cp2, z_upL1, z_upL2, if_true, if_false, and_false, false_and, f1, f2, f3, f4, f5]) | (with_reducible refine And.intro ?_ ?_) | (with_reducible intro _))
    all_goals (first | (with_reducible exact ih) | ((try simp only [ge_iff_le, gt_iff_lt, ← Int32.not_lt, Classical.not_not] at *); (first | (with_reducible rfl) | rfl | (with_reducible exact z_vi_24 (by assumption) (by assumption)) | (with_reducible exact z_vi_4 (by assumption) (by assumption)) | (with_reducible exact z_vi_512 (by assumption) (by assumption)) | (with_reducible exact z_vi_14 (by assumption) (by assumption)) | (with_reducible exact z_vi_8 (by assumption) (by assumption)) | (with_reducible exact z_vinN (by assumption) (by assumption) (by decide)) | (with_reducible exact z_vin1 (by assumption) (by assumption) (by decide)) | ((try simp only [z_mk] at ih); (try simp only [ge_iff_le, gt_iff_lt, ← Int32.not_lt, Classical.not_not] at ih); (try simp only [*, if_true, if_false, ite_self, true_or, or_true, false_or, or_false, true_and, and_true, false_and, and_false, not_true_eq_false, not_false_eq_true, cond_true, cond_false, decide_true, decide_false, Bool.true_and, Bool.and_true, Bool.false_and, Bool.and_false, Bool.true_or, Bool.or_true, Bool.false_or, Bool.or_false, Bool.not_true, Bool.not_false, ne_eq, Nat.reduceEqDiff] at ih); with_reducible exact ih))) | (simp_all [z_mk]; done))
theorem e_X4_begunBy {h : Nat} {a0 : zId} {a1 : Int32} {a2 : Int32} {M : zMem} {K : zK} (ha0 : (a0.1 == 99) = false) (q : z_run (z_nop k_X4_begunBy) (z_call h) K 0 [.inr (.inr a0), .inl a1, .inl a2, z_un, z_un] [] M) : z_call (h + 1) 45 [.inr (.inr a0), .inl a1, .inl a2] M K := ⟨by simp only [List.all_cons, List.all_nil, z_isU, ha0]; rfl, q⟩
theorem c_X4_begunBy_0 : z_nop k_X4_begunBy 0 = o_ic 0 := rfl
theorem c_X4_begunBy_1 : z_nop k_X4_begunBy 1 = o_istore 3 := rfl
theorem c_X4_begunBy_2 : z_nop k_X4_begunBy 2 = o_ic 0 := rfl
theorem c_X4_begunBy_3 : z_nop k_X4_begunBy 3 = o_istore 4 := rfl
theorem c_X4_begunBy_4 : z_nop k_X4_begunBy 4 = o_iload 4 := rfl
theorem c_X4_begunBy_5 : z_nop k_X4_begunBy 5 = o_ic 24 := rfl
theorem c_X4_begunBy_6 : z_nop k_X4_begunBy 6 = o_icmp (fun x y => x ≥ y) 32 := rfl
theorem c_X4_begunBy_7 : z_nop k_X4_begunBy 7 = o_iload 3 := rfl
theorem c_X4_begunBy_8 : z_nop k_X4_begunBy 8 = o_aload 0 := rfl
theorem c_X4_begunBy_9 : z_nop k_X4_begunBy 9 = o_getr 9 (fun w i => (30, w, 0)) := rfl
theorem c_X4_begunBy_10 : z_nop k_X4_begunBy 10 = o_iload 4 := rfl
theorem c_X4_begunBy_11 : z_nop k_X4_begunBy 11 = o_aald := rfl
theorem c_X4_begunBy_12 : z_nop k_X4_begunBy 12 = o_get 7 4 := rfl
theorem c_X4_begunBy_13 : z_nop k_X4_begunBy 13 = o_iload 1 := rfl
theorem c_X4_begunBy_14 : z_nop k_X4_begunBy 14 = o_icmp (fun x y => x ≠ y) 27 := rfl
theorem c_X4_begunBy_15 : z_nop k_X4_begunBy 15 = o_iload 2 := rfl
theorem c_X4_begunBy_16 : z_nop k_X4_begunBy 16 = o_aload 0 := rfl
theorem c_X4_begunBy_17 : z_nop k_X4_begunBy 17 = o_getr 9 (fun w i => (30, w, 0)) := rfl
theorem c_X4_begunBy_18 : z_nop k_X4_begunBy 18 = o_iload 4 := rfl
theorem c_X4_begunBy_19 : z_nop k_X4_begunBy 19 = o_aald := rfl
theorem c_X4_begunBy_20 : z_nop k_X4_begunBy 20 = o_callv 7 79 1 := rfl
theorem c_X4_begunBy_21 : z_nop k_X4_begunBy 21 = o_call 18 2 := rfl
theorem c_X4_begunBy_22 : z_nop k_X4_begunBy 22 = o_if (fun x => x = 0) 27 := rfl
theorem c_X4_begunBy_23 : z_nop k_X4_begunBy 23 = o_ic 1 := rfl
theorem c_X4_begunBy_24 : z_nop k_X4_begunBy 24 = o_iload 4 := rfl
theorem c_X4_begunBy_25 : z_nop k_X4_begunBy 25 = o_bin (fun x y => x <<< (y &&& 31)) := rfl
theorem c_X4_begunBy_26 : z_nop k_X4_begunBy 26 = o_goto 28 := rfl
theorem c_X4_begunBy_27 : z_nop k_X4_begunBy 27 = o_ic 0 := rfl
theorem c_X4_begunBy_28 : z_nop k_X4_begunBy 28 = o_bin (fun x y => x ||| y) := rfl
theorem c_X4_begunBy_29 : z_nop k_X4_begunBy 29 = o_istore 3 := rfl
theorem c_X4_begunBy_30 : z_nop k_X4_begunBy 30 = o_iinc 4 1 := rfl
theorem c_X4_begunBy_31 : z_nop k_X4_begunBy 31 = o_goto 4 := rfl
theorem c_X4_begunBy_32 : z_nop k_X4_begunBy 32 = o_iload 3 := rfl
theorem c_X4_begunBy_33 : z_nop k_X4_begunBy 33 = o_iret := rfl

def r_begunBy (M : zMem) (w : Nat) (x p : Int32) : Int32 := z_mk (fun i => decide (M.1 7 w i 4 = x ∧ ¬ r_begins p (r_id M w i) = 0)) 24
set_option maxRecDepth 100000 in
theorem s_begunBy {h w : Nat} {M : zMem} {x p : Int32} {K : zK} (q : K (some (.inl (r_begunBy M w x p))) M) : z_call (h + 3) 45 [.inr (.inr (9, w, 0)), .inl x, .inl p] M K := by
  unfold r_begunBy at q
  refine e_X4_begunBy rfl ?_
  refine z_wp_run (cut := [4, 21, 22]) 36 _ _ _ _ ?_
  repeat' (first | (simp only [z_wp, Bool.false_eq_true, ↓reduceIte, z_e10, z_e01, eq_self, Int32.reduceLT, Int32.reduceLE, Int32.reduceGT, Int32.reduceGE, z_in, cond_true, cond_false, Nat.reduceAdd, Nat.reduceBEq, z_nth, z_set, z_clr, z_st1, z_st2, z_isL, z_opt, z_pop, z_cats, z_cat, c_X4_begunBy_0, c_X4_begunBy_1, c_X4_begunBy_2, c_X4_begunBy_3, c_X4_begunBy_4, c_X4_begunBy_5, c_X4_begunBy_6, c_X4_begunBy_7, c_X4_begunBy_8, c_X4_begunBy_9, c_X4_begunBy_10, c_X4_begunBy_11, c_X4_begunBy_12, c_X4_begunBy_13, c_X4_begunBy_14, c_X4_begunBy_15, c_X4_begunBy_16, c_X4_begunBy_17, c_X4_begunBy_18, c_X4_begunBy_19, c_X4_begunBy_20, c_X4_begunBy_21, c_X4_begunBy_22, c_X4_begunBy_23, c_X4_begunBy_24, c_X4_begunBy_25, c_X4_begunBy_26, c_X4_begunBy_27, c_X4_begunBy_28, c_X4_begunBy_29, c_X4_begunBy_30, c_X4_begunBy_31, c_X4_begunBy_32, c_X4_begunBy_33, o_aald, o_aload, o_bin, o_call, o_callv, o_get, o_getr, o_goto, o_ic, o_icmp, o_if, o_iinc, o_iload, o_iret, o_istore, z_cv0, z_cl0, z_cv1, z_cl1, z_cv2, z_cl2, z_cv3, z_cl3, z_cv4, z_cl4, z_cv5, z_cl5, z_cv6, z_cl6, z_cv7, z_cl7, z_cv8, z_cl8, z_cv9, z_cl9, z_cv10, z_cl10, z_cv11, z_cl11, z_cv12, z_cl12, z_cv13, z_cl13, z_len, z_elt, z_isI, z_isJ, Nat.reduceEqDiff, Nat.reduceLeDiff, Nat.reduceLT, Nat.reduceSub, Nat.reduceMul, not_false_eq_true, not_true_eq_false, true_and, and_true, true_or, or_true, false_or, or_false, true_implies, false_implies, implies_true, forall_const, and_self, ne_eq, Classical.not_not, z_up1, z_up2, z_cp1, z_cp2, z_upL1, z_upL2, if_true, if_false, and_false, false_and]) | (with_reducible refine And.intro ?_ ?_) | (with_reducible intro _) | (with_reducible refine z_go (i := 21) (cut := [4, 21, 22]) 36 ?_) | (with_reducible refine z_go (i := 22) (cut := [4, 21, 22]) 36 ?_))
  refine z_loop (fun n => z_run (z_nop k_X4_begunBy) (z_call (h+ 2)) K 4 [.inr (.inr (9, w, 0)), .inl x, .inl p, .inl (z_mk (fun i => decide (M.1 7 w i 4 = x ∧ ¬ r_begins p (r_id M w i) = 0)) n), .inl (nI n)] [] (M)) 24 ?_ ?_ 0 (by omega)
  · obtain ⟨f1, f2⟩ := z_eq24
    refine z_go (cut := [4, 21, 22]) 36 ?_
    repeat' (first | (simp only [z_wp, Bool.false_eq_true, ↓reduceIte, z_e10, z_e01, eq_self, Int32.reduceLT, Int32.reduceLE, Int32.reduceGT, Int32.reduceGE, z_in, cond_true, cond_false, Nat.reduceAdd, Nat.reduceBEq, z_nth, z_set, z_clr, z_st1, z_st2, z_isL, z_opt, z_pop, z_cats, z_cat, c_X4_begunBy_0, c_X4_begunBy_1, c_X4_begunBy_2, c_X4_begunBy_3, c_X4_begunBy_4, c_X4_begunBy_5, c_X4_begunBy_6, c_X4_begunBy_7, c_X4_begunBy_8, c_X4_begunBy_9, c_X4_begunBy_10, c_X4_begunBy_11, c_X4_begunBy_12, c_X4_begunBy_13, c_X4_begunBy_14, c_X4_begunBy_15, c_X4_begunBy_16, c_X4_begunBy_17, c_X4_begunBy_18, c_X4_begunBy_19, c_X4_begunBy_20, c_X4_begunBy_21, c_X4_begunBy_22, c_X4_begunBy_23, c_X4_begunBy_24, c_X4_begunBy_25, c_X4_begunBy_26, c_X4_begunBy_27, c_X4_begunBy_28, c_X4_begunBy_29, c_X4_begunBy_30, c_X4_begunBy_31, c_X4_begunBy_32, c_X4_begunBy_33, o_aald, o_aload, o_bin, o_call, o_callv, o_get, o_getr, o_goto, o_ic, o_icmp, o_if, o_iinc, o_iload, o_iret, o_istore, z_cv0, z_cl0, z_cv1, z_cl1, z_cv2, z_cl2, z_cv3, z_cl3, z_cv4, z_cl4, z_cv5, z_cl5, z_cv6, z_cl6, z_cv7, z_cl7, z_cv8, z_cl8, z_cv9, z_cl9, z_cv10, z_cl10, z_cv11, z_cl11, z_cv12, z_cl12, z_cv13, z_cl13, z_len, z_elt, z_isI, z_isJ, Nat.reduceEqDiff, Nat.reduceLeDiff, Nat.reduceLT, Nat.reduceSub, Nat.reduceMul, not_false_eq_true, not_true_eq_false, true_and, and_true, true_or, or_true, false_or, or_false, true_implies, false_implies, implies_true, forall_const, and_self, ne_eq, Classical.not_not, z_up1, z_up2, z_cp1, z_cp2, z_upL1, z_upL2, if_true, if_false, and_false, false_and, f1, f2]) | (refine s_id ?_) | (refine s_begins ?_) | (with_reducible refine And.intro ?_ ?_) | (with_reducible intro _) | (with_reducible refine z_go (i := 21) (cut := [4, 21, 22]) 36 ?_) | (with_reducible refine z_go (i := 22) (cut := [4, 21, 22]) 36 ?_))
    all_goals (first | (with_reducible exact q) | ((try simp only [ge_iff_le, gt_iff_lt, ← Int32.not_lt, Classical.not_not] at *); (first | (with_reducible rfl) | rfl | (with_reducible exact z_vi_24 (by assumption) (by assumption)) | (with_reducible exact z_vi_4 (by assumption) (by assumption)) | (with_reducible exact z_vi_512 (by assumption) (by assumption)) | (with_reducible exact z_vi_14 (by assumption) (by assumption)) | (with_reducible exact z_vi_8 (by assumption) (by assumption)) | (with_reducible exact z_vinN (by assumption) (by assumption) (by decide)) | (with_reducible exact z_vin1 (by assumption) (by assumption) (by decide)) | ((try simp only [z_mk] at q); (try simp only [ge_iff_le, gt_iff_lt, ← Int32.not_lt, Classical.not_not] at q); (try simp only [*, if_true, if_false, ite_self, true_or, or_true, false_or, or_false, true_and, and_true, false_and, and_false, not_true_eq_false, not_false_eq_true, cond_true, cond_false, decide_true, decide_false, Bool.true_and, Bool.and_true, Bool.false_and, Bool.and_false, Bool.true_or, Bool.or_true, Bool.false_or, Bool.or_false, Bool.not_true, Bool.not_false, ne_eq, Nat.reduceEqDiff] at q); with_reducible exact q))) | (simp_all [z_mk]; done))
  · intro n hn ih
    obtain ⟨f1, f2, f3, f4, f5⟩ := z_lt24 hn
    refine z_go (cut := [4, 21, 22]) 36 ?_
    repeat' (first | (simp only [z_wp, Bool.false_eq_true, ↓reduceIte, z_e10, z_e01, eq_self, Int32.reduceLT, Int32.reduceLE, Int32.reduceGT, Int32.reduceGE, z_in, cond_true, cond_false, Nat.reduceAdd, Nat.reduceBEq, z_nth, z_set, z_clr, z_st1, z_st2, z_isL, z_opt, z_pop, z_cats, z_cat, c_X4_begunBy_0, c_X4_begunBy_1, c_X4_begunBy_2, c_X4_begunBy_3, c_X4_begunBy_4, c_X4_begunBy_5, c_X4_begunBy_6, c_X4_begunBy_7, c_X4_begunBy_8, c_X4_begunBy_9, c_X4_begunBy_10, c_X4_begunBy_11, c_X4_begunBy_12, c_X4_begunBy_13, c_X4_begunBy_14, c_X4_begunBy_15, c_X4_begunBy_16, c_X4_begunBy_17, c_X4_begunBy_18, c_X4_begunBy_19, c_X4_begunBy_20, c_X4_begunBy_21, c_X4_begunBy_22, c_X4_begunBy_23, c_X4_begunBy_24, c_X4_begunBy_25, c_X4_begunBy_26, c_X4_begunBy_27, c_X4_begunBy_28, c_X4_begunBy_29, c_X4_begunBy_30, c_X4_begunBy_31, c_X4_begunBy_32, c_X4_begunBy_33, o_aald, o_aload, o_bin, o_call, o_callv, o_get, o_getr, o_goto, o_ic, o_icmp, o_if, o_iinc, o_iload, o_iret, o_istore, z_cv0, z_cl0, z_cv1, z_cl1, z_cv2, z_cl2, z_cv3, z_cl3, z_cv4, z_cl4, z_cv5, z_cl5, z_cv6, z_cl6, z_cv7, z_cl7, z_cv8, z_cl8, z_cv9, z_cl9, z_cv10, z_cl10, z_cv11, z_cl11, z_cv12, z_cl12, z_cv13, z_cl13, z_len, z_elt, z_isI, z_isJ, Nat.reduceEqDiff, Nat.reduceLeDiff, Nat.reduceLT, Nat.reduceSub, Nat.reduceMul, not_false_eq_true, not_true_eq_false, true_and, and_true, true_or, or_true, false_or, or_false, true_implies, false_implies, implies_true, forall_const, and_self, ne_eq, Classical.not_not, z_up1, z_up2, z_cp1, z_cp2, z_upL1, z_upL2, if_true, if_false, and_false, false_and, f1, f2, f3, f4, f5]) | (refine s_id ?_) | (refine s_begins ?_) | (with_reducible refine And.intro ?_ ?_) | (with_reducible intro _) | (with_reducible refine z_go (i := 21) (cut := [4, 21, 22]) 36 ?_) | (with_reducible refine z_go (i := 22) (cut := [4, 21, 22]) 36 ?_))
    all_goals (first | (with_reducible exact ih) | ((try simp only [ge_iff_le, gt_iff_lt, ← Int32.not_lt, Classical.not_not] at *); (first | (with_reducible rfl) | rfl | (with_reducible exact z_vi_24 (by assumption) (by assumption)) | (with_reducible exact z_vi_4 (by assumption) (by assumption)) | (with_reducible exact z_vi_512 (by assumption) (by assumption)) | (with_reducible exact z_vi_14 (by assumption) (by assumption)) | (with_reducible exact z_vi_8 (by assumption) (by assumption)) | (with_reducible exact z_vinN (by assumption) (by assumption) (by decide)) | (with_reducible exact z_vin1 (by assumption) (by assumption) (by decide)) | ((try simp only [z_mk] at ih); (try simp only [ge_iff_le, gt_iff_lt, ← Int32.not_lt, Classical.not_not] at ih); (try simp only [*, if_true, if_false, ite_self, true_or, or_true, false_or, or_false, true_and, and_true, false_and, and_false, not_true_eq_false, not_false_eq_true, cond_true, cond_false, decide_true, decide_false, Bool.true_and, Bool.and_true, Bool.false_and, Bool.and_false, Bool.true_or, Bool.or_true, Bool.false_or, Bool.or_false, Bool.not_true, Bool.not_false, ne_eq, Nat.reduceEqDiff] at ih); with_reducible exact ih))) | (simp_all [z_mk]; done))
theorem e_X4_dropSlots {h : Nat} {a0 : zId} {a1 : Int32} {M : zMem} {K : zK} (ha0 : (a0.1 == 99) = false) (q : z_run (z_nop k_X4_dropSlots) (z_call h) K 0 [.inr (.inr a0), .inl a1, z_un] [] M) : z_call (h + 1) 51 [.inr (.inr a0), .inl a1] M K := ⟨by simp only [List.all_cons, List.all_nil, z_isU, ha0]; rfl, q⟩
theorem c_X4_dropSlots_0 : z_nop k_X4_dropSlots 0 = o_ic 0 := rfl
theorem c_X4_dropSlots_1 : z_nop k_X4_dropSlots 1 = o_istore 2 := rfl
theorem c_X4_dropSlots_2 : z_nop k_X4_dropSlots 2 = o_iload 2 := rfl
theorem c_X4_dropSlots_3 : z_nop k_X4_dropSlots 3 = o_ic 24 := rfl
theorem c_X4_dropSlots_4 : z_nop k_X4_dropSlots 4 = o_icmp (fun x y => x ≥ y) 20 := rfl
theorem c_X4_dropSlots_5 : z_nop k_X4_dropSlots 5 = o_iload 1 := rfl
theorem c_X4_dropSlots_6 : z_nop k_X4_dropSlots 6 = o_iload 2 := rfl
theorem c_X4_dropSlots_7 : z_nop k_X4_dropSlots 7 = o_bin (fun x y => x >>> (y &&& 31)) := rfl
theorem c_X4_dropSlots_8 : z_nop k_X4_dropSlots 8 = o_ic 1 := rfl
theorem c_X4_dropSlots_9 : z_nop k_X4_dropSlots 9 = o_bin (fun x y => x &&& y) := rfl
theorem c_X4_dropSlots_10 : z_nop k_X4_dropSlots 10 = o_ic 1 := rfl
theorem c_X4_dropSlots_11 : z_nop k_X4_dropSlots 11 = o_icmp (fun x y => x ≠ y) 18 := rfl
theorem c_X4_dropSlots_12 : z_nop k_X4_dropSlots 12 = o_aload 0 := rfl
theorem c_X4_dropSlots_13 : z_nop k_X4_dropSlots 13 = o_getr 9 (fun w i => (30, w, 0)) := rfl
theorem c_X4_dropSlots_14 : z_nop k_X4_dropSlots 14 = o_iload 2 := rfl
theorem c_X4_dropSlots_15 : z_nop k_X4_dropSlots 15 = o_aald := rfl
theorem c_X4_dropSlots_16 : z_nop k_X4_dropSlots 16 = o_ic (-1) := rfl
theorem c_X4_dropSlots_17 : z_nop k_X4_dropSlots 17 = o_put 7 5 := rfl
theorem c_X4_dropSlots_18 : z_nop k_X4_dropSlots 18 = o_iinc 2 1 := rfl
theorem c_X4_dropSlots_19 : z_nop k_X4_dropSlots 19 = o_goto 2 := rfl
theorem c_X4_dropSlots_20 : z_nop k_X4_dropSlots 20 = o_ret := rfl

def f_drop (w : Nat) (s : Int32) (i : Nat) (M : zMem) : zMem := if s >>> (nI i &&& 31) &&& 1 = 1 then z_up M 7 w i 5 (-1) else M
def m_drop (M : zMem) (w : Nat) (s : Int32) : zMem := z_it (f_drop w s) 24 M
set_option maxRecDepth 100000 in
theorem s_drop {h w : Nat} {M : zMem} {s : Int32} {K : zK} (q : K none (m_drop M w s)) : z_call (h + 1) 51 [.inr (.inr (9, w, 0)), .inl s] M K := by
  unfold m_drop at q
  refine e_X4_dropSlots rfl ?_
  refine z_wp_run (cut := [2]) 23 _ _ _ _ ?_
  repeat' (first | (simp only [z_wp, Bool.false_eq_true, ↓reduceIte, z_e10, z_e01, eq_self, Int32.reduceLT, Int32.reduceLE, Int32.reduceGT, Int32.reduceGE, z_in, cond_true, cond_false, Nat.reduceAdd, Nat.reduceBEq, z_nth, z_set, z_clr, z_st1, z_st2, z_isL, z_opt, z_pop, z_cats, z_cat, c_X4_dropSlots_0, c_X4_dropSlots_1, c_X4_dropSlots_2, c_X4_dropSlots_3, c_X4_dropSlots_4, c_X4_dropSlots_5, c_X4_dropSlots_6, c_X4_dropSlots_7, c_X4_dropSlots_8, c_X4_dropSlots_9, c_X4_dropSlots_10, c_X4_dropSlots_11, c_X4_dropSlots_12, c_X4_dropSlots_13, c_X4_dropSlots_14, c_X4_dropSlots_15, c_X4_dropSlots_16, c_X4_dropSlots_17, c_X4_dropSlots_18, c_X4_dropSlots_19, c_X4_dropSlots_20, o_aald, o_aload, o_bin, o_getr, o_goto, o_ic, o_icmp, o_iinc, o_iload, o_istore, o_put, o_ret, z_cv0, z_cl0, z_cv1, z_cl1, z_cv2, z_cl2, z_cv3, z_cl3, z_cv4, z_cl4, z_cv5, z_cl5, z_cv6, z_cl6, z_cv7, z_cl7, z_cv8, z_cl8, z_cv9, z_cl9, z_cv10, z_cl10, z_cv11, z_cl11, z_cv12, z_cl12, z_cv13, z_cl13, z_len, z_elt, z_isI, z_isJ, Nat.reduceEqDiff, Nat.reduceLeDiff, Nat.reduceLT, Nat.reduceSub, Nat.reduceMul, not_false_eq_true, not_true_eq_false, true_and, and_true, true_or, or_true, false_or, or_false, true_implies, false_implies, implies_true, forall_const, and_self, ne_eq, Classical.not_not, z_up1, z_up2, z_cp1, z_cp2, z_upL1, z_upL2, if_true, if_false, and_false, false_and]) | (with_reducible refine And.intro ?_ ?_) | (with_reducible intro _))
  refine z_loop (fun n => z_run (z_nop k_X4_dropSlots) (z_call (h)) K 2 [.inr (.inr (9, w, 0)), .inl s, .inl (nI n)] [] (z_it (f_drop w s) n M)) 24 ?_ ?_ 0 (by omega)
  · obtain ⟨f1, f2⟩ := z_eq24
    refine z_go (cut := [2]) 23 ?_
    repeat' (first | (simp only [z_wp, Bool.false_eq_true, ↓reduceIte, z_e10, z_e01, eq_self, Int32.reduceLT, Int32.reduceLE, Int32.reduceGT, Int32.reduceGE, z_in, cond_true, cond_false, Nat.reduceAdd, Nat.reduceBEq, z_nth, z_set, z_clr, z_st1, z_st2, z_isL, z_opt, z_pop, z_cats, z_cat, c_X4_dropSlots_0, c_X4_dropSlots_1, c_X4_dropSlots_2, c_X4_dropSlots_3, c_X4_dropSlots_4, c_X4_dropSlots_5, c_X4_dropSlots_6, c_X4_dropSlots_7, c_X4_dropSlots_8, c_X4_dropSlots_9, c_X4_dropSlots_10, c_X4_dropSlots_11, c_X4_dropSlots_12, c_X4_dropSlots_13, c_X4_dropSlots_14, c_X4_dropSlots_15, c_X4_dropSlots_16, c_X4_dropSlots_17, c_X4_dropSlots_18, c_X4_dropSlots_19, c_X4_dropSlots_20, o_aald, o_aload, o_bin, o_getr, o_goto, o_ic, o_icmp, o_iinc, o_iload, o_istore, o_put, o_ret, z_cv0, z_cl0, z_cv1, z_cl1, z_cv2, z_cl2, z_cv3, z_cl3, z_cv4, z_cl4, z_cv5, z_cl5, z_cv6, z_cl6, z_cv7, z_cl7, z_cv8, z_cl8, z_cv9, z_cl9, z_cv10, z_cl10, z_cv11, z_cl11, z_cv12, z_cl12, z_cv13, z_cl13, z_len, z_elt, z_isI, z_isJ, Nat.reduceEqDiff, Nat.reduceLeDiff, Nat.reduceLT, Nat.reduceSub, Nat.reduceMul, not_false_eq_true, not_true_eq_false, true_and, and_true, true_or, or_true, false_or, or_false, true_implies, false_implies, implies_true, forall_const, and_self, ne_eq, Classical.not_not, z_up1, z_up2, z_cp1, z_cp2, z_upL1, z_upL2, if_true, if_false, and_false, false_and, f1, f2]) | (with_reducible refine And.intro ?_ ?_) | (with_reducible intro _))
    all_goals (first | (with_reducible exact q) | ((try simp only [ge_iff_le, gt_iff_lt, ← Int32.not_lt, Classical.not_not] at *); (first | (with_reducible rfl) | rfl | (with_reducible exact z_vi_24 (by assumption) (by assumption)) | (with_reducible exact z_vi_4 (by assumption) (by assumption)) | (with_reducible exact z_vi_512 (by assumption) (by assumption)) | (with_reducible exact z_vi_14 (by assumption) (by assumption)) | (with_reducible exact z_vi_8 (by assumption) (by assumption)) | (with_reducible exact z_vinN (by assumption) (by assumption) (by decide)) | (with_reducible exact z_vin1 (by assumption) (by assumption) (by decide)) | ((try simp only [z_it, f_drop] at q); (try simp only [ge_iff_le, gt_iff_lt, ← Int32.not_lt, Classical.not_not] at q); (try simp only [*, if_true, if_false, ite_self, true_or, or_true, false_or, or_false, true_and, and_true, false_and, and_false, not_true_eq_false, not_false_eq_true, cond_true, cond_false, decide_true, decide_false, Bool.true_and, Bool.and_true, Bool.false_and, Bool.and_false, Bool.true_or, Bool.or_true, Bool.false_or, Bool.or_false, Bool.not_true, Bool.not_false, ne_eq, Nat.reduceEqDiff] at q); with_reducible exact q))) | (simp_all [z_it, f_drop]; done))
  · intro n hn ih
    obtain ⟨f1, f2, f3, f4, f5⟩ := z_lt24 hn
    refine z_go (cut := [2]) 23 ?_
    repeat' (first | (simp only [z_wp, Bool.false_eq_true, ↓reduceIte, z_e10, z_e01, eq_self, Int32.reduceLT, Int32.reduceLE, Int32.reduceGT, Int32.reduceGE, z_in, cond_true, cond_false, Nat.reduceAdd, Nat.reduceBEq, z_nth, z_set, z_clr, z_st1, z_st2, z_isL, z_opt, z_pop, z_cats, z_cat, c_X4_dropSlots_0, c_X4_dropSlots_1, c_X4_dropSlots_2, c_X4_dropSlots_3, c_X4_dropSlots_4, c_X4_dropSlots_5, c_X4_dropSlots_6, c_X4_dropSlots_7, c_X4_dropSlots_8, c_X4_dropSlots_9, c_X4_dropSlots_10, c_X4_dropSlots_11, c_X4_dropSlots_12, c_X4_dropSlots_13, c_X4_dropSlots_14, c_X4_dropSlots_15, c_X4_dropSlots_16, c_X4_dropSlots_17, c_X4_dropSlots_18, c_X4_dropSlots_19, c_X4_dropSlots_20, o_aald, o_aload, o_bin, o_getr, o_goto, o_ic, o_icmp, o_iinc, o_iload, o_istore, o_put, o_ret, z_cv0, z_cl0, z_cv1, z_cl1, z_cv2, z_cl2, z_cv3, z_cl3, z_cv4, z_cl4, z_cv5, z_cl5, z_cv6, z_cl6, z_cv7, z_cl7, z_cv8, z_cl8, z_cv9, z_cl9, z_cv10, z_cl10, z_cv11, z_cl11, z_cv12, z_cl12, z_cv13, z_cl13, z_len, z_elt, z_isI, z_isJ, Nat.reduceEqDiff, Nat.reduceLeDiff, Nat.reduceLT, Nat.reduceSub, Nat.reduceMul, not_false_eq_true, not_true_eq_false, true_and, and_true, true_or, or_true, false_or, or_false, true_implies, false_implies, implies_true, forall_const, and_self, ne_eq, Classical.not_not, z_up1, z_up2, z_cp1, z_cp2, z_upL1, z_upL2, if_true, if_false, and_false, false_and, f1, f2, f3, f4, f5]) | (with_reducible refine And.intro ?_ ?_) | (with_reducible intro _))
    all_goals (first | (with_reducible exact ih) | ((try simp only [ge_iff_le, gt_iff_lt, ← Int32.not_lt, Classical.not_not] at *); (first | (with_reducible rfl) | rfl | (with_reducible exact z_vi_24 (by assumption) (by assumption)) | (with_reducible exact z_vi_4 (by assumption) (by assumption)) | (with_reducible exact z_vi_512 (by assumption) (by assumption)) | (with_reducible exact z_vi_14 (by assumption) (by assumption)) | (with_reducible exact z_vi_8 (by assumption) (by assumption)) | (with_reducible exact z_vinN (by assumption) (by assumption) (by decide)) | (with_reducible exact z_vin1 (by assumption) (by assumption) (by decide)) | ((try simp only [z_it, f_drop] at ih); (try simp only [ge_iff_le, gt_iff_lt, ← Int32.not_lt, Classical.not_not] at ih); (try simp only [*, if_true, if_false, ite_self, true_or, or_true, false_or, or_false, true_and, and_true, false_and, and_false, not_true_eq_false, not_false_eq_true, cond_true, cond_false, decide_true, decide_false, Bool.true_and, Bool.and_true, Bool.false_and, Bool.and_false, Bool.true_or, Bool.or_true, Bool.false_or, Bool.or_false, Bool.not_true, Bool.not_false, ne_eq, Nat.reduceEqDiff] at ih); with_reducible exact ih))) | (simp_all [z_it, f_drop]; done))
theorem e_X4_countDown {h : Nat} {a0 : zId} {a1 : Int32} {a2 : Int32} {M : zMem} {K : zK} (ha0 : (a0.1 == 99) = false) (q : z_run (z_nop k_X4_countDown) (z_call h) K 0 [.inr (.inr a0), .inl a1, .inl a2, z_un] [] M) : z_call (h + 1) 52 [.inr (.inr a0), .inl a1, .inl a2] M K := ⟨by simp only [List.all_cons, List.all_nil, z_isU, ha0]; rfl, q⟩
theorem c_X4_countDown_0 : z_nop k_X4_countDown 0 = o_ic 0 := rfl
theorem c_X4_countDown_1 : z_nop k_X4_countDown 1 = o_istore 3 := rfl
theorem c_X4_countDown_2 : z_nop k_X4_countDown 2 = o_iload 3 := rfl
theorem c_X4_countDown_3 : z_nop k_X4_countDown 3 = o_ic 24 := rfl
theorem c_X4_countDown_4 : z_nop k_X4_countDown 4 = o_icmp (fun x y => x ≥ y) 35 := rfl
theorem c_X4_countDown_5 : z_nop k_X4_countDown 5 = o_aload 0 := rfl
theorem c_X4_countDown_6 : z_nop k_X4_countDown 6 = o_getr 9 (fun w i => (30, w, 0)) := rfl
theorem c_X4_countDown_7 : z_nop k_X4_countDown 7 = o_iload 3 := rfl
theorem c_X4_countDown_8 : z_nop k_X4_countDown 8 = o_aald := rfl
theorem c_X4_countDown_9 : z_nop k_X4_countDown 9 = o_get 7 4 := rfl
theorem c_X4_countDown_10 : z_nop k_X4_countDown 10 = o_iload 1 := rfl
theorem c_X4_countDown_11 : z_nop k_X4_countDown 11 = o_icmp (fun x y => x ≠ y) 33 := rfl
theorem c_X4_countDown_12 : z_nop k_X4_countDown 12 = o_aload 0 := rfl
theorem c_X4_countDown_13 : z_nop k_X4_countDown 13 = o_getr 9 (fun w i => (30, w, 0)) := rfl
theorem c_X4_countDown_14 : z_nop k_X4_countDown 14 = o_iload 3 := rfl
theorem c_X4_countDown_15 : z_nop k_X4_countDown 15 = o_aald := rfl
theorem c_X4_countDown_16 : z_nop k_X4_countDown 16 = o_get 7 5 := rfl
theorem c_X4_countDown_17 : z_nop k_X4_countDown 17 = o_if (fun x => x ≤ 0) 33 := rfl
theorem c_X4_countDown_18 : z_nop k_X4_countDown 18 = o_iload 2 := rfl
theorem c_X4_countDown_19 : z_nop k_X4_countDown 19 = o_iload 3 := rfl
theorem c_X4_countDown_20 : z_nop k_X4_countDown 20 = o_bin (fun x y => x >>> (y &&& 31)) := rfl
theorem c_X4_countDown_21 : z_nop k_X4_countDown 21 = o_ic 1 := rfl
theorem c_X4_countDown_22 : z_nop k_X4_countDown 22 = o_bin (fun x y => x &&& y) := rfl
theorem c_X4_countDown_23 : z_nop k_X4_countDown 23 = o_if (fun x => x ≠ 0) 33 := rfl
theorem c_X4_countDown_24 : z_nop k_X4_countDown 24 = o_aload 0 := rfl
theorem c_X4_countDown_25 : z_nop k_X4_countDown 25 = o_getr 9 (fun w i => (30, w, 0)) := rfl
theorem c_X4_countDown_26 : z_nop k_X4_countDown 26 = o_iload 3 := rfl
theorem c_X4_countDown_27 : z_nop k_X4_countDown 27 = o_aald := rfl
theorem c_X4_countDown_28 : z_nop k_X4_countDown 28 = o_dup := rfl
theorem c_X4_countDown_29 : z_nop k_X4_countDown 29 = o_get 7 5 := rfl
theorem c_X4_countDown_30 : z_nop k_X4_countDown 30 = o_ic 1 := rfl
theorem c_X4_countDown_31 : z_nop k_X4_countDown 31 = o_bin (fun x y => x - y) := rfl
theorem c_X4_countDown_32 : z_nop k_X4_countDown 32 = o_put 7 5 := rfl
theorem c_X4_countDown_33 : z_nop k_X4_countDown 33 = o_iinc 3 1 := rfl
theorem c_X4_countDown_34 : z_nop k_X4_countDown 34 = o_goto 2 := rfl
theorem c_X4_countDown_35 : z_nop k_X4_countDown 35 = o_ret := rfl

def f_down (w : Nat) (x j : Int32) (i : Nat) (M : zMem) : zMem := if M.1 7 w i 4 = x ∧ ¬ M.1 7 w i 5 ≤ 0 ∧ j >>> (nI i &&& 31) &&& 1 = 0 then z_up M 7 w i 5 (M.1 7 w i 5 - 1) else M
def m_down (M : zMem) (w : Nat) (x j : Int32) : zMem := z_it (f_down w x j) 24 M
set_option maxRecDepth 100000 in
theorem s_down {h w : Nat} {M : zMem} {x j : Int32} {K : zK} (q : K none (m_down M w x j)) : z_call (h + 1) 52 [.inr (.inr (9, w, 0)), .inl x, .inl j] M K := by
  unfold m_down at q
  refine e_X4_countDown rfl ?_
  refine z_wp_run (cut := [2]) 38 _ _ _ _ ?_
  repeat' (first | (simp only [z_wp, Bool.false_eq_true, ↓reduceIte, z_e10, z_e01, eq_self, Int32.reduceLT, Int32.reduceLE, Int32.reduceGT, Int32.reduceGE, z_in, cond_true, cond_false, Nat.reduceAdd, Nat.reduceBEq, z_nth, z_set, z_clr, z_st1, z_st2, z_isL, z_opt, z_pop, z_cats, z_cat, c_X4_countDown_0, c_X4_countDown_1, c_X4_countDown_2, c_X4_countDown_3, c_X4_countDown_4, c_X4_countDown_5, c_X4_countDown_6, c_X4_countDown_7, c_X4_countDown_8, c_X4_countDown_9, c_X4_countDown_10, c_X4_countDown_11, c_X4_countDown_12, c_X4_countDown_13, c_X4_countDown_14, c_X4_countDown_15, c_X4_countDown_16, c_X4_countDown_17, c_X4_countDown_18, c_X4_countDown_19, c_X4_countDown_20, c_X4_countDown_21, c_X4_countDown_22, c_X4_countDown_23, c_X4_countDown_24, c_X4_countDown_25, c_X4_countDown_26, c_X4_countDown_27, c_X4_countDown_28, c_X4_countDown_29, c_X4_countDown_30, c_X4_countDown_31, c_X4_countDown_32, c_X4_countDown_33, c_X4_countDown_34, c_X4_countDown_35, o_aald, o_aload, o_bin, o_dup, o_get, o_getr, o_goto, o_ic, o_icmp, o_if, o_iinc, o_iload, o_istore, o_put, o_ret, z_cv0, z_cl0, z_cv1, z_cl1, z_cv2, z_cl2, z_cv3, z_cl3, z_cv4, z_cl4, z_cv5, z_cl5, z_cv6, z_cl6, z_cv7, z_cl7, z_cv8, z_cl8, z_cv9, z_cl9, z_cv10, z_cl10, z_cv11, z_cl11, z_cv12, z_cl12, z_cv13, z_cl13, z_len, z_elt, z_isI, z_isJ, Nat.reduceEqDiff, Nat.reduceLeDiff, Nat.reduceLT, Nat.reduceSub, Nat.reduceMul, not_false_eq_true, not_true_eq_false, true_and, and_true, true_or, or_true, false_or, or_false, true_implies, false_implies, implies_true, forall_const, and_self, ne_eq, Classical.not_not, z_up1, z_up2, z_cp1, z_cp2, z_upL1, z_upL2, if_true, if_false, and_false, false_and]) | (with_reducible refine And.intro ?_ ?_) | (with_reducible intro _))
  refine z_loop (fun n => z_run (z_nop k_X4_countDown) (z_call (h)) K 2 [.inr (.inr (9, w, 0)), .inl x, .inl j, .inl (nI n)] [] (z_it (f_down w x j) n M)) 24 ?_ ?_ 0 (by omega)
  · obtain ⟨f1, f2⟩ := z_eq24
    refine z_go (cut := [2]) 38 ?_
    repeat' (first | (simp only [z_wp, Bool.false_eq_true, ↓reduceIte, z_e10, z_e01, eq_self, Int32.reduceLT, Int32.reduceLE, Int32.reduceGT, Int32.reduceGE, z_in, cond_true, cond_false, Nat.reduceAdd, Nat.reduceBEq, z_nth, z_set, z_clr, z_st1, z_st2, z_isL, z_opt, z_pop, z_cats, z_cat, c_X4_countDown_0, c_X4_countDown_1, c_X4_countDown_2, c_X4_countDown_3, c_X4_countDown_4, c_X4_countDown_5, c_X4_countDown_6, c_X4_countDown_7, c_X4_countDown_8, c_X4_countDown_9, c_X4_countDown_10, c_X4_countDown_11, c_X4_countDown_12, c_X4_countDown_13, c_X4_countDown_14, c_X4_countDown_15, c_X4_countDown_16, c_X4_countDown_17, c_X4_countDown_18, c_X4_countDown_19, c_X4_countDown_20, c_X4_countDown_21, c_X4_countDown_22, c_X4_countDown_23, c_X4_countDown_24, c_X4_countDown_25, c_X4_countDown_26, c_X4_countDown_27, c_X4_countDown_28, c_X4_countDown_29, c_X4_countDown_30, c_X4_countDown_31, c_X4_countDown_32, c_X4_countDown_33, c_X4_countDown_34, c_X4_countDown_35, o_aald, o_aload, o_bin, o_dup, o_get, o_getr, o_goto, o_ic, o_icmp, o_if, o_iinc, o_iload, o_istore, o_put, o_ret, z_cv0, z_cl0, z_cv1, z_cl1, z_cv2, z_cl2, z_cv3, z_cl3, z_cv4, z_cl4, z_cv5, z_cl5, z_cv6, z_cl6, z_cv7, z_cl7, z_cv8, z_cl8, z_cv9, z_cl9, z_cv10, z_cl10, z_cv11, z_cl11, z_cv12, z_cl12, z_cv13, z_cl13, z_len, z_elt, z_isI, z_isJ, Nat.reduceEqDiff, Nat.reduceLeDiff, Nat.reduceLT, Nat.reduceSub, Nat.reduceMul, not_false_eq_true, not_true_eq_false, true_and, and_true, true_or, or_true, false_or, or_false, true_implies, false_implies, implies_true, forall_const, and_self, ne_eq, Classical.not_not, z_up1, z_up2, z_cp1, z_cp2, z_upL1, z_upL2, if_true, if_false, and_false, false_and, f1, f2]) | (with_reducible refine And.intro ?_ ?_) | (with_reducible intro _))
    all_goals (first | (with_reducible exact q) | ((try simp only [ge_iff_le, gt_iff_lt, ← Int32.not_lt, Classical.not_not] at *); (first | (with_reducible rfl) | rfl | (with_reducible exact z_vi_24 (by assumption) (by assumption)) | (with_reducible exact z_vi_4 (by assumption) (by assumption)) | (with_reducible exact z_vi_512 (by assumption) (by assumption)) | (with_reducible exact z_vi_14 (by assumption) (by assumption)) | (with_reducible exact z_vi_8 (by assumption) (by assumption)) | (with_reducible exact z_vinN (by assumption) (by assumption) (by decide)) | (with_reducible exact z_vin1 (by assumption) (by assumption) (by decide)) | ((try simp only [z_it, f_down] at q); (try simp only [ge_iff_le, gt_iff_lt, ← Int32.not_lt, Classical.not_not] at q); (try simp only [*, if_true, if_false, ite_self, true_or, or_true, false_or, or_false, true_and, and_true, false_and, and_false, not_true_eq_false, not_false_eq_true, cond_true, cond_false, decide_true, decide_false, Bool.true_and, Bool.and_true, Bool.false_and, Bool.and_false, Bool.true_or, Bool.or_true, Bool.false_or, Bool.or_false, Bool.not_true, Bool.not_false, ne_eq, Nat.reduceEqDiff] at q); with_reducible exact q))) | (simp_all [z_it, f_down]; done))
  · intro n hn ih
    obtain ⟨f1, f2, f3, f4, f5⟩ := z_lt24 hn
    refine z_go (cut := [2]) 38 ?_
    repeat' (first | (simp only [z_wp, Bool.false_eq_true, ↓reduceIte, z_e10, z_e01, eq_self, Int32.reduceLT, Int32.reduceLE, Int32.reduceGT, Int32.reduceGE, z_in, cond_true, cond_false, Nat.reduceAdd, Nat.reduceBEq, z_nth, z_set, z_clr, z_st1, z_st2, z_isL, z_opt, z_pop, z_cats, z_cat, c_X4_countDown_0, c_X4_countDown_1, c_X4_countDown_2, c_X4_countDown_3, c_X4_countDown_4, c_X4_countDown_5, c_X4_countDown_6, c_X4_countDown_7, c_X4_countDown_8, c_X4_countDown_9, c_X4_countDown_10, c_X4_countDown_11, c_X4_countDown_12, c_X4_countDown_13, c_X4_countDown_14, c_X4_countDown_15, c_X4_countDown_16, c_X4_countDown_17, c_X4_countDown_18, c_X4_countDown_19, c_X4_countDown_20, c_X4_countDown_21, c_X4_countDown_22, c_X4_countDown_23, c_X4_countDown_24, c_X4_countDown_25, c_X4_countDown_26, c_X4_countDown_27, c_X4_countDown_28, c_X4_countDown_29, c_X4_countDown_30, c_X4_countDown_31, c_X4_countDown_32, c_X4_countDown_33, c_X4_countDown_34, c_X4_countDown_35, o_aald, o_aload, o_bin, o_dup, o_get, o_getr, o_goto, o_ic, o_icmp, o_if, o_iinc, o_iload, o_istore, o_put, o_ret, z_cv0, z_cl0, z_cv1, z_cl1, z_cv2, z_cl2, z_cv3, z_cl3, z_cv4, z_cl4, z_cv5, z_cl5, z_cv6, z_cl6, z_cv7, z_cl7, z_cv8, z_cl8, z_cv9, z_cl9, z_cv10, z_cl10, z_cv11, z_cl11, z_cv12, z_cl12, z_cv13, z_cl13, z_len, z_elt, z_isI, z_isJ, Nat.reduceEqDiff, Nat.reduceLeDiff, Nat.reduceLT, Nat.reduceSub, Nat.reduceMul, not_false_eq_true, not_true_eq_false, true_and, and_true, true_or, or_true, false_or, or_false, true_implies, false_implies, implies_true, forall_const, and_self, ne_eq, Classical.not_not, z_up1, z_up2, z_cp1, z_cp2, z_upL1, z_upL2, if_true, if_false, and_false, false_and, f1, f2, f3, f4, f5]) | (with_reducible refine And.intro ?_ ?_) | (with_reducible intro _))
    all_goals (first | (with_reducible exact ih) | ((try simp only [ge_iff_le, gt_iff_lt, ← Int32.not_lt, Classical.not_not] at *); (first | (with_reducible rfl) | rfl | (with_reducible exact z_vi_24 (by assumption) (by assumption)) | (with_reducible exact z_vi_4 (by assumption) (by assumption)) | (with_reducible exact z_vi_512 (by assumption) (by assumption)) | (with_reducible exact z_vi_14 (by assumption) (by assumption)) | (with_reducible exact z_vi_8 (by assumption) (by assumption)) | (with_reducible exact z_vinN (by assumption) (by assumption) (by decide)) | (with_reducible exact z_vin1 (by assumption) (by assumption) (by decide)) | ((try simp only [z_it, f_down] at ih); (try simp only [ge_iff_le, gt_iff_lt, ← Int32.not_lt, Classical.not_not] at ih); (try simp only [*, if_true, if_false, ite_self, true_or, or_true, false_or, or_false, true_and, and_true, false_and, and_false, not_true_eq_false, not_false_eq_true, cond_true, cond_false, decide_true, decide_false, Bool.true_and, Bool.and_true, Bool.false_and, Bool.and_false, Bool.true_or, Bool.or_true, Bool.false_or, Bool.or_false, Bool.not_true, Bool.not_false, ne_eq, Nat.reduceEqDiff] at ih); with_reducible exact ih))) | (simp_all [z_it, f_down]; done))
theorem e_X4_newFrame {h : Nat} {a0 : zId} {a1 : Int32} {a2 : zId} {a3 : Int32} {M : zMem} {K : zK} (ha0 : (a0.1 == 99) = false) (ha2 : (a2.1 == 99) = false) (q : z_run (z_nop k_X4_newFrame) (z_call h) K 0 [.inr (.inr a0), .inl a1, .inr (.inr a2), .inl a3, z_un] [] M) : z_call (h + 1) 43 [.inr (.inr a0), .inl a1, .inr (.inr a2), .inl a3] M K := ⟨by simp only [List.all_cons, List.all_nil, z_isU, ha0, ha2]; rfl, q⟩
theorem c_X4_newFrame_0 : z_nop k_X4_newFrame 0 = o_aload 2 := rfl
theorem c_X4_newFrame_1 : z_nop k_X4_newFrame 1 = o_iload 3 := rfl
theorem c_X4_newFrame_2 : z_nop k_X4_newFrame 2 = o_put 4 9 := rfl
theorem c_X4_newFrame_3 : z_nop k_X4_newFrame 3 = o_aload 2 := rfl
theorem c_X4_newFrame_4 : z_nop k_X4_newFrame 4 = o_getr 4 (fun w i => (8, w, 2 * i + 1)) := rfl
theorem c_X4_newFrame_5 : z_nop k_X4_newFrame 5 = o_callv 8 87 1 := rfl
theorem c_X4_newFrame_6 : z_nop k_X4_newFrame 6 = o_aload 2 := rfl
theorem c_X4_newFrame_7 : z_nop k_X4_newFrame 7 = o_dup := rfl
theorem c_X4_newFrame_8 : z_nop k_X4_newFrame 8 = o_get 4 10 := rfl
theorem c_X4_newFrame_9 : z_nop k_X4_newFrame 9 = o_ic 1 := rfl
theorem c_X4_newFrame_10 : z_nop k_X4_newFrame 10 = o_bin (fun x y => x + y) := rfl
theorem c_X4_newFrame_11 : z_nop k_X4_newFrame 11 = o_put 4 10 := rfl
theorem c_X4_newFrame_12 : z_nop k_X4_newFrame 12 = o_aload 0 := rfl
theorem c_X4_newFrame_13 : z_nop k_X4_newFrame 13 = o_getr 9 (fun w i => (20, w, 0)) := rfl
theorem c_X4_newFrame_14 : z_nop k_X4_newFrame 14 = o_ic 4 := rfl
theorem c_X4_newFrame_15 : z_nop k_X4_newFrame 15 = o_dup2 := rfl
theorem c_X4_newFrame_16 : z_nop k_X4_newFrame 16 = o_iald := rfl
theorem c_X4_newFrame_17 : z_nop k_X4_newFrame 17 = o_ic 1 := rfl
theorem c_X4_newFrame_18 : z_nop k_X4_newFrame 18 = o_bin (fun x y => x + y) := rfl
theorem c_X4_newFrame_19 : z_nop k_X4_newFrame 19 = o_iast := rfl
theorem c_X4_newFrame_20 : z_nop k_X4_newFrame 20 = o_ic 0 := rfl
theorem c_X4_newFrame_21 : z_nop k_X4_newFrame 21 = o_istore 4 := rfl
theorem c_X4_newFrame_22 : z_nop k_X4_newFrame 22 = o_iload 4 := rfl
theorem c_X4_newFrame_23 : z_nop k_X4_newFrame 23 = o_ic 24 := rfl
theorem c_X4_newFrame_24 : z_nop k_X4_newFrame 24 = o_icmp (fun x y => x ≥ y) 44 := rfl
theorem c_X4_newFrame_25 : z_nop k_X4_newFrame 25 = o_aload 0 := rfl
theorem c_X4_newFrame_26 : z_nop k_X4_newFrame 26 = o_getr 9 (fun w i => (30, w, 0)) := rfl
theorem c_X4_newFrame_27 : z_nop k_X4_newFrame 27 = o_iload 4 := rfl
theorem c_X4_newFrame_28 : z_nop k_X4_newFrame 28 = o_aald := rfl
theorem c_X4_newFrame_29 : z_nop k_X4_newFrame 29 = o_get 7 4 := rfl
theorem c_X4_newFrame_30 : z_nop k_X4_newFrame 30 = o_iload 1 := rfl
theorem c_X4_newFrame_31 : z_nop k_X4_newFrame 31 = o_icmp (fun x y => x ≠ y) 42 := rfl
theorem c_X4_newFrame_32 : z_nop k_X4_newFrame 32 = o_aload 0 := rfl
theorem c_X4_newFrame_33 : z_nop k_X4_newFrame 33 = o_getr 9 (fun w i => (30, w, 0)) := rfl
theorem c_X4_newFrame_34 : z_nop k_X4_newFrame 34 = o_iload 4 := rfl
theorem c_X4_newFrame_35 : z_nop k_X4_newFrame 35 = o_aald := rfl
theorem c_X4_newFrame_36 : z_nop k_X4_newFrame 36 = o_aload 0 := rfl
theorem c_X4_newFrame_37 : z_nop k_X4_newFrame 37 = o_ic 1 := rfl
theorem c_X4_newFrame_38 : z_nop k_X4_newFrame 38 = o_iload 3 := rfl
theorem c_X4_newFrame_39 : z_nop k_X4_newFrame 39 = o_bin (fun x y => x <<< (y &&& 31)) := rfl
theorem c_X4_newFrame_40 : z_nop k_X4_newFrame 40 = o_callv 9 94 2 := rfl
theorem c_X4_newFrame_41 : z_nop k_X4_newFrame 41 = o_put 7 5 := rfl
theorem c_X4_newFrame_42 : z_nop k_X4_newFrame 42 = o_iinc 4 1 := rfl
theorem c_X4_newFrame_43 : z_nop k_X4_newFrame 43 = o_goto 22 := rfl
theorem c_X4_newFrame_44 : z_nop k_X4_newFrame 44 = o_ret := rfl

def f_draw (w : Nat) (x q : Int32) (i : Nat) (M : zMem) : zMem := if M.1 7 w i 4 = x then z_up (m_draw M w) 7 w i 5 (r_draw M w (1 <<< (q &&& 31))) else M
theorem z_itS {α : Type} (f : Nat → α → α) (n : Nat) (M : α) : z_it f (n + 1) M = f n (z_it f n M) := rfl
theorem f_draw1 {w i : Nat} {x q : Int32} {M : zMem} (c : M.1 7 w i 4 = x) : f_draw w x q i M = z_up (m_draw M w) 7 w i 5 (r_draw M w (1 <<< (q &&& 31))) := if_pos c
theorem f_draw0 {w i : Nat} {x q : Int32} {M : zMem} (c : ¬ M.1 7 w i 4 = x) : f_draw w x q i M = M := if_neg c
def m_frame0 (M : zMem) (w r : Nat) (q : Int32) : zMem :=
  z_up (z_up (m_tallyClear (z_up M 4 w r 9 q) w (2 * r + 1)) 4 w r 10 ((m_tallyClear (z_up M 4 w r 9 q) w (2 * r + 1)).1 4 w r 10 + 1)) 20 w 0 4 ((m_tallyClear (z_up M 4 w r 9 q) w (2 * r + 1)).1 20 w 0 4 + 1)
def m_newFrame (M : zMem) (w r : Nat) (x q : Int32) : zMem := z_it (f_draw w x q) 24 (m_frame0 M w r q)
set_option maxRecDepth 100000 in
theorem s_newFrame {h w r : Nat} {M : zMem} {x y : Int32} {K : zK} (hm : (1 : Int32) <<< (y &&& 31) > 0) (q : K none (m_newFrame M w r x y)) : z_call (h + 2) 43 [.inr (.inr (9, w, 0)), .inl x, .inr (.inr (4, w, r)), .inl y] M K := by
  unfold m_newFrame at q
  have e0 : z_up (z_up (m_tallyClear (z_up M 4 w r 9 y) w (2 * r + 1)) 4 w r 10 ((m_tallyClear (z_up M 4 w r 9 y) w (2 * r + 1)).1 4 w r 10 + 1)) 20 w 0 4 ((m_tallyClear (z_up M 4 w r 9 y) w (2 * r + 1)).1 20 w 0 4 + 1) = m_frame0 M w r y := rfl
  refine e_X4_newFrame rfl rfl ?_
  refine z_wp_run (cut := [6, 22, 41]) 47 _ _ _ _ ?_
  repeat' (first | (simp only [z_wp, Bool.false_eq_true, ↓reduceIte, z_e10, z_e01, eq_self, Int32.reduceLT, Int32.reduceLE, Int32.reduceGT, Int32.reduceGE, z_in, cond_true, cond_false, Nat.reduceAdd, Nat.reduceBEq, z_nth, z_set, z_clr, z_st1, z_st2, z_isL, z_opt, z_pop, z_cats, z_cat, c_X4_newFrame_0, c_X4_newFrame_1, c_X4_newFrame_2, c_X4_newFrame_3, c_X4_newFrame_4, c_X4_newFrame_5, c_X4_newFrame_6, c_X4_newFrame_7, c_X4_newFrame_8, c_X4_newFrame_9, c_X4_newFrame_10, c_X4_newFrame_11, c_X4_newFrame_12, c_X4_newFrame_13, c_X4_newFrame_14, c_X4_newFrame_15, c_X4_newFrame_16, c_X4_newFrame_17, c_X4_newFrame_18, c_X4_newFrame_19, c_X4_newFrame_20, c_X4_newFrame_21, c_X4_newFrame_22, c_X4_newFrame_23, c_X4_newFrame_24, c_X4_newFrame_25, c_X4_newFrame_26, c_X4_newFrame_27, c_X4_newFrame_28, c_X4_newFrame_29, c_X4_newFrame_30, c_X4_newFrame_31, c_X4_newFrame_32, c_X4_newFrame_33, c_X4_newFrame_34, c_X4_newFrame_35, c_X4_newFrame_36, c_X4_newFrame_37, c_X4_newFrame_38, c_X4_newFrame_39, c_X4_newFrame_40, c_X4_newFrame_41, c_X4_newFrame_42, c_X4_newFrame_43, c_X4_newFrame_44, o_aald, o_aload, o_bin, o_callv, o_dup, o_dup2, o_get, o_getr, o_goto, o_iald, o_iast, o_ic, o_icmp, o_iinc, o_iload, o_istore, o_put, o_ret, z_cv0, z_cl0, z_cv1, z_cl1, z_cv2, z_cl2, z_cv3, z_cl3, z_cv4, z_cl4, z_cv5, z_cl5, z_cv6, z_cl6, z_cv7, z_cl7, z_cv8, z_cl8, z_cv9, z_cl9, z_cv10, z_cl10, z_cv11, z_cl11, z_cv12, z_cl12, z_cv13, z_cl13, z_len, z_elt, z_isI, z_isJ, Nat.reduceEqDiff, Nat.reduceLeDiff, Nat.reduceLT, Nat.reduceSub, Nat.reduceMul, not_false_eq_true, not_true_eq_false, true_and, and_true, true_or, or_true, false_or, or_false, true_implies, false_implies, implies_true, forall_const, and_self, ne_eq, Classical.not_not, z_up1, z_up2, z_cp1, z_cp2, z_upL1, z_upL2, if_true, if_false, and_false, false_and, e0]) | (refine s_tallyClear ?_) | (with_reducible refine And.intro ?_ ?_) | (with_reducible intro _) | (with_reducible refine z_go (i := 6) (cut := [6, 22, 41]) 47 ?_) | (with_reducible refine z_go (i := 41) (cut := [6, 22, 41]) 47 ?_))
  refine z_loop (fun n => z_run (z_nop k_X4_newFrame) (z_call (h + 1)) K 22 [.inr (.inr (9, w, 0)), .inl x, .inr (.inr (4, w, r)), .inl y, .inl (nI n)] [] (z_it (f_draw w x y) n (m_frame0 M w r y))) 24 ?_ ?_ 0 (by omega)
  · obtain ⟨f1, f2⟩ := z_eq24
    refine z_go (cut := [6, 22, 41]) 47 ?_
    simp only [z_wp, Bool.false_eq_true, ↓reduceIte, z_e10, z_e01, eq_self, Int32.reduceLT, Int32.reduceLE, Int32.reduceGT, Int32.reduceGE, z_in, cond_true, cond_false, Nat.reduceAdd, Nat.reduceBEq, z_nth, z_set, z_clr, z_st1, z_st2, z_isL, z_opt, z_pop, z_cats, z_cat, c_X4_newFrame_0, c_X4_newFrame_1, c_X4_newFrame_2, c_X4_newFrame_3, c_X4_newFrame_4, c_X4_newFrame_5, c_X4_newFrame_6, c_X4_newFrame_7, c_X4_newFrame_8, c_X4_newFrame_9, c_X4_newFrame_10, c_X4_newFrame_11, c_X4_newFrame_12, c_X4_newFrame_13, c_X4_newFrame_14, c_X4_newFrame_15, c_X4_newFrame_16, c_X4_newFrame_17, c_X4_newFrame_18, c_X4_newFrame_19, c_X4_newFrame_20, c_X4_newFrame_21, c_X4_newFrame_22, c_X4_newFrame_23, c_X4_newFrame_24, c_X4_newFrame_25, c_X4_newFrame_26, c_X4_newFrame_27, c_X4_newFrame_28, c_X4_newFrame_29, c_X4_newFrame_30, c_X4_newFrame_31, c_X4_newFrame_32, c_X4_newFrame_33, c_X4_newFrame_34, c_X4_newFrame_35, c_X4_newFrame_36, c_X4_newFrame_37, c_X4_newFrame_38, c_X4_newFrame_39, c_X4_newFrame_40, c_X4_newFrame_41, c_X4_newFrame_42, c_X4_newFrame_43, c_X4_newFrame_44, o_aald, o_aload, o_bin, o_callv, o_dup, o_dup2, o_get, o_getr, o_goto, o_iald, o_iast, o_ic, o_icmp, o_iinc, o_iload, o_istore, o_put, o_ret, z_cv0, z_cl0, z_cv1, z_cl1, z_cv2, z_cl2, z_cv3, z_cl3, z_cv4, z_cl4, z_cv5, z_cl5, z_cv6, z_cl6, z_cv7, z_cl7, z_cv8, z_cl8, z_cv9, z_cl9, z_cv10, z_cl10, z_cv11, z_cl11, z_cv12, z_cl12, z_cv13, z_cl13, z_len, z_elt, z_isI, z_isJ, Nat.reduceEqDiff, Nat.reduceLeDiff, Nat.reduceLT, Nat.reduceSub, Nat.reduceMul, not_false_eq_true, not_true_eq_false, true_and, and_true, true_or, or_true, false_or, or_false, true_implies, false_implies, implies_true, forall_const, and_self, ne_eq, Classical.not_not, z_up1, z_up2, z_cp1, z_cp2, z_upL1, z_upL2, if_true, if_false, and_false, false_and, f1, f2]
    exact q
  · intro n hn ih
    obtain ⟨f1, f2, f3, f4, f5⟩ := z_lt24 hn
    rw [z_itS] at ih
    refine z_go (cut := [22, 41, 6]) 40 ?_
    simp only [z_wp, Bool.false_eq_true, ↓reduceIte, z_e10, z_e01, eq_self, Int32.reduceLT, Int32.reduceLE, Int32.reduceGT, Int32.reduceGE, z_in, cond_true, cond_false, Nat.reduceAdd, Nat.reduceBEq, z_nth, z_set, z_clr, z_st1, z_st2, z_isL, z_opt, z_pop, z_cats, z_cat, c_X4_newFrame_0, c_X4_newFrame_1, c_X4_newFrame_2, c_X4_newFrame_3, c_X4_newFrame_4, c_X4_newFrame_5, c_X4_newFrame_6, c_X4_newFrame_7, c_X4_newFrame_8, c_X4_newFrame_9, c_X4_newFrame_10, c_X4_newFrame_11, c_X4_newFrame_12, c_X4_newFrame_13, c_X4_newFrame_14, c_X4_newFrame_15, c_X4_newFrame_16, c_X4_newFrame_17, c_X4_newFrame_18, c_X4_newFrame_19, c_X4_newFrame_20, c_X4_newFrame_21, c_X4_newFrame_22, c_X4_newFrame_23, c_X4_newFrame_24, c_X4_newFrame_25, c_X4_newFrame_26, c_X4_newFrame_27, c_X4_newFrame_28, c_X4_newFrame_29, c_X4_newFrame_30, c_X4_newFrame_31, c_X4_newFrame_32, c_X4_newFrame_33, c_X4_newFrame_34, c_X4_newFrame_35, c_X4_newFrame_36, c_X4_newFrame_37, c_X4_newFrame_38, c_X4_newFrame_39, c_X4_newFrame_40, c_X4_newFrame_41, c_X4_newFrame_42, c_X4_newFrame_43, c_X4_newFrame_44, o_aald, o_aload, o_bin, o_callv, o_dup, o_dup2, o_get, o_getr, o_goto, o_iald, o_iast, o_ic, o_icmp, o_iinc, o_iload, o_istore, o_put, o_ret, z_cv0, z_cl0, z_cv1, z_cl1, z_cv2, z_cl2, z_cv3, z_cl3, z_cv4, z_cl4, z_cv5, z_cl5, z_cv6, z_cl6, z_cv7, z_cl7, z_cv8, z_cl8, z_cv9, z_cl9, z_cv10, z_cl10, z_cv11, z_cl11, z_cv12, z_cl12, z_cv13, z_cl13, z_len, z_elt, z_isI, z_isJ, Nat.reduceEqDiff, Nat.reduceLeDiff, Nat.reduceLT, Nat.reduceSub, Nat.reduceMul, not_false_eq_true, not_true_eq_false, true_and, and_true, true_or, or_true, false_or, or_false, true_implies, false_implies, implies_true, forall_const, and_self, ne_eq, Classical.not_not, z_up1, z_up2, z_cp1, z_cp2, z_upL1, z_upL2, if_true, if_false, and_false, false_and, f1, f2, f3, f4, f5]
    refine ⟨fun c => ?_, fun c => s_draw hm ?_⟩
    · rw [f_draw0 c] at ih
      exact ih
    · rw [f_draw1 c] at ih
      refine z_go (cut := [22, 41, 6]) 40 ?_
      simp only [z_wp, Bool.false_eq_true, ↓reduceIte, z_e10, z_e01, eq_self, Int32.reduceLT, Int32.reduceLE, Int32.reduceGT, Int32.reduceGE, z_in, cond_true, cond_false, Nat.reduceAdd, Nat.reduceBEq, z_nth, z_set, z_clr, z_st1, z_st2, z_isL, z_opt, z_pop, z_cats, z_cat, c_X4_newFrame_0, c_X4_newFrame_1, c_X4_newFrame_2, c_X4_newFrame_3, c_X4_newFrame_4, c_X4_newFrame_5, c_X4_newFrame_6, c_X4_newFrame_7, c_X4_newFrame_8, c_X4_newFrame_9, c_X4_newFrame_10, c_X4_newFrame_11, c_X4_newFrame_12, c_X4_newFrame_13, c_X4_newFrame_14, c_X4_newFrame_15, c_X4_newFrame_16, c_X4_newFrame_17, c_X4_newFrame_18, c_X4_newFrame_19, c_X4_newFrame_20, c_X4_newFrame_21, c_X4_newFrame_22, c_X4_newFrame_23, c_X4_newFrame_24, c_X4_newFrame_25, c_X4_newFrame_26, c_X4_newFrame_27, c_X4_newFrame_28, c_X4_newFrame_29, c_X4_newFrame_30, c_X4_newFrame_31, c_X4_newFrame_32, c_X4_newFrame_33, c_X4_newFrame_34, c_X4_newFrame_35, c_X4_newFrame_36, c_X4_newFrame_37, c_X4_newFrame_38, c_X4_newFrame_39, c_X4_newFrame_40, c_X4_newFrame_41, c_X4_newFrame_42, c_X4_newFrame_43, c_X4_newFrame_44, o_aald, o_aload, o_bin, o_callv, o_dup, o_dup2, o_get, o_getr, o_goto, o_iald, o_iast, o_ic, o_icmp, o_iinc, o_iload, o_istore, o_put, o_ret, z_cv0, z_cl0, z_cv1, z_cl1, z_cv2, z_cl2, z_cv3, z_cl3, z_cv4, z_cl4, z_cv5, z_cl5, z_cv6, z_cl6, z_cv7, z_cl7, z_cv8, z_cl8, z_cv9, z_cl9, z_cv10, z_cl10, z_cv11, z_cl11, z_cv12, z_cl12, z_cv13, z_cl13, z_len, z_elt, z_isI, z_isJ, Nat.reduceEqDiff, Nat.reduceLeDiff, Nat.reduceLT, Nat.reduceSub, Nat.reduceMul, not_false_eq_true, not_true_eq_false, true_and, and_true, true_or, or_true, false_or, or_false, true_implies, false_implies, implies_true, forall_const, and_self, ne_eq, Classical.not_not, z_up1, z_up2, z_cp1, z_cp2, z_upL1, z_upL2, if_true, if_false, and_false, false_and, f5]
      exact ih
theorem e_X4_stepQf {h : Nat} {a0 : zId} {a1 : Int32} {M : zMem} {K : zK} (ha0 : (a0.1 == 99) = false) (q : z_run (z_nop k_X4_stepQf) (z_call h) K 0 [.inr (.inr a0), .inl a1] [] M) : z_call (h + 1) 49 [.inr (.inr a0), .inl a1] M K := ⟨by simp only [List.all_cons, List.all_nil, z_isU, ha0]; rfl, q⟩
theorem c_X4_stepQf_0 : z_nop k_X4_stepQf 0 = o_iload 1 := rfl
theorem c_X4_stepQf_1 : z_nop k_X4_stepQf 1 = o_if (fun x => x ≠ 0) 12 := rfl
theorem c_X4_stepQf_2 : z_nop k_X4_stepQf 2 = o_aload 0 := rfl
theorem c_X4_stepQf_3 : z_nop k_X4_stepQf 3 = o_ic 0 := rfl
theorem c_X4_stepQf_4 : z_nop k_X4_stepQf 4 = o_aload 0 := rfl
theorem c_X4_stepQf_5 : z_nop k_X4_stepQf 5 = o_get 4 2 := rfl
theorem c_X4_stepQf_6 : z_nop k_X4_stepQf 6 = o_aload 0 := rfl
theorem c_X4_stepQf_7 : z_nop k_X4_stepQf 7 = o_get 4 3 := rfl
theorem c_X4_stepQf_8 : z_nop k_X4_stepQf 8 = o_bin (fun x y => x - y) := rfl
theorem c_X4_stepQf_9 : z_nop k_X4_stepQf 9 = o_mmax := rfl
theorem c_X4_stepQf_10 : z_nop k_X4_stepQf 10 = o_put 4 2 := rfl
theorem c_X4_stepQf_11 : z_nop k_X4_stepQf 11 = o_goto 24 := rfl
theorem c_X4_stepQf_12 : z_nop k_X4_stepQf 12 = o_iload 1 := rfl
theorem c_X4_stepQf_13 : z_nop k_X4_stepQf 13 = o_ic 1 := rfl
theorem c_X4_stepQf_14 : z_nop k_X4_stepQf 14 = o_icmp (fun x y => x ≤ y) 24 := rfl
theorem c_X4_stepQf_15 : z_nop k_X4_stepQf 15 = o_aload 0 := rfl
theorem c_X4_stepQf_16 : z_nop k_X4_stepQf 16 = o_ic 64 := rfl
theorem c_X4_stepQf_17 : z_nop k_X4_stepQf 17 = o_aload 0 := rfl
theorem c_X4_stepQf_18 : z_nop k_X4_stepQf 18 = o_get 4 2 := rfl
theorem c_X4_stepQf_19 : z_nop k_X4_stepQf 19 = o_aload 0 := rfl
theorem c_X4_stepQf_20 : z_nop k_X4_stepQf 20 = o_get 4 3 := rfl
theorem c_X4_stepQf_21 : z_nop k_X4_stepQf 21 = o_bin (fun x y => x + y) := rfl
theorem c_X4_stepQf_22 : z_nop k_X4_stepQf 22 = o_mmin := rfl
theorem c_X4_stepQf_23 : z_nop k_X4_stepQf 23 = o_put 4 2 := rfl
theorem c_X4_stepQf_24 : z_nop k_X4_stepQf 24 = o_ret := rfl

def m_stepQf (M : zMem) (w r : Nat) (a : Int32) : zMem :=
  if a = 0 then z_up M 4 w r 2 (if 0 < M.1 4 w r 2 - M.1 4 w r 3 then M.1 4 w r 2 - M.1 4 w r 3 else 0)
  else if a ≤ 1 then M else z_up M 4 w r 2 (if M.1 4 w r 2 + M.1 4 w r 3 < 64 then M.1 4 w r 2 + M.1 4 w r 3 else 64)
set_option maxRecDepth 100000 in
theorem s_stepQf {h w r : Nat} {M : zMem} {a : Int32} {K : zK} (q : K none (m_stepQf M w r a)) : z_call (h + 1) 49 [.inr (.inr (4, w, r)), .inl a] M K := by
  refine e_X4_stepQf rfl ?_
  refine z_wp_run (cut := []) 27 _ _ _ _ ?_
  repeat' (first | (simp only [z_wp, Bool.false_eq_true, ↓reduceIte, z_e10, z_e01, eq_self, Int32.reduceLT, Int32.reduceLE, Int32.reduceGT, Int32.reduceGE, z_in, cond_true, cond_false, Nat.reduceAdd, Nat.reduceBEq, z_nth, z_set, z_clr, z_st1, z_st2, z_isL, z_opt, z_pop, z_cats, z_cat, c_X4_stepQf_0, c_X4_stepQf_1, c_X4_stepQf_2, c_X4_stepQf_3, c_X4_stepQf_4, c_X4_stepQf_5, c_X4_stepQf_6, c_X4_stepQf_7, c_X4_stepQf_8, c_X4_stepQf_9, c_X4_stepQf_10, c_X4_stepQf_11, c_X4_stepQf_12, c_X4_stepQf_13, c_X4_stepQf_14, c_X4_stepQf_15, c_X4_stepQf_16, c_X4_stepQf_17, c_X4_stepQf_18, c_X4_stepQf_19, c_X4_stepQf_20, c_X4_stepQf_21, c_X4_stepQf_22, c_X4_stepQf_23, c_X4_stepQf_24, o_aload, o_bin, o_get, o_goto, o_ic, o_icmp, o_if, o_iload, o_mmax, o_mmin, o_put, o_ret, z_cv0, z_cl0, z_cv1, z_cl1, z_cv2, z_cl2, z_cv3, z_cl3, z_cv4, z_cl4, z_cv5, z_cl5, z_cv6, z_cl6, z_cv7, z_cl7, z_cv8, z_cl8, z_cv9, z_cl9, z_cv10, z_cl10, z_cv11, z_cl11, z_cv12, z_cl12, z_cv13, z_cl13, z_len, z_elt, z_isI, z_isJ, Nat.reduceEqDiff, Nat.reduceLeDiff, Nat.reduceLT, Nat.reduceSub, Nat.reduceMul, not_false_eq_true, not_true_eq_false, true_and, and_true, true_or, or_true, false_or, or_false, true_implies, false_implies, implies_true, forall_const, and_self, ne_eq, Classical.not_not, z_up1, z_up2, z_cp1, z_cp2, z_upL1, z_upL2, if_true, if_false, and_false, false_and]) | (with_reducible refine And.intro ?_ ?_) | (with_reducible intro _))
  all_goals (first | (with_reducible exact q) | ((try simp only [ge_iff_le, gt_iff_lt, ← Int32.not_lt, Classical.not_not] at *); (first | (with_reducible rfl) | rfl | (with_reducible exact z_vi_24 (by assumption) (by assumption)) | (with_reducible exact z_vi_4 (by assumption) (by assumption)) | (with_reducible exact z_vi_512 (by assumption) (by assumption)) | (with_reducible exact z_vi_14 (by assumption) (by assumption)) | (with_reducible exact z_vi_8 (by assumption) (by assumption)) | (with_reducible exact z_vinN (by assumption) (by assumption) (by decide)) | (with_reducible exact z_vin1 (by assumption) (by assumption) (by decide)) | ((try simp only [m_stepQf] at q); (try simp only [ge_iff_le, gt_iff_lt, ← Int32.not_lt, Classical.not_not] at q); (try simp only [*, if_true, if_false, ite_self, true_or, or_true, false_or, or_false, true_and, and_true, false_and, and_false, not_true_eq_false, not_false_eq_true, cond_true, cond_false, decide_true, decide_false, Bool.true_and, Bool.and_true, Bool.false_and, Bool.and_false, Bool.true_or, Bool.or_true, Bool.false_or, Bool.or_false, Bool.not_true, Bool.not_false, ne_eq, Nat.reduceEqDiff] at q); with_reducible exact q))) | (simp_all [m_stepQf]; done))
theorem e_X4_finish {h : Nat} {a0 : zId} {a1 : Int32} {a2 : zId} {M : zMem} {K : zK} (ha0 : (a0.1 == 99) = false) (ha2 : (a2.1 == 99) = false) (q : z_run (z_nop k_X4_finish) (z_call h) K 0 [.inr (.inr a0), .inl a1, .inr (.inr a2), z_un] [] M) : z_call (h + 1) 54 [.inr (.inr a0), .inl a1, .inr (.inr a2)] M K := ⟨by simp only [List.all_cons, List.all_nil, z_isU, ha0, ha2]; rfl, q⟩
theorem c_X4_finish_0 : z_nop k_X4_finish 0 = o_aload 0 := rfl
theorem c_X4_finish_1 : z_nop k_X4_finish 1 = o_iload 1 := rfl
theorem c_X4_finish_2 : z_nop k_X4_finish 2 = o_callv 9 112 2 := rfl
theorem c_X4_finish_3 : z_nop k_X4_finish 3 = o_call 274 1 := rfl
theorem c_X4_finish_4 : z_nop k_X4_finish 4 = o_istore 3 := rfl
theorem c_X4_finish_5 : z_nop k_X4_finish 5 = o_aload 2 := rfl
theorem c_X4_finish_6 : z_nop k_X4_finish 6 = o_iload 3 := rfl
theorem c_X4_finish_7 : z_nop k_X4_finish 7 = o_put 4 11 := rfl
theorem c_X4_finish_8 : z_nop k_X4_finish 8 = o_aload 0 := rfl
theorem c_X4_finish_9 : z_nop k_X4_finish 9 = o_getr 9 (fun w i => (20, w, 0)) := rfl
theorem c_X4_finish_10 : z_nop k_X4_finish 10 = o_ic 12 := rfl
theorem c_X4_finish_11 : z_nop k_X4_finish 11 = o_dup2 := rfl
theorem c_X4_finish_12 : z_nop k_X4_finish 12 = o_iald := rfl
theorem c_X4_finish_13 : z_nop k_X4_finish 13 = o_iload 3 := rfl
theorem c_X4_finish_14 : z_nop k_X4_finish 14 = o_bin (fun x y => x + y) := rfl
theorem c_X4_finish_15 : z_nop k_X4_finish 15 = o_iast := rfl
theorem c_X4_finish_16 : z_nop k_X4_finish 16 = o_aload 0 := rfl
theorem c_X4_finish_17 : z_nop k_X4_finish 17 = o_iload 1 := rfl
theorem c_X4_finish_18 : z_nop k_X4_finish 18 = o_call 55 2 := rfl
theorem c_X4_finish_19 : z_nop k_X4_finish 19 = o_aload 2 := rfl
theorem c_X4_finish_20 : z_nop k_X4_finish 20 = o_callv 4 33 1 := rfl
theorem c_X4_finish_21 : z_nop k_X4_finish 21 = o_aload 0 := rfl
theorem c_X4_finish_22 : z_nop k_X4_finish 22 = o_getr 9 (fun w i => (20, w, 0)) := rfl
theorem c_X4_finish_23 : z_nop k_X4_finish 23 = o_ic 5 := rfl
theorem c_X4_finish_24 : z_nop k_X4_finish 24 = o_dup2 := rfl
theorem c_X4_finish_25 : z_nop k_X4_finish 25 = o_iald := rfl
theorem c_X4_finish_26 : z_nop k_X4_finish 26 = o_ic 1 := rfl
theorem c_X4_finish_27 : z_nop k_X4_finish 27 = o_bin (fun x y => x + y) := rfl
theorem c_X4_finish_28 : z_nop k_X4_finish 28 = o_iast := rfl
theorem c_X4_finish_29 : z_nop k_X4_finish 29 = o_aload 0 := rfl
theorem c_X4_finish_30 : z_nop k_X4_finish 30 = o_iload 1 := rfl
theorem c_X4_finish_31 : z_nop k_X4_finish 31 = o_ic 4 := rfl
theorem c_X4_finish_32 : z_nop k_X4_finish 32 = o_aload 2 := rfl
theorem c_X4_finish_33 : z_nop k_X4_finish 33 = o_getr 4 (fun w i => (8, w, 2 * i)) := rfl
theorem c_X4_finish_34 : z_nop k_X4_finish 34 = o_get 8 1 := rfl
theorem c_X4_finish_35 : z_nop k_X4_finish 35 = o_callv 9 93 4 := rfl
theorem c_X4_finish_36 : z_nop k_X4_finish 36 = o_ret := rfl

def m_finish1 (M : zMem) (w r : Nat) (x : Int32) : zMem :=
  z_up (z_up M 4 w r 11 (r_bc (r_tagsOf M w x))) 20 w 0 12 (M.1 20 w 0 12 + r_bc (r_tagsOf M w x))
def m_finish2 (M : zMem) (w r : Nat) (x : Int32) : zMem := m_rest (m_releaseAll (m_finish1 M w r x) w x) w r
def m_finish3 (M : zMem) (w r : Nat) (x : Int32) : zMem := z_up (m_finish2 M w r x) 20 w 0 5 ((m_finish2 M w r x).1 20 w 0 5 + 1)
def m_finish (M : zMem) (w r : Nat) (x : Int32) : zMem := m_write (m_finish3 M w r x) w x 4 ((m_finish3 M w r x).1 8 w (2 * r) 1)
set_option maxRecDepth 100000 in
theorem s_finish {h w r : Nat} {M : zMem} {x : Int32} {K : zK} (hc : ¬ (m_finish3 M w r x).1 2 w 0 1 < 0) (q : K none (m_finish M w r x)) : z_call (h + 4) 54 [.inr (.inr (9, w, 0)), .inl x, .inr (.inr (4, w, r))] M K := by
  have e1 : z_up (z_up M 4 w r 11 (r_bc (r_tagsOf M w x))) 20 w 0 12 (M.1 20 w 0 12 + r_bc (r_tagsOf M w x)) = m_finish1 M w r x := rfl
  have e2 : m_rest (m_releaseAll (m_finish1 M w r x) w x) w r = m_finish2 M w r x := rfl
  have e3 : z_up (m_finish2 M w r x) 20 w 0 5 ((m_finish2 M w r x).1 20 w 0 5 + 1) = m_finish3 M w r x := rfl
  unfold m_finish at q
  refine e_X4_finish rfl rfl ?_
  refine z_wp_run (cut := [3, 4, 19, 21, 36]) 39 _ _ _ _ ?_
  repeat' (first | (simp only [z_wp, Bool.false_eq_true, ↓reduceIte, z_e10, z_e01, eq_self, Int32.reduceLT, Int32.reduceLE, Int32.reduceGT, Int32.reduceGE, z_in, cond_true, cond_false, Nat.reduceAdd, Nat.reduceBEq, z_nth, z_set, z_clr, z_st1, z_st2, z_isL, z_opt, z_pop, z_cats, z_cat, c_X4_finish_0, c_X4_finish_1, c_X4_finish_2, c_X4_finish_3, c_X4_finish_4, c_X4_finish_5, c_X4_finish_6, c_X4_finish_7, c_X4_finish_8, c_X4_finish_9, c_X4_finish_10, c_X4_finish_11, c_X4_finish_12, c_X4_finish_13, c_X4_finish_14, c_X4_finish_15, c_X4_finish_16, c_X4_finish_17, c_X4_finish_18, c_X4_finish_19, c_X4_finish_20, c_X4_finish_21, c_X4_finish_22, c_X4_finish_23, c_X4_finish_24, c_X4_finish_25, c_X4_finish_26, c_X4_finish_27, c_X4_finish_28, c_X4_finish_29, c_X4_finish_30, c_X4_finish_31, c_X4_finish_32, c_X4_finish_33, c_X4_finish_34, c_X4_finish_35, c_X4_finish_36, o_aload, o_bin, o_call, o_callv, o_dup2, o_get, o_getr, o_iald, o_iast, o_ic, o_iload, o_istore, o_put, o_ret, z_cv0, z_cl0, z_cv1, z_cl1, z_cv2, z_cl2, z_cv3, z_cl3, z_cv4, z_cl4, z_cv5, z_cl5, z_cv6, z_cl6, z_cv7, z_cl7, z_cv8, z_cl8, z_cv9, z_cl9, z_cv10, z_cl10, z_cv11, z_cl11, z_cv12, z_cl12, z_cv13, z_cl13, z_len, z_elt, z_isI, z_isJ, Nat.reduceEqDiff, Nat.reduceLeDiff, Nat.reduceLT, Nat.reduceSub, Nat.reduceMul, not_false_eq_true, not_true_eq_false, true_and, and_true, true_or, or_true, false_or, or_false, true_implies, false_implies, implies_true, forall_const, and_self, ne_eq, Classical.not_not, z_up1, z_up2, z_cp1, z_cp2, z_upL1, z_upL2, if_true, if_false, and_false, false_and, e1, e2, e3]) | (refine s_tagsOf ?_) | (refine s_bc ?_) | (refine s_releaseAll ?_) | (refine s_rest ?_) | (refine (s_write hc) ?_) | (with_reducible refine And.intro ?_ ?_) | (with_reducible intro _) | (with_reducible refine z_go (i := 3) (cut := [3, 4, 19, 21, 36]) 39 ?_) | (with_reducible refine z_go (i := 4) (cut := [3, 4, 19, 21, 36]) 39 ?_) | (with_reducible refine z_go (i := 19) (cut := [3, 4, 19, 21, 36]) 39 ?_) | (with_reducible refine z_go (i := 21) (cut := [3, 4, 19, 21, 36]) 39 ?_) | (with_reducible refine z_go (i := 36) (cut := [3, 4, 19, 21, 36]) 39 ?_))
  all_goals (first | (with_reducible exact q) | ((try simp only [ge_iff_le, gt_iff_lt, ← Int32.not_lt, Classical.not_not] at *); (first | (with_reducible rfl) | rfl | (with_reducible exact z_vi_24 (by assumption) (by assumption)) | (with_reducible exact z_vi_4 (by assumption) (by assumption)) | (with_reducible exact z_vi_512 (by assumption) (by assumption)) | (with_reducible exact z_vi_14 (by assumption) (by assumption)) | (with_reducible exact z_vi_8 (by assumption) (by assumption)) | (with_reducible exact z_vinN (by assumption) (by assumption) (by decide)) | (with_reducible exact z_vin1 (by assumption) (by assumption) (by decide)) | ((try simp only [ge_iff_le, gt_iff_lt, ← Int32.not_lt, Classical.not_not] at q); (try simp only [*, if_true, if_false, ite_self, true_or, or_true, false_or, or_false, true_and, and_true, false_and, and_false, not_true_eq_false, not_false_eq_true, cond_true, cond_false, decide_true, decide_false, Bool.true_and, Bool.and_true, Bool.false_and, Bool.and_false, Bool.true_or, Bool.or_true, Bool.false_or, Bool.or_false, Bool.not_true, Bool.not_false, ne_eq, Nat.reduceEqDiff] at q); with_reducible exact q))) | (simp_all; done))
theorem e_X4_interrupt {h : Nat} {a0 : zId} {a1 : Int32} {M : zMem} {K : zK} (ha0 : (a0.1 == 99) = false) (q : z_run (z_nop k_X4_interrupt) (z_call h) K 0 [.inr (.inr a0), .inl a1, z_un] [] M) : z_call (h + 1) 41 [.inr (.inr a0), .inl a1] M K := ⟨by simp only [List.all_cons, List.all_nil, z_isU, ha0]; rfl, q⟩
theorem c_X4_interrupt_0 : z_nop k_X4_interrupt 0 = o_aload 0 := rfl
theorem c_X4_interrupt_1 : z_nop k_X4_interrupt 1 = o_iload 1 := rfl
theorem c_X4_interrupt_2 : z_nop k_X4_interrupt 2 = o_callv 9 92 2 := rfl
theorem c_X4_interrupt_3 : z_nop k_X4_interrupt 3 = o_astore 2 := rfl
theorem c_X4_interrupt_4 : z_nop k_X4_interrupt 4 = o_aload 2 := rfl
theorem c_X4_interrupt_5 : z_nop k_X4_interrupt 5 = o_ifnull 9 := rfl
theorem c_X4_interrupt_6 : z_nop k_X4_interrupt 6 = o_aload 2 := rfl
theorem c_X4_interrupt_7 : z_nop k_X4_interrupt 7 = o_get 4 1 := rfl
theorem c_X4_interrupt_8 : z_nop k_X4_interrupt 8 = o_if (fun x => x ≠ 0) 11 := rfl
theorem c_X4_interrupt_9 : z_nop k_X4_interrupt 9 = o_ic 0 := rfl
theorem c_X4_interrupt_10 : z_nop k_X4_interrupt 10 = o_zret := rfl
theorem c_X4_interrupt_11 : z_nop k_X4_interrupt 11 = o_aload 0 := rfl
theorem c_X4_interrupt_12 : z_nop k_X4_interrupt 12 = o_iload 1 := rfl
theorem c_X4_interrupt_13 : z_nop k_X4_interrupt 13 = o_call 55 2 := rfl
theorem c_X4_interrupt_14 : z_nop k_X4_interrupt 14 = o_aload 2 := rfl
theorem c_X4_interrupt_15 : z_nop k_X4_interrupt 15 = o_callv 4 33 1 := rfl
theorem c_X4_interrupt_16 : z_nop k_X4_interrupt 16 = o_aload 0 := rfl
theorem c_X4_interrupt_17 : z_nop k_X4_interrupt 17 = o_getr 9 (fun w i => (20, w, 0)) := rfl
theorem c_X4_interrupt_18 : z_nop k_X4_interrupt 18 = o_ic 6 := rfl
theorem c_X4_interrupt_19 : z_nop k_X4_interrupt 19 = o_dup2 := rfl
theorem c_X4_interrupt_20 : z_nop k_X4_interrupt 20 = o_iald := rfl
theorem c_X4_interrupt_21 : z_nop k_X4_interrupt 21 = o_ic 1 := rfl
theorem c_X4_interrupt_22 : z_nop k_X4_interrupt 22 = o_bin (fun x y => x + y) := rfl
theorem c_X4_interrupt_23 : z_nop k_X4_interrupt 23 = o_iast := rfl
theorem c_X4_interrupt_24 : z_nop k_X4_interrupt 24 = o_aload 0 := rfl
theorem c_X4_interrupt_25 : z_nop k_X4_interrupt 25 = o_iload 1 := rfl
theorem c_X4_interrupt_26 : z_nop k_X4_interrupt 26 = o_ic 5 := rfl
theorem c_X4_interrupt_27 : z_nop k_X4_interrupt 27 = o_aload 2 := rfl
theorem c_X4_interrupt_28 : z_nop k_X4_interrupt 28 = o_getr 4 (fun w i => (8, w, 2 * i)) := rfl
theorem c_X4_interrupt_29 : z_nop k_X4_interrupt 29 = o_get 8 1 := rfl
theorem c_X4_interrupt_30 : z_nop k_X4_interrupt 30 = o_callv 9 93 4 := rfl
theorem c_X4_interrupt_31 : z_nop k_X4_interrupt 31 = o_ic 1 := rfl
theorem c_X4_interrupt_32 : z_nop k_X4_interrupt 32 = o_zret := rfl

def m_intr1 (M : zMem) (w r : Nat) (x : Int32) : zMem := m_rest (m_releaseAll M w x) w r
def m_intr2 (M : zMem) (w r : Nat) (x : Int32) : zMem := z_up (m_intr1 M w r x) 20 w 0 6 ((m_intr1 M w r x).1 20 w 0 6 + 1)
def m_intr (M : zMem) (w r : Nat) (x : Int32) : zMem := m_write (m_intr2 M w r x) w x 5 ((m_intr2 M w r x).1 8 w (2 * r) 1)
set_option maxRecDepth 100000 in
theorem s_intr {h w : Nat} {M : zMem} {x : Int32} {K : zK} (q0 : ((x < 0 ∨ x ≥ 4) ∨ M.1 4 w x.toNatClampNeg 1 = 0) → K (some (.inl 0)) M) (hc : ¬ (x < 0 ∨ x ≥ 4) → ¬ M.1 4 w x.toNatClampNeg 1 = 0 → ¬ (m_intr2 M w x.toNatClampNeg x).1 2 w 0 1 < 0) (q1 : ¬ (x < 0 ∨ x ≥ 4) → ¬ M.1 4 w x.toNatClampNeg 1 = 0 → K (some (.inl 1)) (m_intr M w x.toNatClampNeg x)) : z_call (h + 4) 41 [.inr (.inr (9, w, 0)), .inl x] M K := by
  by_cases a1 : x < 0 ∨ x ≥ 4
  · have e1 := z_rd0 (w := w) a1
    have q := q0 (Or.inl a1)
    refine e_X4_interrupt rfl ?_
    refine z_wp_run (cut := [3, 14, 16, 31]) 35 _ _ _ _ ?_
    repeat' (first | (simp only [z_wp, Bool.false_eq_true, ↓reduceIte, z_e10, z_e01, eq_self, Int32.reduceLT, Int32.reduceLE, Int32.reduceGT, Int32.reduceGE, z_in, cond_true, cond_false, Nat.reduceAdd, Nat.reduceBEq, z_nth, z_set, z_clr, z_st1, z_st2, z_isL, z_opt, z_pop, z_cats, z_cat, c_X4_interrupt_0, c_X4_interrupt_1, c_X4_interrupt_2, c_X4_interrupt_3, c_X4_interrupt_4, c_X4_interrupt_5, c_X4_interrupt_6, c_X4_interrupt_7, c_X4_interrupt_8, c_X4_interrupt_9, c_X4_interrupt_10, c_X4_interrupt_11, c_X4_interrupt_12, c_X4_interrupt_13, c_X4_interrupt_14, c_X4_interrupt_15, c_X4_interrupt_16, c_X4_interrupt_17, c_X4_interrupt_18, c_X4_interrupt_19, c_X4_interrupt_20, c_X4_interrupt_21, c_X4_interrupt_22, c_X4_interrupt_23, c_X4_interrupt_24, c_X4_interrupt_25, c_X4_interrupt_26, c_X4_interrupt_27, c_X4_interrupt_28, c_X4_interrupt_29, c_X4_interrupt_30, c_X4_interrupt_31, c_X4_interrupt_32, o_aload, o_astore, o_bin, o_call, o_callv, o_dup2, o_get, o_getr, o_iald, o_iast, o_ic, o_if, o_ifnull, o_iload, o_zret, z_cv0, z_cl0, z_cv1, z_cl1, z_cv2, z_cl2, z_cv3, z_cl3, z_cv4, z_cl4, z_cv5, z_cl5, z_cv6, z_cl6, z_cv7, z_cl7, z_cv8, z_cl8, z_cv9, z_cl9, z_cv10, z_cl10, z_cv11, z_cl11, z_cv12, z_cl12, z_cv13, z_cl13, z_len, z_elt, z_isI, z_isJ, Nat.reduceEqDiff, Nat.reduceLeDiff, Nat.reduceLT, Nat.reduceSub, Nat.reduceMul, not_false_eq_true, not_true_eq_false, true_and, and_true, true_or, or_true, false_or, or_false, true_implies, false_implies, implies_true, forall_const, and_self, ne_eq, Classical.not_not, z_up1, z_up2, z_cp1, z_cp2, z_upL1, z_upL2, if_true, if_false, and_false, false_and, e1]) | (refine s_readerAt ?_) | (with_reducible refine And.intro ?_ ?_) | (with_reducible intro _) | (with_reducible refine z_go (i := 3) (cut := [3, 14, 16, 31]) 35 ?_) | (with_reducible refine z_go (i := 14) (cut := [3, 14, 16, 31]) 35 ?_) | (with_reducible refine z_go (i := 16) (cut := [3, 14, 16, 31]) 35 ?_) | (with_reducible refine z_go (i := 31) (cut := [3, 14, 16, 31]) 35 ?_))
    all_goals (first | (with_reducible exact q) | ((try simp only [ge_iff_le, gt_iff_lt, ← Int32.not_lt, Classical.not_not] at *); (first | (with_reducible rfl) | rfl | (with_reducible exact z_vi_24 (by assumption) (by assumption)) | (with_reducible exact z_vi_4 (by assumption) (by assumption)) | (with_reducible exact z_vi_512 (by assumption) (by assumption)) | (with_reducible exact z_vi_14 (by assumption) (by assumption)) | (with_reducible exact z_vi_8 (by assumption) (by assumption)) | (with_reducible exact z_vinN (by assumption) (by assumption) (by decide)) | (with_reducible exact z_vin1 (by assumption) (by assumption) (by decide)) | ((try simp only [ge_iff_le, gt_iff_lt, ← Int32.not_lt, Classical.not_not] at q); (try simp only [*, if_true, if_false, ite_self, true_or, or_true, false_or, or_false, true_and, and_true, false_and, and_false, not_true_eq_false, not_false_eq_true, cond_true, cond_false, decide_true, decide_false, Bool.true_and, Bool.and_true, Bool.false_and, Bool.and_false, Bool.true_or, Bool.or_true, Bool.false_or, Bool.or_false, Bool.not_true, Bool.not_false, ne_eq, Nat.reduceEqDiff] at q); with_reducible exact q))) | (simp_all; done))
  · have e1 := z_rd1 (w := w) a1
    by_cases a2 : M.1 4 w x.toNatClampNeg 1 = 0
    · have q := q0 (Or.inr a2)
      refine e_X4_interrupt rfl ?_
      refine z_wp_run (cut := [3, 14, 16, 31]) 35 _ _ _ _ ?_
      repeat' (first | (simp only [z_wp, Bool.false_eq_true, ↓reduceIte, z_e10, z_e01, eq_self, Int32.reduceLT, Int32.reduceLE, Int32.reduceGT, Int32.reduceGE, z_in, cond_true, cond_false, Nat.reduceAdd, Nat.reduceBEq, z_nth, z_set, z_clr, z_st1, z_st2, z_isL, z_opt, z_pop, z_cats, z_cat, c_X4_interrupt_0, c_X4_interrupt_1, c_X4_interrupt_2, c_X4_interrupt_3, c_X4_interrupt_4, c_X4_interrupt_5, c_X4_interrupt_6, c_X4_interrupt_7, c_X4_interrupt_8, c_X4_interrupt_9, c_X4_interrupt_10, c_X4_interrupt_11, c_X4_interrupt_12, c_X4_interrupt_13, c_X4_interrupt_14, c_X4_interrupt_15, c_X4_interrupt_16, c_X4_interrupt_17, c_X4_interrupt_18, c_X4_interrupt_19, c_X4_interrupt_20, c_X4_interrupt_21, c_X4_interrupt_22, c_X4_interrupt_23, c_X4_interrupt_24, c_X4_interrupt_25, c_X4_interrupt_26, c_X4_interrupt_27, c_X4_interrupt_28, c_X4_interrupt_29, c_X4_interrupt_30, c_X4_interrupt_31, c_X4_interrupt_32, o_aload, o_astore, o_bin, o_call, o_callv, o_dup2, o_get, o_getr, o_iald, o_iast, o_ic, o_if, o_ifnull, o_iload, o_zret, z_cv0, z_cl0, z_cv1, z_cl1, z_cv2, z_cl2, z_cv3, z_cl3, z_cv4, z_cl4, z_cv5, z_cl5, z_cv6, z_cl6, z_cv7, z_cl7, z_cv8, z_cl8, z_cv9, z_cl9, z_cv10, z_cl10, z_cv11, z_cl11, z_cv12, z_cl12, z_cv13, z_cl13, z_len, z_elt, z_isI, z_isJ, Nat.reduceEqDiff, Nat.reduceLeDiff, Nat.reduceLT, Nat.reduceSub, Nat.reduceMul, not_false_eq_true, not_true_eq_false, true_and, and_true, true_or, or_true, false_or, or_false, true_implies, false_implies, implies_true, forall_const, and_self, ne_eq, Classical.not_not, z_up1, z_up2, z_cp1, z_cp2, z_upL1, z_upL2, if_true, if_false, and_false, false_and, e1, a2]) | (refine s_readerAt ?_) | (with_reducible refine And.intro ?_ ?_) | (with_reducible intro _) | (with_reducible refine z_go (i := 3) (cut := [3, 14, 16, 31]) 35 ?_) | (with_reducible refine z_go (i := 14) (cut := [3, 14, 16, 31]) 35 ?_) | (with_reducible refine z_go (i := 16) (cut := [3, 14, 16, 31]) 35 ?_) | (with_reducible refine z_go (i := 31) (cut := [3, 14, 16, 31]) 35 ?_))
      all_goals (first | (with_reducible exact q) | ((try simp only [ge_iff_le, gt_iff_lt, ← Int32.not_lt, Classical.not_not] at *); (first | (with_reducible rfl) | rfl | (with_reducible exact z_vi_24 (by assumption) (by assumption)) | (with_reducible exact z_vi_4 (by assumption) (by assumption)) | (with_reducible exact z_vi_512 (by assumption) (by assumption)) | (with_reducible exact z_vi_14 (by assumption) (by assumption)) | (with_reducible exact z_vi_8 (by assumption) (by assumption)) | (with_reducible exact z_vinN (by assumption) (by assumption) (by decide)) | (with_reducible exact z_vin1 (by assumption) (by assumption) (by decide)) | ((try simp only [ge_iff_le, gt_iff_lt, ← Int32.not_lt, Classical.not_not] at q); (try simp only [*, if_true, if_false, ite_self, true_or, or_true, false_or, or_false, true_and, and_true, false_and, and_false, not_true_eq_false, not_false_eq_true, cond_true, cond_false, decide_true, decide_false, Bool.true_and, Bool.and_true, Bool.false_and, Bool.and_false, Bool.true_or, Bool.or_true, Bool.false_or, Bool.or_false, Bool.not_true, Bool.not_false, ne_eq, Nat.reduceEqDiff] at q); with_reducible exact q))) | (simp_all; done))
    · have q := q1 a1 a2
      have hc := hc a1 a2
      have e2 : m_rest (m_releaseAll M w x) w x.toNatClampNeg = m_intr1 M w x.toNatClampNeg x := rfl
      have e3 : z_up (m_intr1 M w x.toNatClampNeg x) 20 w 0 6 ((m_intr1 M w x.toNatClampNeg x).1 20 w 0 6 + 1) = m_intr2 M w x.toNatClampNeg x := rfl
      unfold m_intr at q
      refine e_X4_interrupt rfl ?_
      refine z_wp_run (cut := [3, 14, 16, 31]) 35 _ _ _ _ ?_
      repeat' (first | (simp only [z_wp, Bool.false_eq_true, ↓reduceIte, z_e10, z_e01, eq_self, Int32.reduceLT, Int32.reduceLE, Int32.reduceGT, Int32.reduceGE, z_in, cond_true, cond_false, Nat.reduceAdd, Nat.reduceBEq, z_nth, z_set, z_clr, z_st1, z_st2, z_isL, z_opt, z_pop, z_cats, z_cat, c_X4_interrupt_0, c_X4_interrupt_1, c_X4_interrupt_2, c_X4_interrupt_3, c_X4_interrupt_4, c_X4_interrupt_5, c_X4_interrupt_6, c_X4_interrupt_7, c_X4_interrupt_8, c_X4_interrupt_9, c_X4_interrupt_10, c_X4_interrupt_11, c_X4_interrupt_12, c_X4_interrupt_13, c_X4_interrupt_14, c_X4_interrupt_15, c_X4_interrupt_16, c_X4_interrupt_17, c_X4_interrupt_18, c_X4_interrupt_19, c_X4_interrupt_20, c_X4_interrupt_21, c_X4_interrupt_22, c_X4_interrupt_23, c_X4_interrupt_24, c_X4_interrupt_25, c_X4_interrupt_26, c_X4_interrupt_27, c_X4_interrupt_28, c_X4_interrupt_29, c_X4_interrupt_30, c_X4_interrupt_31, c_X4_interrupt_32, o_aload, o_astore, o_bin, o_call, o_callv, o_dup2, o_get, o_getr, o_iald, o_iast, o_ic, o_if, o_ifnull, o_iload, o_zret, z_cv0, z_cl0, z_cv1, z_cl1, z_cv2, z_cl2, z_cv3, z_cl3, z_cv4, z_cl4, z_cv5, z_cl5, z_cv6, z_cl6, z_cv7, z_cl7, z_cv8, z_cl8, z_cv9, z_cl9, z_cv10, z_cl10, z_cv11, z_cl11, z_cv12, z_cl12, z_cv13, z_cl13, z_len, z_elt, z_isI, z_isJ, Nat.reduceEqDiff, Nat.reduceLeDiff, Nat.reduceLT, Nat.reduceSub, Nat.reduceMul, not_false_eq_true, not_true_eq_false, true_and, and_true, true_or, or_true, false_or, or_false, true_implies, false_implies, implies_true, forall_const, and_self, ne_eq, Classical.not_not, z_up1, z_up2, z_cp1, z_cp2, z_upL1, z_upL2, if_true, if_false, and_false, false_and, e1, a2, e2, e3]) | (refine s_readerAt ?_) | (refine s_releaseAll ?_) | (refine s_rest ?_) | (refine (s_write hc) ?_) | (with_reducible refine And.intro ?_ ?_) | (with_reducible intro _) | (with_reducible refine z_go (i := 3) (cut := [3, 14, 16, 31]) 35 ?_) | (with_reducible refine z_go (i := 14) (cut := [3, 14, 16, 31]) 35 ?_) | (with_reducible refine z_go (i := 16) (cut := [3, 14, 16, 31]) 35 ?_) | (with_reducible refine z_go (i := 31) (cut := [3, 14, 16, 31]) 35 ?_))
      all_goals (first | (with_reducible exact q) | ((try simp only [ge_iff_le, gt_iff_lt, ← Int32.not_lt, Classical.not_not] at *); (first | (with_reducible rfl) | rfl | (with_reducible exact z_vi_24 (by assumption) (by assumption)) | (with_reducible exact z_vi_4 (by assumption) (by assumption)) | (with_reducible exact z_vi_512 (by assumption) (by assumption)) | (with_reducible exact z_vi_14 (by assumption) (by assumption)) | (with_reducible exact z_vi_8 (by assumption) (by assumption)) | (with_reducible exact z_vinN (by assumption) (by assumption) (by decide)) | (with_reducible exact z_vin1 (by assumption) (by assumption) (by decide)) | ((try simp only [ge_iff_le, gt_iff_lt, ← Int32.not_lt, Classical.not_not] at q); (try simp only [*, if_true, if_false, ite_self, true_or, or_true, false_or, or_false, true_and, and_true, false_and, and_false, not_true_eq_false, not_false_eq_true, cond_true, cond_false, decide_true, decide_false, Bool.true_and, Bool.and_true, Bool.false_and, Bool.and_false, Bool.true_or, Bool.or_true, Bool.false_or, Bool.or_false, Bool.not_true, Bool.not_false, ne_eq, Nat.reduceEqDiff] at q); with_reducible exact q))) | (simp_all; done))
