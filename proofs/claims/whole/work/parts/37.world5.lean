/-! World: readers turned, ticks, tags told -/
theorem e_X8_turnReader {h : Nat} {a0 : zId} {a1 : Int32} {a2 : Int32} {M : zMem} {K : zK} (ha0 : (a0.1 == 99) = false) (q : z_run (z_nop k_X8_turnReader) (z_call h) K 0 [.inr (.inr a0), .inl a1, .inl a2, z_un, z_un] [] M) : z_call (h + 1) 98 [.inr (.inr a0), .inl a1, .inl a2] M K := ⟨by simp only [List.all_cons, List.all_nil, z_isU, ha0]; rfl, q⟩
theorem c_X8_turnReader_0 : z_nop k_X8_turnReader 0 = o_aload 0 := rfl
theorem c_X8_turnReader_1 : z_nop k_X8_turnReader 1 = o_iload 1 := rfl
theorem c_X8_turnReader_2 : z_nop k_X8_turnReader 2 = o_callv 9 92 2 := rfl
theorem c_X8_turnReader_3 : z_nop k_X8_turnReader 3 = o_astore 3 := rfl
theorem c_X8_turnReader_4 : z_nop k_X8_turnReader 4 = o_aload 3 := rfl
theorem c_X8_turnReader_5 : z_nop k_X8_turnReader 5 = o_ifnull 10 := rfl
theorem c_X8_turnReader_6 : z_nop k_X8_turnReader 6 = o_aload 3 := rfl
theorem c_X8_turnReader_7 : z_nop k_X8_turnReader 7 = o_get 4 0 := rfl
theorem c_X8_turnReader_8 : z_nop k_X8_turnReader 8 = o_iload 2 := rfl
theorem c_X8_turnReader_9 : z_nop k_X8_turnReader 9 = o_icmp (fun x y => x ≠ y) 12 := rfl
theorem c_X8_turnReader_10 : z_nop k_X8_turnReader 10 = o_ic 0 := rfl
theorem c_X8_turnReader_11 : z_nop k_X8_turnReader 11 = o_zret := rfl
theorem c_X8_turnReader_12 : z_nop k_X8_turnReader 12 = o_aload 0 := rfl
theorem c_X8_turnReader_13 : z_nop k_X8_turnReader 13 = o_iload 1 := rfl
theorem c_X8_turnReader_14 : z_nop k_X8_turnReader 14 = o_call 41 2 := rfl
theorem c_X8_turnReader_15 : z_nop k_X8_turnReader 15 = o_pop := rfl
theorem c_X8_turnReader_16 : z_nop k_X8_turnReader 16 = o_aload 3 := rfl
theorem c_X8_turnReader_17 : z_nop k_X8_turnReader 17 = o_iload 2 := rfl
theorem c_X8_turnReader_18 : z_nop k_X8_turnReader 18 = o_putz 4 0 := rfl
theorem c_X8_turnReader_19 : z_nop k_X8_turnReader 19 = o_ic 0 := rfl
theorem c_X8_turnReader_20 : z_nop k_X8_turnReader 20 = o_istore 4 := rfl
theorem c_X8_turnReader_21 : z_nop k_X8_turnReader 21 = o_iload 4 := rfl
theorem c_X8_turnReader_22 : z_nop k_X8_turnReader 22 = o_ic 24 := rfl
theorem c_X8_turnReader_23 : z_nop k_X8_turnReader 23 = o_icmp (fun x y => x ≥ y) 38 := rfl
theorem c_X8_turnReader_24 : z_nop k_X8_turnReader 24 = o_aload 0 := rfl
theorem c_X8_turnReader_25 : z_nop k_X8_turnReader 25 = o_getr 9 (fun w i => (30, w, 0)) := rfl
theorem c_X8_turnReader_26 : z_nop k_X8_turnReader 26 = o_iload 4 := rfl
theorem c_X8_turnReader_27 : z_nop k_X8_turnReader 27 = o_aald := rfl
theorem c_X8_turnReader_28 : z_nop k_X8_turnReader 28 = o_get 7 0 := rfl
theorem c_X8_turnReader_29 : z_nop k_X8_turnReader 29 = o_if (fun x => x = 0) 36 := rfl
theorem c_X8_turnReader_30 : z_nop k_X8_turnReader 30 = o_aload 0 := rfl
theorem c_X8_turnReader_31 : z_nop k_X8_turnReader 31 = o_aload 0 := rfl
theorem c_X8_turnReader_32 : z_nop k_X8_turnReader 32 = o_getr 9 (fun w i => (30, w, 0)) := rfl
theorem c_X8_turnReader_33 : z_nop k_X8_turnReader 33 = o_iload 4 := rfl
theorem c_X8_turnReader_34 : z_nop k_X8_turnReader 34 = o_aald := rfl
theorem c_X8_turnReader_35 : z_nop k_X8_turnReader 35 = o_callv 9 99 2 := rfl
theorem c_X8_turnReader_36 : z_nop k_X8_turnReader 36 = o_iinc 4 1 := rfl
theorem c_X8_turnReader_37 : z_nop k_X8_turnReader 37 = o_goto 21 := rfl
theorem c_X8_turnReader_38 : z_nop k_X8_turnReader 38 = o_ic 1 := rfl
theorem c_X8_turnReader_39 : z_nop k_X8_turnReader 39 = o_zret := rfl

def f_settle (w : Nat) (i : Nat) (M : zMem) : zMem := if M.1 7 w i 0 = 0 then M else m_settle M w i
def m_turn (M : zMem) (w r : Nat) (v : Int32) : zMem := z_it (f_settle w) 24 (z_up M 4 w r 0 v)
set_option maxRecDepth 100000 in
theorem s_turn0 {h w : Nat} {M : zMem} {x v : Int32} {K : zK} (hb : (x < 0 ∨ x ≥ 4) ∨ M.1 4 w x.toNatClampNeg 0 = v) (q : K (some (.inl 0)) M) : z_call (h + 5) 98 [.inr (.inr (9, w, 0)), .inl x, .inl v] M K := by
  by_cases hx : x < 0 ∨ x ≥ 4
  · have e1 := z_rd0 (w := w) hx
    refine e_X8_turnReader rfl ?_
    refine z_wp_run (cut := [3, 15, 36]) 42 _ _ _ _ ?_
    repeat' (first | (simp only [z_wp, Bool.false_eq_true, ↓reduceIte, z_e10, z_e01, eq_self, Int32.reduceLT, Int32.reduceLE, Int32.reduceGT, Int32.reduceGE, z_in, cond_true, cond_false, Nat.reduceAdd, Nat.reduceBEq, z_nth, z_set, z_clr, z_st1, z_st2, z_isL, z_opt, z_pop, z_cats, z_cat, c_X8_turnReader_0, c_X8_turnReader_1, c_X8_turnReader_2, c_X8_turnReader_3, c_X8_turnReader_4, c_X8_turnReader_5, c_X8_turnReader_6, c_X8_turnReader_7, c_X8_turnReader_8, c_X8_turnReader_9, c_X8_turnReader_10, c_X8_turnReader_11, c_X8_turnReader_12, c_X8_turnReader_13, c_X8_turnReader_14, c_X8_turnReader_15, c_X8_turnReader_16, c_X8_turnReader_17, c_X8_turnReader_18, c_X8_turnReader_19, c_X8_turnReader_20, c_X8_turnReader_21, c_X8_turnReader_22, c_X8_turnReader_23, c_X8_turnReader_24, c_X8_turnReader_25, c_X8_turnReader_26, c_X8_turnReader_27, c_X8_turnReader_28, c_X8_turnReader_29, c_X8_turnReader_30, c_X8_turnReader_31, c_X8_turnReader_32, c_X8_turnReader_33, c_X8_turnReader_34, c_X8_turnReader_35, c_X8_turnReader_36, c_X8_turnReader_37, c_X8_turnReader_38, c_X8_turnReader_39, o_aald, o_aload, o_astore, o_call, o_callv, o_get, o_getr, o_goto, o_ic, o_icmp, o_if, o_ifnull, o_iinc, o_iload, o_istore, o_pop, o_putz, o_zret, z_cv0, z_cl0, z_cv1, z_cl1, z_cv2, z_cl2, z_cv3, z_cl3, z_cv4, z_cl4, z_cv5, z_cl5, z_cv6, z_cl6, z_cv7, z_cl7, z_cv8, z_cl8, z_cv9, z_cl9, z_cv10, z_cl10, z_cv11, z_cl11, z_cv12, z_cl12, z_cv13, z_cl13, z_len, z_elt, z_isI, z_isJ, Nat.reduceEqDiff, Nat.reduceLeDiff, Nat.reduceLT, Nat.reduceSub, Nat.reduceMul, not_false_eq_true, not_true_eq_false, true_and, and_true, true_or, or_true, false_or, or_false, true_implies, false_implies, implies_true, forall_const, and_self, ne_eq, Classical.not_not, z_up1, z_up2, z_cp1, z_cp2, z_upL1, z_upL2, if_true, if_false, and_false, false_and, e1]) | (refine s_readerAt ?_) | (with_reducible refine And.intro ?_ ?_) | (with_reducible intro _) | (with_reducible refine z_go (i := 3) (cut := [3, 15, 36]) 42 ?_) | (with_reducible refine z_go (i := 15) (cut := [3, 15, 36]) 42 ?_) | (with_reducible refine z_go (i := 36) (cut := [3, 15, 36]) 42 ?_))
    all_goals (first | (with_reducible exact q) | ((try simp only [ge_iff_le, gt_iff_lt, ← Int32.not_lt, Classical.not_not] at *); (first | (with_reducible rfl) | rfl | (with_reducible exact z_vi_24 (by assumption) (by assumption)) | (with_reducible exact z_vi_4 (by assumption) (by assumption)) | (with_reducible exact z_vi_512 (by assumption) (by assumption)) | (with_reducible exact z_vi_14 (by assumption) (by assumption)) | (with_reducible exact z_vi_8 (by assumption) (by assumption)) | (with_reducible exact z_vinN (by assumption) (by assumption) (by decide)) | (with_reducible exact z_vin1 (by assumption) (by assumption) (by decide)) | ((try simp only [ge_iff_le, gt_iff_lt, ← Int32.not_lt, Classical.not_not] at q); (try simp only [*, if_true, if_false, ite_self, true_or, or_true, false_or, or_false, true_and, and_true, false_and, and_false, not_true_eq_false, not_false_eq_true, cond_true, cond_false, decide_true, decide_false, Bool.true_and, Bool.and_true, Bool.false_and, Bool.and_false, Bool.true_or, Bool.or_true, Bool.false_or, Bool.or_false, Bool.not_true, Bool.not_false, ne_eq, Nat.reduceEqDiff] at q); with_reducible exact q))) | (simp_all; done))
  · have e1 := z_rd1 (w := w) hx
    have hb2 := hb.resolve_left hx
    refine e_X8_turnReader rfl ?_
    refine z_wp_run (cut := [3, 12]) 60 _ _ _ _ ?_
    simp only [z_wp, Bool.false_eq_true, ↓reduceIte, z_e10, z_e01, eq_self, Int32.reduceLT, Int32.reduceLE, Int32.reduceGT, Int32.reduceGE, z_in, cond_true, cond_false, Nat.reduceAdd, Nat.reduceBEq, z_nth, z_set, z_clr, z_st1, z_st2, z_isL, z_opt, z_pop, z_cats, z_cat, c_X8_turnReader_0, c_X8_turnReader_1, c_X8_turnReader_2, c_X8_turnReader_3, c_X8_turnReader_4, c_X8_turnReader_5, c_X8_turnReader_6, c_X8_turnReader_7, c_X8_turnReader_8, c_X8_turnReader_9, c_X8_turnReader_10, c_X8_turnReader_11, c_X8_turnReader_12, c_X8_turnReader_13, c_X8_turnReader_14, c_X8_turnReader_15, c_X8_turnReader_16, c_X8_turnReader_17, c_X8_turnReader_18, c_X8_turnReader_19, c_X8_turnReader_20, c_X8_turnReader_21, c_X8_turnReader_22, c_X8_turnReader_23, c_X8_turnReader_24, c_X8_turnReader_25, c_X8_turnReader_26, c_X8_turnReader_27, c_X8_turnReader_28, c_X8_turnReader_29, c_X8_turnReader_30, c_X8_turnReader_31, c_X8_turnReader_32, c_X8_turnReader_33, c_X8_turnReader_34, c_X8_turnReader_35, c_X8_turnReader_36, c_X8_turnReader_37, c_X8_turnReader_38, c_X8_turnReader_39, o_aald, o_aload, o_astore, o_call, o_callv, o_get, o_getr, o_goto, o_ic, o_icmp, o_if, o_ifnull, o_iinc, o_iload, o_istore, o_pop, o_putz, o_zret, z_cv0, z_cl0, z_cv1, z_cl1, z_cv2, z_cl2, z_cv3, z_cl3, z_cv4, z_cl4, z_cv5, z_cl5, z_cv6, z_cl6, z_cv7, z_cl7, z_cv8, z_cl8, z_cv9, z_cl9, z_cv10, z_cl10, z_cv11, z_cl11, z_cv12, z_cl12, z_cv13, z_cl13, z_len, z_elt, z_isI, z_isJ, Nat.reduceEqDiff, Nat.reduceLeDiff, Nat.reduceLT, Nat.reduceSub, Nat.reduceMul, not_false_eq_true, not_true_eq_false, true_and, and_true, true_or, or_true, false_or, or_false, true_implies, false_implies, implies_true, forall_const, and_self, ne_eq, Classical.not_not, z_up1, z_up2, z_cp1, z_cp2, z_upL1, z_upL2, if_true, if_false, and_false, false_and]
    refine s_readerAt ?_
    refine z_go (cut := [12]) 60 ?_
    simp only [z_wp, Bool.false_eq_true, ↓reduceIte, z_e10, z_e01, eq_self, Int32.reduceLT, Int32.reduceLE, Int32.reduceGT, Int32.reduceGE, z_in, cond_true, cond_false, Nat.reduceAdd, Nat.reduceBEq, z_nth, z_set, z_clr, z_st1, z_st2, z_isL, z_opt, z_pop, z_cats, z_cat, c_X8_turnReader_0, c_X8_turnReader_1, c_X8_turnReader_2, c_X8_turnReader_3, c_X8_turnReader_4, c_X8_turnReader_5, c_X8_turnReader_6, c_X8_turnReader_7, c_X8_turnReader_8, c_X8_turnReader_9, c_X8_turnReader_10, c_X8_turnReader_11, c_X8_turnReader_12, c_X8_turnReader_13, c_X8_turnReader_14, c_X8_turnReader_15, c_X8_turnReader_16, c_X8_turnReader_17, c_X8_turnReader_18, c_X8_turnReader_19, c_X8_turnReader_20, c_X8_turnReader_21, c_X8_turnReader_22, c_X8_turnReader_23, c_X8_turnReader_24, c_X8_turnReader_25, c_X8_turnReader_26, c_X8_turnReader_27, c_X8_turnReader_28, c_X8_turnReader_29, c_X8_turnReader_30, c_X8_turnReader_31, c_X8_turnReader_32, c_X8_turnReader_33, c_X8_turnReader_34, c_X8_turnReader_35, c_X8_turnReader_36, c_X8_turnReader_37, c_X8_turnReader_38, c_X8_turnReader_39, o_aald, o_aload, o_astore, o_call, o_callv, o_get, o_getr, o_goto, o_ic, o_icmp, o_if, o_ifnull, o_iinc, o_iload, o_istore, o_pop, o_putz, o_zret, z_cv0, z_cl0, z_cv1, z_cl1, z_cv2, z_cl2, z_cv3, z_cl3, z_cv4, z_cl4, z_cv5, z_cl5, z_cv6, z_cl6, z_cv7, z_cl7, z_cv8, z_cl8, z_cv9, z_cl9, z_cv10, z_cl10, z_cv11, z_cl11, z_cv12, z_cl12, z_cv13, z_cl13, z_len, z_elt, z_isI, z_isJ, Nat.reduceEqDiff, Nat.reduceLeDiff, Nat.reduceLT, Nat.reduceSub, Nat.reduceMul, not_false_eq_true, not_true_eq_false, true_and, and_true, true_or, or_true, false_or, or_false, true_implies, false_implies, implies_true, forall_const, and_self, ne_eq, Classical.not_not, z_up1, z_up2, z_cp1, z_cp2, z_upL1, z_upL2, if_true, if_false, and_false, false_and, e1, hb2]
    exact q
