/-! Stock: what is heard, behind a slot, behind a query, begin, ask; World: pass, turn -/
def z_n1 (i n : Int32) : Int32 := n + z_ush i 1
def z_n2 (i n : Int32) : Int32 := if i ≤ 4 then z_n1 i n else z_n1 (z_ush i 2) (n + 2)
def z_n4 (i n : Int32) : Int32 := if i ≤ 16 then z_n2 i n else z_n2 (z_ush i 4) (n + 4)
def z_n8 (i n : Int32) : Int32 := if i ≤ 256 then z_n4 i n else z_n4 (z_ush i 8) (n + 8)
def z_n16 (i n : Int32) : Int32 := if i ≤ 65536 then z_n8 i n else z_n8 (z_ush i 16) (n + 16)
def r_ntz (x : Int32) : Int32 := if (x ^^^ -1) &&& (x - 1) > 0 then z_n16 ((x ^^^ -1) &&& (x - 1)) 1 else (x ^^^ -1) &&& (x - 1) &&& 32
set_option maxRecDepth 100000 in
theorem s_ntz {h : Nat} {M : zMem} {x : Int32} {K : zK} (q : K (some (.inl (r_ntz x))) M) : z_call (h + 1) 273 [.inl x] M K := by
  have p48 : ∀ i n, K (some (.inl (z_n1 i n))) M → z_run (z_nop k_J6_numberOfTrailingZeros_0f7a4) (z_call h) K 48 [.inl i, .inl n] [] M := by
    intro i n q
    refine z_go (cut := [24, 32, 40, 48]) 56 ?_
    simp only [z_wp, Bool.false_eq_true, ↓reduceIte, z_e10, z_e01, eq_self, Int32.reduceLT, Int32.reduceLE, Int32.reduceGT, Int32.reduceGE, z_in, cond_true, cond_false, Nat.reduceAdd, Nat.reduceBEq, z_nth, z_set, z_clr, z_st1, z_st2, z_isL, z_opt, z_pop, z_cats, z_cat, c_J6_numberOfTrailingZeros_0f7a4_0, c_J6_numberOfTrailingZeros_0f7a4_1, c_J6_numberOfTrailingZeros_0f7a4_2, c_J6_numberOfTrailingZeros_0f7a4_3, c_J6_numberOfTrailingZeros_0f7a4_4, c_J6_numberOfTrailingZeros_0f7a4_5, c_J6_numberOfTrailingZeros_0f7a4_6, c_J6_numberOfTrailingZeros_0f7a4_7, c_J6_numberOfTrailingZeros_0f7a4_8, c_J6_numberOfTrailingZeros_0f7a4_9, c_J6_numberOfTrailingZeros_0f7a4_10, c_J6_numberOfTrailingZeros_0f7a4_11, c_J6_numberOfTrailingZeros_0f7a4_12, c_J6_numberOfTrailingZeros_0f7a4_13, c_J6_numberOfTrailingZeros_0f7a4_14, c_J6_numberOfTrailingZeros_0f7a4_15, c_J6_numberOfTrailingZeros_0f7a4_16, c_J6_numberOfTrailingZeros_0f7a4_17, c_J6_numberOfTrailingZeros_0f7a4_18, c_J6_numberOfTrailingZeros_0f7a4_19, c_J6_numberOfTrailingZeros_0f7a4_20, c_J6_numberOfTrailingZeros_0f7a4_21, c_J6_numberOfTrailingZeros_0f7a4_22, c_J6_numberOfTrailingZeros_0f7a4_23, c_J6_numberOfTrailingZeros_0f7a4_24, c_J6_numberOfTrailingZeros_0f7a4_25, c_J6_numberOfTrailingZeros_0f7a4_26, c_J6_numberOfTrailingZeros_0f7a4_27, c_J6_numberOfTrailingZeros_0f7a4_28, c_J6_numberOfTrailingZeros_0f7a4_29, c_J6_numberOfTrailingZeros_0f7a4_30, c_J6_numberOfTrailingZeros_0f7a4_31, c_J6_numberOfTrailingZeros_0f7a4_32, c_J6_numberOfTrailingZeros_0f7a4_33, c_J6_numberOfTrailingZeros_0f7a4_34, c_J6_numberOfTrailingZeros_0f7a4_35, c_J6_numberOfTrailingZeros_0f7a4_36, c_J6_numberOfTrailingZeros_0f7a4_37, c_J6_numberOfTrailingZeros_0f7a4_38, c_J6_numberOfTrailingZeros_0f7a4_39, c_J6_numberOfTrailingZeros_0f7a4_40, c_J6_numberOfTrailingZeros_0f7a4_41, c_J6_numberOfTrailingZeros_0f7a4_42, c_J6_numberOfTrailingZeros_0f7a4_43, c_J6_numberOfTrailingZeros_0f7a4_44, c_J6_numberOfTrailingZeros_0f7a4_45, c_J6_numberOfTrailingZeros_0f7a4_46, c_J6_numberOfTrailingZeros_0f7a4_47, c_J6_numberOfTrailingZeros_0f7a4_48, c_J6_numberOfTrailingZeros_0f7a4_49, c_J6_numberOfTrailingZeros_0f7a4_50, c_J6_numberOfTrailingZeros_0f7a4_51, c_J6_numberOfTrailingZeros_0f7a4_52, c_J6_numberOfTrailingZeros_0f7a4_53, o_bin, o_ic, o_icmp, o_if, o_iinc, o_iload, o_iret, o_istore, z_cv0, z_cl0, z_cv1, z_cl1, z_cv2, z_cl2, z_cv3, z_cl3, z_cv4, z_cl4, z_cv5, z_cl5, z_cv6, z_cl6, z_cv7, z_cl7, z_cv8, z_cl8, z_cv9, z_cl9, z_cv10, z_cl10, z_cv11, z_cl11, z_cv12, z_cl12, z_cv13, z_cl13, z_len, z_elt, z_isI, z_isJ, Nat.reduceEqDiff, Nat.reduceLeDiff, Nat.reduceLT, Nat.reduceSub, Nat.reduceMul, not_false_eq_true, not_true_eq_false, true_and, and_true, true_or, or_true, false_or, or_false, true_implies, false_implies, implies_true, forall_const, and_self, ne_eq, Classical.not_not, z_up1, z_up2, z_cp1, z_cp2, z_upL1, z_upL2, if_true, if_false, and_false, false_and]
    exact q
  have p40 : ∀ i n, K (some (.inl (z_n2 i n))) M → z_run (z_nop k_J6_numberOfTrailingZeros_0f7a4) (z_call h) K 40 [.inl i, .inl n] [] M := by
    intro i n q
    unfold z_n2 at q
    refine z_go (cut := [24, 32, 40, 48]) 56 ?_
    simp only [z_wp, Bool.false_eq_true, ↓reduceIte, z_e10, z_e01, eq_self, Int32.reduceLT, Int32.reduceLE, Int32.reduceGT, Int32.reduceGE, z_in, cond_true, cond_false, Nat.reduceAdd, Nat.reduceBEq, z_nth, z_set, z_clr, z_st1, z_st2, z_isL, z_opt, z_pop, z_cats, z_cat, c_J6_numberOfTrailingZeros_0f7a4_0, c_J6_numberOfTrailingZeros_0f7a4_1, c_J6_numberOfTrailingZeros_0f7a4_2, c_J6_numberOfTrailingZeros_0f7a4_3, c_J6_numberOfTrailingZeros_0f7a4_4, c_J6_numberOfTrailingZeros_0f7a4_5, c_J6_numberOfTrailingZeros_0f7a4_6, c_J6_numberOfTrailingZeros_0f7a4_7, c_J6_numberOfTrailingZeros_0f7a4_8, c_J6_numberOfTrailingZeros_0f7a4_9, c_J6_numberOfTrailingZeros_0f7a4_10, c_J6_numberOfTrailingZeros_0f7a4_11, c_J6_numberOfTrailingZeros_0f7a4_12, c_J6_numberOfTrailingZeros_0f7a4_13, c_J6_numberOfTrailingZeros_0f7a4_14, c_J6_numberOfTrailingZeros_0f7a4_15, c_J6_numberOfTrailingZeros_0f7a4_16, c_J6_numberOfTrailingZeros_0f7a4_17, c_J6_numberOfTrailingZeros_0f7a4_18, c_J6_numberOfTrailingZeros_0f7a4_19, c_J6_numberOfTrailingZeros_0f7a4_20, c_J6_numberOfTrailingZeros_0f7a4_21, c_J6_numberOfTrailingZeros_0f7a4_22, c_J6_numberOfTrailingZeros_0f7a4_23, c_J6_numberOfTrailingZeros_0f7a4_24, c_J6_numberOfTrailingZeros_0f7a4_25, c_J6_numberOfTrailingZeros_0f7a4_26, c_J6_numberOfTrailingZeros_0f7a4_27, c_J6_numberOfTrailingZeros_0f7a4_28, c_J6_numberOfTrailingZeros_0f7a4_29, c_J6_numberOfTrailingZeros_0f7a4_30, c_J6_numberOfTrailingZeros_0f7a4_31, c_J6_numberOfTrailingZeros_0f7a4_32, c_J6_numberOfTrailingZeros_0f7a4_33, c_J6_numberOfTrailingZeros_0f7a4_34, c_J6_numberOfTrailingZeros_0f7a4_35, c_J6_numberOfTrailingZeros_0f7a4_36, c_J6_numberOfTrailingZeros_0f7a4_37, c_J6_numberOfTrailingZeros_0f7a4_38, c_J6_numberOfTrailingZeros_0f7a4_39, c_J6_numberOfTrailingZeros_0f7a4_40, c_J6_numberOfTrailingZeros_0f7a4_41, c_J6_numberOfTrailingZeros_0f7a4_42, c_J6_numberOfTrailingZeros_0f7a4_43, c_J6_numberOfTrailingZeros_0f7a4_44, c_J6_numberOfTrailingZeros_0f7a4_45, c_J6_numberOfTrailingZeros_0f7a4_46, c_J6_numberOfTrailingZeros_0f7a4_47, c_J6_numberOfTrailingZeros_0f7a4_48, c_J6_numberOfTrailingZeros_0f7a4_49, c_J6_numberOfTrailingZeros_0f7a4_50, c_J6_numberOfTrailingZeros_0f7a4_51, c_J6_numberOfTrailingZeros_0f7a4_52, c_J6_numberOfTrailingZeros_0f7a4_53, o_bin, o_ic, o_icmp, o_if, o_iinc, o_iload, o_iret, o_istore, z_cv0, z_cl0, z_cv1, z_cl1, z_cv2, z_cl2, z_cv3, z_cl3, z_cv4, z_cl4, z_cv5, z_cl5, z_cv6, z_cl6, z_cv7, z_cl7, z_cv8, z_cl8, z_cv9, z_cl9, z_cv10, z_cl10, z_cv11, z_cl11, z_cv12, z_cl12, z_cv13, z_cl13, z_len, z_elt, z_isI, z_isJ, Nat.reduceEqDiff, Nat.reduceLeDiff, Nat.reduceLT, Nat.reduceSub, Nat.reduceMul, not_false_eq_true, not_true_eq_false, true_and, and_true, true_or, or_true, false_or, or_false, true_implies, false_implies, implies_true, forall_const, and_self, ne_eq, Classical.not_not, z_up1, z_up2, z_cp1, z_cp2, z_upL1, z_upL2, if_true, if_false, and_false, false_and]
    exact ⟨fun c => p48 _ _ (by rw [if_pos c] at q; exact q), fun c => p48 _ _ (by rw [if_neg c] at q; exact q)⟩
  have p32 : ∀ i n, K (some (.inl (z_n4 i n))) M → z_run (z_nop k_J6_numberOfTrailingZeros_0f7a4) (z_call h) K 32 [.inl i, .inl n] [] M := by
    intro i n q
    unfold z_n4 at q
    refine z_go (cut := [24, 32, 40, 48]) 56 ?_
    simp only [z_wp, Bool.false_eq_true, ↓reduceIte, z_e10, z_e01, eq_self, Int32.reduceLT, Int32.reduceLE, Int32.reduceGT, Int32.reduceGE, z_in, cond_true, cond_false, Nat.reduceAdd, Nat.reduceBEq, z_nth, z_set, z_clr, z_st1, z_st2, z_isL, z_opt, z_pop, z_cats, z_cat, c_J6_numberOfTrailingZeros_0f7a4_0, c_J6_numberOfTrailingZeros_0f7a4_1, c_J6_numberOfTrailingZeros_0f7a4_2, c_J6_numberOfTrailingZeros_0f7a4_3, c_J6_numberOfTrailingZeros_0f7a4_4, c_J6_numberOfTrailingZeros_0f7a4_5, c_J6_numberOfTrailingZeros_0f7a4_6, c_J6_numberOfTrailingZeros_0f7a4_7, c_J6_numberOfTrailingZeros_0f7a4_8, c_J6_numberOfTrailingZeros_0f7a4_9, c_J6_numberOfTrailingZeros_0f7a4_10, c_J6_numberOfTrailingZeros_0f7a4_11, c_J6_numberOfTrailingZeros_0f7a4_12, c_J6_numberOfTrailingZeros_0f7a4_13, c_J6_numberOfTrailingZeros_0f7a4_14, c_J6_numberOfTrailingZeros_0f7a4_15, c_J6_numberOfTrailingZeros_0f7a4_16, c_J6_numberOfTrailingZeros_0f7a4_17, c_J6_numberOfTrailingZeros_0f7a4_18, c_J6_numberOfTrailingZeros_0f7a4_19, c_J6_numberOfTrailingZeros_0f7a4_20, c_J6_numberOfTrailingZeros_0f7a4_21, c_J6_numberOfTrailingZeros_0f7a4_22, c_J6_numberOfTrailingZeros_0f7a4_23, c_J6_numberOfTrailingZeros_0f7a4_24, c_J6_numberOfTrailingZeros_0f7a4_25, c_J6_numberOfTrailingZeros_0f7a4_26, c_J6_numberOfTrailingZeros_0f7a4_27, c_J6_numberOfTrailingZeros_0f7a4_28, c_J6_numberOfTrailingZeros_0f7a4_29, c_J6_numberOfTrailingZeros_0f7a4_30, c_J6_numberOfTrailingZeros_0f7a4_31, c_J6_numberOfTrailingZeros_0f7a4_32, c_J6_numberOfTrailingZeros_0f7a4_33, c_J6_numberOfTrailingZeros_0f7a4_34, c_J6_numberOfTrailingZeros_0f7a4_35, c_J6_numberOfTrailingZeros_0f7a4_36, c_J6_numberOfTrailingZeros_0f7a4_37, c_J6_numberOfTrailingZeros_0f7a4_38, c_J6_numberOfTrailingZeros_0f7a4_39, c_J6_numberOfTrailingZeros_0f7a4_40, c_J6_numberOfTrailingZeros_0f7a4_41, c_J6_numberOfTrailingZeros_0f7a4_42, c_J6_numberOfTrailingZeros_0f7a4_43, c_J6_numberOfTrailingZeros_0f7a4_44, c_J6_numberOfTrailingZeros_0f7a4_45, c_J6_numberOfTrailingZeros_0f7a4_46, c_J6_numberOfTrailingZeros_0f7a4_47, c_J6_numberOfTrailingZeros_0f7a4_48, c_J6_numberOfTrailingZeros_0f7a4_49, c_J6_numberOfTrailingZeros_0f7a4_50, c_J6_numberOfTrailingZeros_0f7a4_51, c_J6_numberOfTrailingZeros_0f7a4_52, c_J6_numberOfTrailingZeros_0f7a4_53, o_bin, o_ic, o_icmp, o_if, o_iinc, o_iload, o_iret, o_istore, z_cv0, z_cl0, z_cv1, z_cl1, z_cv2, z_cl2, z_cv3, z_cl3, z_cv4, z_cl4, z_cv5, z_cl5, z_cv6, z_cl6, z_cv7, z_cl7, z_cv8, z_cl8, z_cv9, z_cl9, z_cv10, z_cl10, z_cv11, z_cl11, z_cv12, z_cl12, z_cv13, z_cl13, z_len, z_elt, z_isI, z_isJ, Nat.reduceEqDiff, Nat.reduceLeDiff, Nat.reduceLT, Nat.reduceSub, Nat.reduceMul, not_false_eq_true, not_true_eq_false, true_and, and_true, true_or, or_true, false_or, or_false, true_implies, false_implies, implies_true, forall_const, and_self, ne_eq, Classical.not_not, z_up1, z_up2, z_cp1, z_cp2, z_upL1, z_upL2, if_true, if_false, and_false, false_and]
    exact ⟨fun c => p40 _ _ (by rw [if_pos c] at q; exact q), fun c => p40 _ _ (by rw [if_neg c] at q; exact q)⟩
  have p24 : ∀ i n, K (some (.inl (z_n8 i n))) M → z_run (z_nop k_J6_numberOfTrailingZeros_0f7a4) (z_call h) K 24 [.inl i, .inl n] [] M := by
    intro i n q
    unfold z_n8 at q
    refine z_go (cut := [24, 32, 40, 48]) 56 ?_
    simp only [z_wp, Bool.false_eq_true, ↓reduceIte, z_e10, z_e01, eq_self, Int32.reduceLT, Int32.reduceLE, Int32.reduceGT, Int32.reduceGE, z_in, cond_true, cond_false, Nat.reduceAdd, Nat.reduceBEq, z_nth, z_set, z_clr, z_st1, z_st2, z_isL, z_opt, z_pop, z_cats, z_cat, c_J6_numberOfTrailingZeros_0f7a4_0, c_J6_numberOfTrailingZeros_0f7a4_1, c_J6_numberOfTrailingZeros_0f7a4_2, c_J6_numberOfTrailingZeros_0f7a4_3, c_J6_numberOfTrailingZeros_0f7a4_4, c_J6_numberOfTrailingZeros_0f7a4_5, c_J6_numberOfTrailingZeros_0f7a4_6, c_J6_numberOfTrailingZeros_0f7a4_7, c_J6_numberOfTrailingZeros_0f7a4_8, c_J6_numberOfTrailingZeros_0f7a4_9, c_J6_numberOfTrailingZeros_0f7a4_10, c_J6_numberOfTrailingZeros_0f7a4_11, c_J6_numberOfTrailingZeros_0f7a4_12, c_J6_numberOfTrailingZeros_0f7a4_13, c_J6_numberOfTrailingZeros_0f7a4_14, c_J6_numberOfTrailingZeros_0f7a4_15, c_J6_numberOfTrailingZeros_0f7a4_16, c_J6_numberOfTrailingZeros_0f7a4_17, c_J6_numberOfTrailingZeros_0f7a4_18, c_J6_numberOfTrailingZeros_0f7a4_19, c_J6_numberOfTrailingZeros_0f7a4_20, c_J6_numberOfTrailingZeros_0f7a4_21, c_J6_numberOfTrailingZeros_0f7a4_22, c_J6_numberOfTrailingZeros_0f7a4_23, c_J6_numberOfTrailingZeros_0f7a4_24, c_J6_numberOfTrailingZeros_0f7a4_25, c_J6_numberOfTrailingZeros_0f7a4_26, c_J6_numberOfTrailingZeros_0f7a4_27, c_J6_numberOfTrailingZeros_0f7a4_28, c_J6_numberOfTrailingZeros_0f7a4_29, c_J6_numberOfTrailingZeros_0f7a4_30, c_J6_numberOfTrailingZeros_0f7a4_31, c_J6_numberOfTrailingZeros_0f7a4_32, c_J6_numberOfTrailingZeros_0f7a4_33, c_J6_numberOfTrailingZeros_0f7a4_34, c_J6_numberOfTrailingZeros_0f7a4_35, c_J6_numberOfTrailingZeros_0f7a4_36, c_J6_numberOfTrailingZeros_0f7a4_37, c_J6_numberOfTrailingZeros_0f7a4_38, c_J6_numberOfTrailingZeros_0f7a4_39, c_J6_numberOfTrailingZeros_0f7a4_40, c_J6_numberOfTrailingZeros_0f7a4_41, c_J6_numberOfTrailingZeros_0f7a4_42, c_J6_numberOfTrailingZeros_0f7a4_43, c_J6_numberOfTrailingZeros_0f7a4_44, c_J6_numberOfTrailingZeros_0f7a4_45, c_J6_numberOfTrailingZeros_0f7a4_46, c_J6_numberOfTrailingZeros_0f7a4_47, c_J6_numberOfTrailingZeros_0f7a4_48, c_J6_numberOfTrailingZeros_0f7a4_49, c_J6_numberOfTrailingZeros_0f7a4_50, c_J6_numberOfTrailingZeros_0f7a4_51, c_J6_numberOfTrailingZeros_0f7a4_52, c_J6_numberOfTrailingZeros_0f7a4_53, o_bin, o_ic, o_icmp, o_if, o_iinc, o_iload, o_iret, o_istore, z_cv0, z_cl0, z_cv1, z_cl1, z_cv2, z_cl2, z_cv3, z_cl3, z_cv4, z_cl4, z_cv5, z_cl5, z_cv6, z_cl6, z_cv7, z_cl7, z_cv8, z_cl8, z_cv9, z_cl9, z_cv10, z_cl10, z_cv11, z_cl11, z_cv12, z_cl12, z_cv13, z_cl13, z_len, z_elt, z_isI, z_isJ, Nat.reduceEqDiff, Nat.reduceLeDiff, Nat.reduceLT, Nat.reduceSub, Nat.reduceMul, not_false_eq_true, not_true_eq_false, true_and, and_true, true_or, or_true, false_or, or_false, true_implies, false_implies, implies_true, forall_const, and_self, ne_eq, Classical.not_not, z_up1, z_up2, z_cp1, z_cp2, z_upL1, z_upL2, if_true, if_false, and_false, false_and]
    exact ⟨fun c => p32 _ _ (by rw [if_pos c] at q; exact q), fun c => p32 _ _ (by rw [if_neg c] at q; exact q)⟩
  refine e_J6_numberOfTrailingZeros_0f7a4 ?_
  refine z_wp_run (cut := [24, 32, 40, 48]) 60 _ _ _ _ ?_
  simp only [z_wp, Bool.false_eq_true, ↓reduceIte, z_e10, z_e01, eq_self, Int32.reduceLT, Int32.reduceLE, Int32.reduceGT, Int32.reduceGE, z_in, cond_true, cond_false, Nat.reduceAdd, Nat.reduceBEq, z_nth, z_set, z_clr, z_st1, z_st2, z_isL, z_opt, z_pop, z_cats, z_cat, c_J6_numberOfTrailingZeros_0f7a4_0, c_J6_numberOfTrailingZeros_0f7a4_1, c_J6_numberOfTrailingZeros_0f7a4_2, c_J6_numberOfTrailingZeros_0f7a4_3, c_J6_numberOfTrailingZeros_0f7a4_4, c_J6_numberOfTrailingZeros_0f7a4_5, c_J6_numberOfTrailingZeros_0f7a4_6, c_J6_numberOfTrailingZeros_0f7a4_7, c_J6_numberOfTrailingZeros_0f7a4_8, c_J6_numberOfTrailingZeros_0f7a4_9, c_J6_numberOfTrailingZeros_0f7a4_10, c_J6_numberOfTrailingZeros_0f7a4_11, c_J6_numberOfTrailingZeros_0f7a4_12, c_J6_numberOfTrailingZeros_0f7a4_13, c_J6_numberOfTrailingZeros_0f7a4_14, c_J6_numberOfTrailingZeros_0f7a4_15, c_J6_numberOfTrailingZeros_0f7a4_16, c_J6_numberOfTrailingZeros_0f7a4_17, c_J6_numberOfTrailingZeros_0f7a4_18, c_J6_numberOfTrailingZeros_0f7a4_19, c_J6_numberOfTrailingZeros_0f7a4_20, c_J6_numberOfTrailingZeros_0f7a4_21, c_J6_numberOfTrailingZeros_0f7a4_22, c_J6_numberOfTrailingZeros_0f7a4_23, c_J6_numberOfTrailingZeros_0f7a4_24, c_J6_numberOfTrailingZeros_0f7a4_25, c_J6_numberOfTrailingZeros_0f7a4_26, c_J6_numberOfTrailingZeros_0f7a4_27, c_J6_numberOfTrailingZeros_0f7a4_28, c_J6_numberOfTrailingZeros_0f7a4_29, c_J6_numberOfTrailingZeros_0f7a4_30, c_J6_numberOfTrailingZeros_0f7a4_31, c_J6_numberOfTrailingZeros_0f7a4_32, c_J6_numberOfTrailingZeros_0f7a4_33, c_J6_numberOfTrailingZeros_0f7a4_34, c_J6_numberOfTrailingZeros_0f7a4_35, c_J6_numberOfTrailingZeros_0f7a4_36, c_J6_numberOfTrailingZeros_0f7a4_37, c_J6_numberOfTrailingZeros_0f7a4_38, c_J6_numberOfTrailingZeros_0f7a4_39, c_J6_numberOfTrailingZeros_0f7a4_40, c_J6_numberOfTrailingZeros_0f7a4_41, c_J6_numberOfTrailingZeros_0f7a4_42, c_J6_numberOfTrailingZeros_0f7a4_43, c_J6_numberOfTrailingZeros_0f7a4_44, c_J6_numberOfTrailingZeros_0f7a4_45, c_J6_numberOfTrailingZeros_0f7a4_46, c_J6_numberOfTrailingZeros_0f7a4_47, c_J6_numberOfTrailingZeros_0f7a4_48, c_J6_numberOfTrailingZeros_0f7a4_49, c_J6_numberOfTrailingZeros_0f7a4_50, c_J6_numberOfTrailingZeros_0f7a4_51, c_J6_numberOfTrailingZeros_0f7a4_52, c_J6_numberOfTrailingZeros_0f7a4_53, o_bin, o_ic, o_icmp, o_if, o_iinc, o_iload, o_iret, o_istore, z_cv0, z_cl0, z_cv1, z_cl1, z_cv2, z_cl2, z_cv3, z_cl3, z_cv4, z_cl4, z_cv5, z_cl5, z_cv6, z_cl6, z_cv7, z_cl7, z_cv8, z_cl8, z_cv9, z_cl9, z_cv10, z_cl10, z_cv11, z_cl11, z_cv12, z_cl12, z_cv13, z_cl13, z_len, z_elt, z_isI, z_isJ, Nat.reduceEqDiff, Nat.reduceLeDiff, Nat.reduceLT, Nat.reduceSub, Nat.reduceMul, not_false_eq_true, not_true_eq_false, true_and, and_true, true_or, or_true, false_or, or_false, true_implies, false_implies, implies_true, forall_const, and_self, ne_eq, Classical.not_not, z_up1, z_up2, z_cp1, z_cp2, z_upL1, z_upL2, if_true, if_false, and_false, false_and]
  unfold r_ntz z_n16 at q
  refine ⟨fun c => ?_, fun c => ?_⟩
  · rw [if_pos c] at q
    exact ⟨fun c2 => p24 _ _ (by rw [if_pos c2] at q; exact q), fun c2 => p24 _ _ (by rw [if_neg c2] at q; exact q)⟩
  · rw [if_neg c] at q
    exact q
theorem e_X4_readTag {h : Nat} {a0 : zId} {a1 : Int32} {a2 : zId} {a3 : Int32} {M : zMem} {K : zK} (ha0 : (a0.1 == 99) = false) (ha2 : (a2.1 == 99) = false) (q : z_run (z_nop k_X4_readTag) (z_call h) K 0 [.inr (.inr a0), .inl a1, .inr (.inr a2), .inl a3, z_un] [] M) : z_call (h + 1) 47 [.inr (.inr a0), .inl a1, .inr (.inr a2), .inl a3] M K := ⟨by simp only [List.all_cons, List.all_nil, z_isU, ha0, ha2]; rfl, q⟩
theorem c_X4_readTag_0 : z_nop k_X4_readTag 0 = o_aload 0 := rfl
theorem c_X4_readTag_1 : z_nop k_X4_readTag 1 = o_iload 3 := rfl
theorem c_X4_readTag_2 : z_nop k_X4_readTag 2 = o_callv 9 91 2 := rfl
theorem c_X4_readTag_3 : z_nop k_X4_readTag 3 = o_astore 4 := rfl
theorem c_X4_readTag_4 : z_nop k_X4_readTag 4 = o_aload 4 := rfl
theorem c_X4_readTag_5 : z_nop k_X4_readTag 5 = o_ifnonnull 7 := rfl
theorem c_X4_readTag_6 : z_nop k_X4_readTag 6 = o_ret := rfl
theorem c_X4_readTag_7 : z_nop k_X4_readTag 7 = o_aload 4 := rfl
theorem c_X4_readTag_8 : z_nop k_X4_readTag 8 = o_aload 2 := rfl
theorem c_X4_readTag_9 : z_nop k_X4_readTag 9 = o_get 4 5 := rfl
theorem c_X4_readTag_10 : z_nop k_X4_readTag 10 = o_ic 1 := rfl
theorem c_X4_readTag_11 : z_nop k_X4_readTag 11 = o_aload 4 := rfl
theorem c_X4_readTag_12 : z_nop k_X4_readTag 12 = o_aload 2 := rfl
theorem c_X4_readTag_13 : z_nop k_X4_readTag 13 = o_get 4 5 := rfl
theorem c_X4_readTag_14 : z_nop k_X4_readTag 14 = o_callv 7 81 2 := rfl
theorem c_X4_readTag_15 : z_nop k_X4_readTag 15 = o_bin (fun x y => x - y) := rfl
theorem c_X4_readTag_16 : z_nop k_X4_readTag 16 = o_aload 0 := rfl
theorem c_X4_readTag_17 : z_nop k_X4_readTag 17 = o_get 9 5 := rfl
theorem c_X4_readTag_18 : z_nop k_X4_readTag 18 = o_callv 7 84 4 := rfl
theorem c_X4_readTag_19 : z_nop k_X4_readTag 19 = o_aload 0 := rfl
theorem c_X4_readTag_20 : z_nop k_X4_readTag 20 = o_getr 9 (fun w i => (20, w, 0)) := rfl
theorem c_X4_readTag_21 : z_nop k_X4_readTag 21 = o_ic 8 := rfl
theorem c_X4_readTag_22 : z_nop k_X4_readTag 22 = o_dup2 := rfl
theorem c_X4_readTag_23 : z_nop k_X4_readTag 23 = o_iald := rfl
theorem c_X4_readTag_24 : z_nop k_X4_readTag 24 = o_aload 4 := rfl
theorem c_X4_readTag_25 : z_nop k_X4_readTag 25 = o_aload 2 := rfl
theorem c_X4_readTag_26 : z_nop k_X4_readTag 26 = o_get 4 5 := rfl
theorem c_X4_readTag_27 : z_nop k_X4_readTag 27 = o_callv 7 81 2 := rfl
theorem c_X4_readTag_28 : z_nop k_X4_readTag 28 = o_bin (fun x y => x + y) := rfl
theorem c_X4_readTag_29 : z_nop k_X4_readTag 29 = o_iast := rfl
theorem c_X4_readTag_30 : z_nop k_X4_readTag 30 = o_aload 4 := rfl
theorem c_X4_readTag_31 : z_nop k_X4_readTag 31 = o_dup := rfl
theorem c_X4_readTag_32 : z_nop k_X4_readTag 32 = o_get 7 6 := rfl
theorem c_X4_readTag_33 : z_nop k_X4_readTag 33 = o_ic 1 := rfl
theorem c_X4_readTag_34 : z_nop k_X4_readTag 34 = o_bin (fun x y => x + y) := rfl
theorem c_X4_readTag_35 : z_nop k_X4_readTag 35 = o_put 7 6 := rfl
theorem c_X4_readTag_36 : z_nop k_X4_readTag 36 = o_aload 4 := rfl
theorem c_X4_readTag_37 : z_nop k_X4_readTag 37 = o_iload 1 := rfl
theorem c_X4_readTag_38 : z_nop k_X4_readTag 38 = o_put 7 7 := rfl
theorem c_X4_readTag_39 : z_nop k_X4_readTag 39 = o_aload 4 := rfl
theorem c_X4_readTag_40 : z_nop k_X4_readTag 40 = o_callv 7 78 1 := rfl
theorem c_X4_readTag_41 : z_nop k_X4_readTag 41 = o_aload 2 := rfl
theorem c_X4_readTag_42 : z_nop k_X4_readTag 42 = o_iload 3 := rfl
theorem c_X4_readTag_43 : z_nop k_X4_readTag 43 = o_callv 4 34 2 := rfl
theorem c_X4_readTag_44 : z_nop k_X4_readTag 44 = o_ret := rfl

def m_readTag1 (M : zMem) (w r t : Nat) : zMem := m_setFlag M w t (M.1 4 w r 5) (1 - r_flag M w t (M.1 4 w r 5)) (M.1 9 w 0 5)
def m_readTag2 (M : zMem) (w r t : Nat) : zMem := z_up (m_readTag1 M w r t) 20 w 0 8 ((m_readTag1 M w r t).1 20 w 0 8 + r_flag (m_readTag1 M w r t) w t ((m_readTag1 M w r t).1 4 w r 5))
def m_readTag (M : zMem) (w r t : Nat) (x : Int32) : zMem :=
  m_note (m_release (z_up (z_up (m_readTag2 M w r t) 7 w t 6 ((m_readTag2 M w r t).1 7 w t 6 + 1)) 7 w t 7 x) w t) w r (nI t)
set_option maxRecDepth 100000 in
theorem s_readTag {h w r t : Nat} {M : zMem} {x : Int32} {K : zK} (ht : t < 24) (h0 : ¬ M.1 7 w t 0 = 0) (q : K none (m_readTag M w r t x)) : z_call (h + 2) 47 [.inr (.inr (9, w, 0)), .inl x, .inr (.inr (4, w, r)), .inl (nI t)] M K := by
  have e1 : r_tagAt M w (nI t) = (7, w, t) := by
    unfold r_tagAt
    rw [nI_clamp (by omega)]
    exact if_neg (fun z => by
      rcases z with z | z | z
      · exact nI_pos (by omega) z
      · exact nI_ge ht (by decide) z
      · exact h0 z)
  have e2 : m_setFlag M w t (M.1 4 w r 5) (1 - r_flag M w t (M.1 4 w r 5)) (M.1 9 w 0 5) = m_readTag1 M w r t := rfl
  have e3 : z_up (m_readTag1 M w r t) 20 w 0 8 ((m_readTag1 M w r t).1 20 w 0 8 + r_flag (m_readTag1 M w r t) w t ((m_readTag1 M w r t).1 4 w r 5)) = m_readTag2 M w r t := rfl
  unfold m_readTag at q
  refine e_X4_readTag rfl rfl ?_
  refine z_wp_run (cut := [3, 15, 19, 28, 41, 44]) 47 _ _ _ _ ?_
  repeat' (first | (simp only [z_wp, Bool.false_eq_true, ↓reduceIte, z_e10, z_e01, eq_self, Int32.reduceLT, Int32.reduceLE, Int32.reduceGT, Int32.reduceGE, z_in, cond_true, cond_false, Nat.reduceAdd, Nat.reduceBEq, z_nth, z_set, z_clr, z_st1, z_st2, z_isL, z_opt, z_pop, z_cats, z_cat, c_X4_readTag_0, c_X4_readTag_1, c_X4_readTag_2, c_X4_readTag_3, c_X4_readTag_4, c_X4_readTag_5, c_X4_readTag_6, c_X4_readTag_7, c_X4_readTag_8, c_X4_readTag_9, c_X4_readTag_10, c_X4_readTag_11, c_X4_readTag_12, c_X4_readTag_13, c_X4_readTag_14, c_X4_readTag_15, c_X4_readTag_16, c_X4_readTag_17, c_X4_readTag_18, c_X4_readTag_19, c_X4_readTag_20, c_X4_readTag_21, c_X4_readTag_22, c_X4_readTag_23, c_X4_readTag_24, c_X4_readTag_25, c_X4_readTag_26, c_X4_readTag_27, c_X4_readTag_28, c_X4_readTag_29, c_X4_readTag_30, c_X4_readTag_31, c_X4_readTag_32, c_X4_readTag_33, c_X4_readTag_34, c_X4_readTag_35, c_X4_readTag_36, c_X4_readTag_37, c_X4_readTag_38, c_X4_readTag_39, c_X4_readTag_40, c_X4_readTag_41, c_X4_readTag_42, c_X4_readTag_43, c_X4_readTag_44, o_aload, o_astore, o_bin, o_callv, o_dup, o_dup2, o_get, o_getr, o_iald, o_iast, o_ic, o_ifnonnull, o_iload, o_put, o_ret, z_cv0, z_cl0, z_cv1, z_cl1, z_cv2, z_cl2, z_cv3, z_cl3, z_cv4, z_cl4, z_cv5, z_cl5, z_cv6, z_cl6, z_cv7, z_cl7, z_cv8, z_cl8, z_cv9, z_cl9, z_cv10, z_cl10, z_cv11, z_cl11, z_cv12, z_cl12, z_cv13, z_cl13, z_len, z_elt, z_isI, z_isJ, Nat.reduceEqDiff, Nat.reduceLeDiff, Nat.reduceLT, Nat.reduceSub, Nat.reduceMul, not_false_eq_true, not_true_eq_false, true_and, and_true, true_or, or_true, false_or, or_false, true_implies, false_implies, implies_true, forall_const, and_self, ne_eq, Classical.not_not, z_up1, z_up2, z_cp1, z_cp2, z_upL1, z_upL2, if_true, if_false, and_false, false_and, e1, e2, e3]) | (refine s_tagAt ?_) | (refine s_flag ?_) | (refine s_setFlag ?_) | (refine s_release ?_) | (refine s_note ?_) | (with_reducible refine And.intro ?_ ?_) | (with_reducible intro _) | (with_reducible refine z_go (i := 3) (cut := [3, 15, 19, 28, 41, 44]) 47 ?_) | (with_reducible refine z_go (i := 15) (cut := [3, 15, 19, 28, 41, 44]) 47 ?_) | (with_reducible refine z_go (i := 19) (cut := [3, 15, 19, 28, 41, 44]) 47 ?_) | (with_reducible refine z_go (i := 28) (cut := [3, 15, 19, 28, 41, 44]) 47 ?_) | (with_reducible refine z_go (i := 41) (cut := [3, 15, 19, 28, 41, 44]) 47 ?_) | (with_reducible refine z_go (i := 44) (cut := [3, 15, 19, 28, 41, 44]) 47 ?_))
  all_goals (first | (with_reducible exact q) | ((try simp only [ge_iff_le, gt_iff_lt, ← Int32.not_lt, Classical.not_not] at *); (first | (with_reducible rfl) | rfl | (with_reducible exact z_vi_24 (by assumption) (by assumption)) | (with_reducible exact z_vi_4 (by assumption) (by assumption)) | (with_reducible exact z_vi_512 (by assumption) (by assumption)) | (with_reducible exact z_vi_14 (by assumption) (by assumption)) | (with_reducible exact z_vi_8 (by assumption) (by assumption)) | (with_reducible exact z_vinN (by assumption) (by assumption) (by decide)) | (with_reducible exact z_vin1 (by assumption) (by assumption) (by decide)) | ((try simp only [ge_iff_le, gt_iff_lt, ← Int32.not_lt, Classical.not_not] at q); (try simp only [*, if_true, if_false, ite_self, true_or, or_true, false_or, or_false, true_and, and_true, false_and, and_false, not_true_eq_false, not_false_eq_true, cond_true, cond_false, decide_true, decide_false, Bool.true_and, Bool.and_true, Bool.false_and, Bool.and_false, Bool.true_or, Bool.or_true, Bool.false_or, Bool.or_false, Bool.not_true, Bool.not_false, ne_eq, Nat.reduceEqDiff] at q); with_reducible exact q))) | (simp_all; done))
theorem e_X4_hear {h : Nat} {a0 : zId} {a1 : Int32} {a2 : zId} {a3 : Int32} {M : zMem} {K : zK} (ha0 : (a0.1 == 99) = false) (ha2 : (a2.1 == 99) = false) (q : z_run (z_nop k_X4_hear) (z_call h) K 0 [.inr (.inr a0), .inl a1, .inr (.inr a2), .inl a3, z_un, z_un] [] M) : z_call (h + 1) 46 [.inr (.inr a0), .inl a1, .inr (.inr a2), .inl a3] M K := ⟨by simp only [List.all_cons, List.all_nil, z_isU, ha0, ha2]; rfl, q⟩
theorem c_X4_hear_0 : z_nop k_X4_hear 0 = o_iload 3 := rfl
theorem c_X4_hear_1 : z_nop k_X4_hear 1 = o_call 274 1 := rfl
theorem c_X4_hear_2 : z_nop k_X4_hear 2 = o_istore 4 := rfl
theorem c_X4_hear_3 : z_nop k_X4_hear 3 = o_aload 0 := rfl
theorem c_X4_hear_4 : z_nop k_X4_hear 4 = o_getr 9 (fun w i => (20, w, 0)) := rfl
theorem c_X4_hear_5 : z_nop k_X4_hear 5 = o_ic 0 := rfl
theorem c_X4_hear_6 : z_nop k_X4_hear 6 = o_dup2 := rfl
theorem c_X4_hear_7 : z_nop k_X4_hear 7 = o_iald := rfl
theorem c_X4_hear_8 : z_nop k_X4_hear 8 = o_ic 1 := rfl
theorem c_X4_hear_9 : z_nop k_X4_hear 9 = o_bin (fun x y => x + y) := rfl
theorem c_X4_hear_10 : z_nop k_X4_hear 10 = o_iast := rfl
theorem c_X4_hear_11 : z_nop k_X4_hear 11 = o_iload 4 := rfl
theorem c_X4_hear_12 : z_nop k_X4_hear 12 = o_if (fun x => x ≠ 0) 27 := rfl
theorem c_X4_hear_13 : z_nop k_X4_hear 13 = o_aload 0 := rfl
theorem c_X4_hear_14 : z_nop k_X4_hear 14 = o_getr 9 (fun w i => (20, w, 0)) := rfl
theorem c_X4_hear_15 : z_nop k_X4_hear 15 = o_ic 1 := rfl
theorem c_X4_hear_16 : z_nop k_X4_hear 16 = o_dup2 := rfl
theorem c_X4_hear_17 : z_nop k_X4_hear 17 = o_iald := rfl
theorem c_X4_hear_18 : z_nop k_X4_hear 18 = o_ic 1 := rfl
theorem c_X4_hear_19 : z_nop k_X4_hear 19 = o_bin (fun x y => x + y) := rfl
theorem c_X4_hear_20 : z_nop k_X4_hear 20 = o_iast := rfl
theorem c_X4_hear_21 : z_nop k_X4_hear 21 = o_aload 0 := rfl
theorem c_X4_hear_22 : z_nop k_X4_hear 22 = o_iload 1 := rfl
theorem c_X4_hear_23 : z_nop k_X4_hear 23 = o_ic 1 := rfl
theorem c_X4_hear_24 : z_nop k_X4_hear 24 = o_ic 0 := rfl
theorem c_X4_hear_25 : z_nop k_X4_hear 25 = o_callv 9 93 4 := rfl
theorem c_X4_hear_26 : z_nop k_X4_hear 26 = o_goto 65 := rfl
theorem c_X4_hear_27 : z_nop k_X4_hear 27 = o_iload 4 := rfl
theorem c_X4_hear_28 : z_nop k_X4_hear 28 = o_ic 1 := rfl
theorem c_X4_hear_29 : z_nop k_X4_hear 29 = o_icmp (fun x y => x ≠ y) 52 := rfl
theorem c_X4_hear_30 : z_nop k_X4_hear 30 = o_iload 3 := rfl
theorem c_X4_hear_31 : z_nop k_X4_hear 31 = o_call 273 1 := rfl
theorem c_X4_hear_32 : z_nop k_X4_hear 32 = o_istore 5 := rfl
theorem c_X4_hear_33 : z_nop k_X4_hear 33 = o_aload 0 := rfl
theorem c_X4_hear_34 : z_nop k_X4_hear 34 = o_getr 9 (fun w i => (20, w, 0)) := rfl
theorem c_X4_hear_35 : z_nop k_X4_hear 35 = o_ic 2 := rfl
theorem c_X4_hear_36 : z_nop k_X4_hear 36 = o_dup2 := rfl
theorem c_X4_hear_37 : z_nop k_X4_hear 37 = o_iald := rfl
theorem c_X4_hear_38 : z_nop k_X4_hear 38 = o_ic 1 := rfl
theorem c_X4_hear_39 : z_nop k_X4_hear 39 = o_bin (fun x y => x + y) := rfl
theorem c_X4_hear_40 : z_nop k_X4_hear 40 = o_iast := rfl
theorem c_X4_hear_41 : z_nop k_X4_hear 41 = o_aload 0 := rfl
theorem c_X4_hear_42 : z_nop k_X4_hear 42 = o_iload 1 := rfl
theorem c_X4_hear_43 : z_nop k_X4_hear 43 = o_ic 2 := rfl
theorem c_X4_hear_44 : z_nop k_X4_hear 44 = o_iload 5 := rfl
theorem c_X4_hear_45 : z_nop k_X4_hear 45 = o_callv 9 93 4 := rfl
theorem c_X4_hear_46 : z_nop k_X4_hear 46 = o_aload 0 := rfl
theorem c_X4_hear_47 : z_nop k_X4_hear 47 = o_iload 1 := rfl
theorem c_X4_hear_48 : z_nop k_X4_hear 48 = o_aload 2 := rfl
theorem c_X4_hear_49 : z_nop k_X4_hear 49 = o_iload 5 := rfl
theorem c_X4_hear_50 : z_nop k_X4_hear 50 = o_call 47 4 := rfl
theorem c_X4_hear_51 : z_nop k_X4_hear 51 = o_goto 65 := rfl
theorem c_X4_hear_52 : z_nop k_X4_hear 52 = o_aload 0 := rfl
theorem c_X4_hear_53 : z_nop k_X4_hear 53 = o_getr 9 (fun w i => (20, w, 0)) := rfl
theorem c_X4_hear_54 : z_nop k_X4_hear 54 = o_ic 3 := rfl
theorem c_X4_hear_55 : z_nop k_X4_hear 55 = o_dup2 := rfl
theorem c_X4_hear_56 : z_nop k_X4_hear 56 = o_iald := rfl
theorem c_X4_hear_57 : z_nop k_X4_hear 57 = o_ic 1 := rfl
theorem c_X4_hear_58 : z_nop k_X4_hear 58 = o_bin (fun x y => x + y) := rfl
theorem c_X4_hear_59 : z_nop k_X4_hear 59 = o_iast := rfl
theorem c_X4_hear_60 : z_nop k_X4_hear 60 = o_aload 0 := rfl
theorem c_X4_hear_61 : z_nop k_X4_hear 61 = o_iload 1 := rfl
theorem c_X4_hear_62 : z_nop k_X4_hear 62 = o_ic 3 := rfl
theorem c_X4_hear_63 : z_nop k_X4_hear 63 = o_iload 4 := rfl
theorem c_X4_hear_64 : z_nop k_X4_hear 64 = o_callv 9 93 4 := rfl
theorem c_X4_hear_65 : z_nop k_X4_hear 65 = o_aload 2 := rfl
theorem c_X4_hear_66 : z_nop k_X4_hear 66 = o_getr 4 (fun w i => (8, w, 2 * i)) := rfl
theorem c_X4_hear_67 : z_nop k_X4_hear 67 = o_iload 4 := rfl
theorem c_X4_hear_68 : z_nop k_X4_hear 68 = o_callv 8 88 2 := rfl
theorem c_X4_hear_69 : z_nop k_X4_hear 69 = o_ret := rfl

def m_cnt (M : zMem) (w k : Nat) (x : Int32) : zMem := z_up M 20 w 0 k (M.1 20 w 0 k + x)
/-- an answer of one tag t, of none, of more (a) -/
def m_hear0 (M : zMem) (w r : Nat) (x : Int32) : zMem := m_tallyAdd (m_write (m_cnt (m_cnt M w 0 1) w 1 1) w x 1 0) w (2 * r) 0
def m_hear1 (M : zMem) (w r t : Nat) (x : Int32) : zMem := m_tallyAdd (m_readTag (m_write (m_cnt (m_cnt M w 0 1) w 2 1) w x 2 (nI t)) w r t x) w (2 * r) 1
def m_hear2 (M : zMem) (w r : Nat) (x a : Int32) : zMem := m_tallyAdd (m_write (m_cnt (m_cnt M w 0 1) w 3 1) w x 3 a) w (2 * r) a
theorem m_cntE (M : zMem) (w k : Nat) (x : Int32) : z_up M 20 w 0 k (M.1 20 w 0 k + x) = m_cnt M w k x := rfl
theorem m_cnt_came (M : zMem) (w k : Nat) (x : Int32) : (m_cnt M w k x).1 2 w 0 1 = M.1 2 w 0 1 := by
  unfold m_cnt
  rw [z_up1]
  exact if_neg (fun z => absurd z.1 (by decide))
set_option maxRecDepth 100000 in
theorem s_hear0 {h w r : Nat} {M : zMem} {x s : Int32} {K : zK} (ha : r_bc s = 0) (hc : ¬ M.1 2 w 0 1 < 0) (q : K none (m_hear0 M w r x)) : z_call (h + 4) 46 [.inr (.inr (9, w, 0)), .inl x, .inr (.inr (4, w, r)), .inl s] M K := by
  have hc2 : ¬ (m_cnt (m_cnt M w 0 1) w 1 1).1 2 w 0 1 < 0 := by rw [m_cnt_came, m_cnt_came]; exact hc
  have e1 := m_cntE M w 0 1
  have e2 := m_cntE (m_cnt M w 0 1) w 1 1
  unfold m_hear0 at q
  refine e_X4_hear rfl rfl ?_
  refine z_wp_run (cut := [2, 26, 32, 46, 51, 65, 69]) 72 _ _ _ _ ?_
  repeat' (first | (simp only [z_wp, Bool.false_eq_true, ↓reduceIte, z_e10, z_e01, eq_self, Int32.reduceLT, Int32.reduceLE, Int32.reduceGT, Int32.reduceGE, z_in, cond_true, cond_false, Nat.reduceAdd, Nat.reduceBEq, z_nth, z_set, z_clr, z_st1, z_st2, z_isL, z_opt, z_pop, z_cats, z_cat, c_X4_hear_0, c_X4_hear_1, c_X4_hear_2, c_X4_hear_3, c_X4_hear_4, c_X4_hear_5, c_X4_hear_6, c_X4_hear_7, c_X4_hear_8, c_X4_hear_9, c_X4_hear_10, c_X4_hear_11, c_X4_hear_12, c_X4_hear_13, c_X4_hear_14, c_X4_hear_15, c_X4_hear_16, c_X4_hear_17, c_X4_hear_18, c_X4_hear_19, c_X4_hear_20, c_X4_hear_21, c_X4_hear_22, c_X4_hear_23, c_X4_hear_24, c_X4_hear_25, c_X4_hear_26, c_X4_hear_27, c_X4_hear_28, c_X4_hear_29, c_X4_hear_30, c_X4_hear_31, c_X4_hear_32, c_X4_hear_33, c_X4_hear_34, c_X4_hear_35, c_X4_hear_36, c_X4_hear_37, c_X4_hear_38, c_X4_hear_39, c_X4_hear_40, c_X4_hear_41, c_X4_hear_42, c_X4_hear_43, c_X4_hear_44, c_X4_hear_45, c_X4_hear_46, c_X4_hear_47, c_X4_hear_48, c_X4_hear_49, c_X4_hear_50, c_X4_hear_51, c_X4_hear_52, c_X4_hear_53, c_X4_hear_54, c_X4_hear_55, c_X4_hear_56, c_X4_hear_57, c_X4_hear_58, c_X4_hear_59, c_X4_hear_60, c_X4_hear_61, c_X4_hear_62, c_X4_hear_63, c_X4_hear_64, c_X4_hear_65, c_X4_hear_66, c_X4_hear_67, c_X4_hear_68, c_X4_hear_69, o_aload, o_bin, o_call, o_callv, o_dup2, o_getr, o_goto, o_iald, o_iast, o_ic, o_icmp, o_if, o_iload, o_istore, o_ret, z_cv0, z_cl0, z_cv1, z_cl1, z_cv2, z_cl2, z_cv3, z_cl3, z_cv4, z_cl4, z_cv5, z_cl5, z_cv6, z_cl6, z_cv7, z_cl7, z_cv8, z_cl8, z_cv9, z_cl9, z_cv10, z_cl10, z_cv11, z_cl11, z_cv12, z_cl12, z_cv13, z_cl13, z_len, z_elt, z_isI, z_isJ, Nat.reduceEqDiff, Nat.reduceLeDiff, Nat.reduceLT, Nat.reduceSub, Nat.reduceMul, not_false_eq_true, not_true_eq_false, true_and, and_true, true_or, or_true, false_or, or_false, true_implies, false_implies, implies_true, forall_const, and_self, ne_eq, Classical.not_not, z_up1, z_up2, z_cp1, z_cp2, z_upL1, z_upL2, if_true, if_false, and_false, false_and, ha, e1, e2]) | (refine s_bc ?_) | (refine (s_write hc2) ?_) | (refine s_tallyAdd ?_) | (with_reducible refine And.intro ?_ ?_) | (with_reducible intro _) | (with_reducible refine z_go (i := 2) (cut := [2, 26, 32, 46, 51, 65, 69]) 72 ?_) | (with_reducible refine z_go (i := 26) (cut := [2, 26, 32, 46, 51, 65, 69]) 72 ?_) | (with_reducible refine z_go (i := 32) (cut := [2, 26, 32, 46, 51, 65, 69]) 72 ?_) | (with_reducible refine z_go (i := 46) (cut := [2, 26, 32, 46, 51, 65, 69]) 72 ?_) | (with_reducible refine z_go (i := 51) (cut := [2, 26, 32, 46, 51, 65, 69]) 72 ?_) | (with_reducible refine z_go (i := 65) (cut := [2, 26, 32, 46, 51, 65, 69]) 72 ?_) | (with_reducible refine z_go (i := 69) (cut := [2, 26, 32, 46, 51, 65, 69]) 72 ?_))
  all_goals (first | (with_reducible exact q) | ((try simp only [ge_iff_le, gt_iff_lt, ← Int32.not_lt, Classical.not_not] at *); (first | (with_reducible rfl) | rfl | (with_reducible exact z_vi_24 (by assumption) (by assumption)) | (with_reducible exact z_vi_4 (by assumption) (by assumption)) | (with_reducible exact z_vi_512 (by assumption) (by assumption)) | (with_reducible exact z_vi_14 (by assumption) (by assumption)) | (with_reducible exact z_vi_8 (by assumption) (by assumption)) | (with_reducible exact z_vinN (by assumption) (by assumption) (by decide)) | (with_reducible exact z_vin1 (by assumption) (by assumption) (by decide)) | ((try simp only [ge_iff_le, gt_iff_lt, ← Int32.not_lt, Classical.not_not] at q); (try simp only [*, if_true, if_false, ite_self, true_or, or_true, false_or, or_false, true_and, and_true, false_and, and_false, not_true_eq_false, not_false_eq_true, cond_true, cond_false, decide_true, decide_false, Bool.true_and, Bool.and_true, Bool.false_and, Bool.and_false, Bool.true_or, Bool.or_true, Bool.false_or, Bool.or_false, Bool.not_true, Bool.not_false, ne_eq, Nat.reduceEqDiff] at q); with_reducible exact q))) | (simp_all; done))
set_option maxRecDepth 100000 in
theorem s_hear2 {h w r : Nat} {M : zMem} {x s : Int32} {K : zK} (ha : ¬ r_bc s = 0) (ha2 : ¬ r_bc s = 1) (hc : ¬ M.1 2 w 0 1 < 0) (q : K none (m_hear2 M w r x (r_bc s))) : z_call (h + 4) 46 [.inr (.inr (9, w, 0)), .inl x, .inr (.inr (4, w, r)), .inl s] M K := by
  have hc2 : ¬ (m_cnt (m_cnt M w 0 1) w 3 1).1 2 w 0 1 < 0 := by rw [m_cnt_came, m_cnt_came]; exact hc
  have e1 := m_cntE M w 0 1
  have e2 := m_cntE (m_cnt M w 0 1) w 3 1
  unfold m_hear2 at q
  refine e_X4_hear rfl rfl ?_
  refine z_wp_run (cut := [2, 26, 32, 46, 51, 65, 69]) 72 _ _ _ _ ?_
  repeat' (first | (simp only [z_wp, Bool.false_eq_true, ↓reduceIte, z_e10, z_e01, eq_self, Int32.reduceLT, Int32.reduceLE, Int32.reduceGT, Int32.reduceGE, z_in, cond_true, cond_false, Nat.reduceAdd, Nat.reduceBEq, z_nth, z_set, z_clr, z_st1, z_st2, z_isL, z_opt, z_pop, z_cats, z_cat, c_X4_hear_0, c_X4_hear_1, c_X4_hear_2, c_X4_hear_3, c_X4_hear_4, c_X4_hear_5, c_X4_hear_6, c_X4_hear_7, c_X4_hear_8, c_X4_hear_9, c_X4_hear_10, c_X4_hear_11, c_X4_hear_12, c_X4_hear_13, c_X4_hear_14, c_X4_hear_15, c_X4_hear_16, c_X4_hear_17, c_X4_hear_18, c_X4_hear_19, c_X4_hear_20, c_X4_hear_21, c_X4_hear_22, c_X4_hear_23, c_X4_hear_24, c_X4_hear_25, c_X4_hear_26, c_X4_hear_27, c_X4_hear_28, c_X4_hear_29, c_X4_hear_30, c_X4_hear_31, c_X4_hear_32, c_X4_hear_33, c_X4_hear_34, c_X4_hear_35, c_X4_hear_36, c_X4_hear_37, c_X4_hear_38, c_X4_hear_39, c_X4_hear_40, c_X4_hear_41, c_X4_hear_42, c_X4_hear_43, c_X4_hear_44, c_X4_hear_45, c_X4_hear_46, c_X4_hear_47, c_X4_hear_48, c_X4_hear_49, c_X4_hear_50, c_X4_hear_51, c_X4_hear_52, c_X4_hear_53, c_X4_hear_54, c_X4_hear_55, c_X4_hear_56, c_X4_hear_57, c_X4_hear_58, c_X4_hear_59, c_X4_hear_60, c_X4_hear_61, c_X4_hear_62, c_X4_hear_63, c_X4_hear_64, c_X4_hear_65, c_X4_hear_66, c_X4_hear_67, c_X4_hear_68, c_X4_hear_69, o_aload, o_bin, o_call, o_callv, o_dup2, o_getr, o_goto, o_iald, o_iast, o_ic, o_icmp, o_if, o_iload, o_istore, o_ret, z_cv0, z_cl0, z_cv1, z_cl1, z_cv2, z_cl2, z_cv3, z_cl3, z_cv4, z_cl4, z_cv5, z_cl5, z_cv6, z_cl6, z_cv7, z_cl7, z_cv8, z_cl8, z_cv9, z_cl9, z_cv10, z_cl10, z_cv11, z_cl11, z_cv12, z_cl12, z_cv13, z_cl13, z_len, z_elt, z_isI, z_isJ, Nat.reduceEqDiff, Nat.reduceLeDiff, Nat.reduceLT, Nat.reduceSub, Nat.reduceMul, not_false_eq_true, not_true_eq_false, true_and, and_true, true_or, or_true, false_or, or_false, true_implies, false_implies, implies_true, forall_const, and_self, ne_eq, Classical.not_not, z_up1, z_up2, z_cp1, z_cp2, z_upL1, z_upL2, if_true, if_false, and_false, false_and, ha, ha2, e1, e2]) | (refine s_bc ?_) | (refine (s_write hc2) ?_) | (refine s_tallyAdd ?_) | (with_reducible refine And.intro ?_ ?_) | (with_reducible intro _) | (with_reducible refine z_go (i := 2) (cut := [2, 26, 32, 46, 51, 65, 69]) 72 ?_) | (with_reducible refine z_go (i := 26) (cut := [2, 26, 32, 46, 51, 65, 69]) 72 ?_) | (with_reducible refine z_go (i := 32) (cut := [2, 26, 32, 46, 51, 65, 69]) 72 ?_) | (with_reducible refine z_go (i := 46) (cut := [2, 26, 32, 46, 51, 65, 69]) 72 ?_) | (with_reducible refine z_go (i := 51) (cut := [2, 26, 32, 46, 51, 65, 69]) 72 ?_) | (with_reducible refine z_go (i := 65) (cut := [2, 26, 32, 46, 51, 65, 69]) 72 ?_) | (with_reducible refine z_go (i := 69) (cut := [2, 26, 32, 46, 51, 65, 69]) 72 ?_))
  all_goals (first | (with_reducible exact q) | ((try simp only [ge_iff_le, gt_iff_lt, ← Int32.not_lt, Classical.not_not] at *); (first | (with_reducible rfl) | rfl | (with_reducible exact z_vi_24 (by assumption) (by assumption)) | (with_reducible exact z_vi_4 (by assumption) (by assumption)) | (with_reducible exact z_vi_512 (by assumption) (by assumption)) | (with_reducible exact z_vi_14 (by assumption) (by assumption)) | (with_reducible exact z_vi_8 (by assumption) (by assumption)) | (with_reducible exact z_vinN (by assumption) (by assumption) (by decide)) | (with_reducible exact z_vin1 (by assumption) (by assumption) (by decide)) | ((try simp only [ge_iff_le, gt_iff_lt, ← Int32.not_lt, Classical.not_not] at q); (try simp only [*, if_true, if_false, ite_self, true_or, or_true, false_or, or_false, true_and, and_true, false_and, and_false, not_true_eq_false, not_false_eq_true, cond_true, cond_false, decide_true, decide_false, Bool.true_and, Bool.and_true, Bool.false_and, Bool.and_false, Bool.true_or, Bool.or_true, Bool.false_or, Bool.or_false, Bool.not_true, Bool.not_false, ne_eq, Nat.reduceEqDiff] at q); with_reducible exact q))) | (simp_all; done))
theorem m_write_there (M : zMem) (w i : Nat) (a b c : Int32) : (m_write M w a b c).1 7 w i 0 = M.1 7 w i 0 := by
  unfold m_write m_jAdd2
  simp [z_up1]
theorem m_cnt_there (M : zMem) (w k i : Nat) (x : Int32) : (m_cnt M w k x).1 7 w i 0 = M.1 7 w i 0 := by
  unfold m_cnt
  simp [z_up1]
set_option maxRecDepth 100000 in
theorem s_hear1 {h w r t : Nat} {M : zMem} {x s : Int32} {K : zK} (ha : r_bc s = 1) (ht : r_ntz s = nI t) (ht2 : t < 24) (h0 : ¬ M.1 7 w t 0 = 0) (hc : ¬ M.1 2 w 0 1 < 0) (q : K none (m_hear1 M w r t x)) : z_call (h + 4) 46 [.inr (.inr (9, w, 0)), .inl x, .inr (.inr (4, w, r)), .inl s] M K := by
  have hc2 : ¬ (m_cnt (m_cnt M w 0 1) w 2 1).1 2 w 0 1 < 0 := by rw [m_cnt_came, m_cnt_came]; exact hc
  have e1 := m_cntE M w 0 1
  have e2 := m_cntE (m_cnt M w 0 1) w 2 1
  have h3 : ¬ (m_write (m_cnt (m_cnt M w 0 1) w 2 1) w x 2 (nI t)).1 7 w t 0 = 0 := by rw [m_write_there, m_cnt_there, m_cnt_there]; exact h0
  unfold m_hear1 at q
  refine e_X4_hear rfl rfl ?_
  refine z_wp_run (cut := [2, 26, 32, 46, 51, 65, 69]) 72 _ _ _ _ ?_
  repeat' (first | (simp only [z_wp, Bool.false_eq_true, ↓reduceIte, z_e10, z_e01, eq_self, Int32.reduceLT, Int32.reduceLE, Int32.reduceGT, Int32.reduceGE, z_in, cond_true, cond_false, Nat.reduceAdd, Nat.reduceBEq, z_nth, z_set, z_clr, z_st1, z_st2, z_isL, z_opt, z_pop, z_cats, z_cat, c_X4_hear_0, c_X4_hear_1, c_X4_hear_2, c_X4_hear_3, c_X4_hear_4, c_X4_hear_5, c_X4_hear_6, c_X4_hear_7, c_X4_hear_8, c_X4_hear_9, c_X4_hear_10, c_X4_hear_11, c_X4_hear_12, c_X4_hear_13, c_X4_hear_14, c_X4_hear_15, c_X4_hear_16, c_X4_hear_17, c_X4_hear_18, c_X4_hear_19, c_X4_hear_20, c_X4_hear_21, c_X4_hear_22, c_X4_hear_23, c_X4_hear_24, c_X4_hear_25, c_X4_hear_26, c_X4_hear_27, c_X4_hear_28, c_X4_hear_29, c_X4_hear_30, c_X4_hear_31, c_X4_hear_32, c_X4_hear_33, c_X4_hear_34, c_X4_hear_35, c_X4_hear_36, c_X4_hear_37, c_X4_hear_38, c_X4_hear_39, c_X4_hear_40, c_X4_hear_41, c_X4_hear_42, c_X4_hear_43, c_X4_hear_44, c_X4_hear_45, c_X4_hear_46, c_X4_hear_47, c_X4_hear_48, c_X4_hear_49, c_X4_hear_50, c_X4_hear_51, c_X4_hear_52, c_X4_hear_53, c_X4_hear_54, c_X4_hear_55, c_X4_hear_56, c_X4_hear_57, c_X4_hear_58, c_X4_hear_59, c_X4_hear_60, c_X4_hear_61, c_X4_hear_62, c_X4_hear_63, c_X4_hear_64, c_X4_hear_65, c_X4_hear_66, c_X4_hear_67, c_X4_hear_68, c_X4_hear_69, o_aload, o_bin, o_call, o_callv, o_dup2, o_getr, o_goto, o_iald, o_iast, o_ic, o_icmp, o_if, o_iload, o_istore, o_ret, z_cv0, z_cl0, z_cv1, z_cl1, z_cv2, z_cl2, z_cv3, z_cl3, z_cv4, z_cl4, z_cv5, z_cl5, z_cv6, z_cl6, z_cv7, z_cl7, z_cv8, z_cl8, z_cv9, z_cl9, z_cv10, z_cl10, z_cv11, z_cl11, z_cv12, z_cl12, z_cv13, z_cl13, z_len, z_elt, z_isI, z_isJ, Nat.reduceEqDiff, Nat.reduceLeDiff, Nat.reduceLT, Nat.reduceSub, Nat.reduceMul, not_false_eq_true, not_true_eq_false, true_and, and_true, true_or, or_true, false_or, or_false, true_implies, false_implies, implies_true, forall_const, and_self, ne_eq, Classical.not_not, z_up1, z_up2, z_cp1, z_cp2, z_upL1, z_upL2, if_true, if_false, and_false, false_and, ha, ht, e1, e2]) | (refine s_bc ?_) | (refine s_ntz ?_) | (refine (s_write hc2) ?_) | (refine (s_readTag ht2 h3) ?_) | (refine s_tallyAdd ?_) | (with_reducible refine And.intro ?_ ?_) | (with_reducible intro _) | (with_reducible refine z_go (i := 2) (cut := [2, 26, 32, 46, 51, 65, 69]) 72 ?_) | (with_reducible refine z_go (i := 26) (cut := [2, 26, 32, 46, 51, 65, 69]) 72 ?_) | (with_reducible refine z_go (i := 32) (cut := [2, 26, 32, 46, 51, 65, 69]) 72 ?_) | (with_reducible refine z_go (i := 46) (cut := [2, 26, 32, 46, 51, 65, 69]) 72 ?_) | (with_reducible refine z_go (i := 51) (cut := [2, 26, 32, 46, 51, 65, 69]) 72 ?_) | (with_reducible refine z_go (i := 65) (cut := [2, 26, 32, 46, 51, 65, 69]) 72 ?_) | (with_reducible refine z_go (i := 69) (cut := [2, 26, 32, 46, 51, 65, 69]) 72 ?_))
  all_goals (first | (with_reducible exact q) | ((try simp only [ge_iff_le, gt_iff_lt, ← Int32.not_lt, Classical.not_not] at *); (first | (with_reducible rfl) | rfl | (with_reducible exact z_vi_24 (by assumption) (by assumption)) | (with_reducible exact z_vi_4 (by assumption) (by assumption)) | (with_reducible exact z_vi_512 (by assumption) (by assumption)) | (with_reducible exact z_vi_14 (by assumption) (by assumption)) | (with_reducible exact z_vi_8 (by assumption) (by assumption)) | (with_reducible exact z_vinN (by assumption) (by assumption) (by decide)) | (with_reducible exact z_vin1 (by assumption) (by assumption) (by decide)) | ((try simp only [ge_iff_le, gt_iff_lt, ← Int32.not_lt, Classical.not_not] at q); (try simp only [*, if_true, if_false, ite_self, true_or, or_true, false_or, or_false, true_and, and_true, false_and, and_false, not_true_eq_false, not_false_eq_true, cond_true, cond_false, decide_true, decide_false, Bool.true_and, Bool.and_true, Bool.false_and, Bool.and_false, Bool.true_or, Bool.or_true, Bool.false_or, Bool.or_false, Bool.not_true, Bool.not_false, ne_eq, Nat.reduceEqDiff] at q); with_reducible exact q))) | (simp_all; done))
