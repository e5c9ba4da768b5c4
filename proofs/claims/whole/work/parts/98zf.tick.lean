/-! the call tick -/
theorem e_X10_tick {h : Nat} {a0 : zId} {a1 : Int32} {M : zMem} {K : zK} (ha0 : (a0.1 == 99) = false) (q : z_run (z_nop k_X10_tick) (z_call h) K 0 [.inr (.inr a0), .inl a1, z_un] [] M) : z_call (h + 1) 221 [.inr (.inr a0), .inl a1] M K := ⟨by simp only [List.all_cons, List.all_nil, z_isU, ha0]; rfl, q⟩
theorem c_X10_tick_0 : z_nop k_X10_tick 0 = o_iload 1 := rfl
theorem c_X10_tick_1 : z_nop k_X10_tick 1 = o_ic 1 := rfl
theorem c_X10_tick_2 : z_nop k_X10_tick 2 = o_ic (nI 40) := rfl
theorem c_X10_tick_3 : z_nop k_X10_tick 3 = o_call 162 3 := rfl
theorem c_X10_tick_4 : z_nop k_X10_tick 4 = o_if (fun x => x = 0) 13 := rfl
theorem c_X10_tick_5 : z_nop k_X10_tick 5 = o_aload 0 := rfl
theorem c_X10_tick_6 : z_nop k_X10_tick 6 = o_getr 11 (fun w i => (24, 0, 0)) := rfl
theorem c_X10_tick_7 : z_nop k_X10_tick 7 = o_ic 0 := rfl
theorem c_X10_tick_8 : z_nop k_X10_tick 8 = o_iald := rfl
theorem c_X10_tick_9 : z_nop k_X10_tick 9 = o_iload 1 := rfl
theorem c_X10_tick_10 : z_nop k_X10_tick 10 = o_bin (fun x y => x + y) := rfl
theorem c_X10_tick_11 : z_nop k_X10_tick 11 = o_ic (nI 9999) := rfl
theorem c_X10_tick_12 : z_nop k_X10_tick 12 = o_icmp (fun x y => x ≤ y) 15 := rfl
theorem c_X10_tick_13 : z_nop k_X10_tick 13 = o_ic (-1) := rfl
theorem c_X10_tick_14 : z_nop k_X10_tick 14 = o_iret := rfl
theorem c_X10_tick_15 : z_nop k_X10_tick 15 = o_ic 0 := rfl
theorem c_X10_tick_16 : z_nop k_X10_tick 16 = o_istore 2 := rfl
theorem c_X10_tick_17 : z_nop k_X10_tick 17 = o_iload 2 := rfl
theorem c_X10_tick_18 : z_nop k_X10_tick 18 = o_iload 1 := rfl
theorem c_X10_tick_19 : z_nop k_X10_tick 19 = o_icmp (fun x y => x ≥ y) 24 := rfl
theorem c_X10_tick_20 : z_nop k_X10_tick 20 = o_aload 0 := rfl
theorem c_X10_tick_21 : z_nop k_X10_tick 21 = o_callv 11 220 1 := rfl
theorem c_X10_tick_22 : z_nop k_X10_tick 22 = o_iinc 2 1 := rfl
theorem c_X10_tick_23 : z_nop k_X10_tick 23 = o_goto 17 := rfl
theorem c_X10_tick_24 : z_nop k_X10_tick 24 = o_aload 0 := rfl
theorem c_X10_tick_25 : z_nop k_X10_tick 25 = o_getr 11 (fun w i => (24, 0, 0)) := rfl
theorem c_X10_tick_26 : z_nop k_X10_tick 26 = o_ic 0 := rfl
theorem c_X10_tick_27 : z_nop k_X10_tick 27 = o_iald := rfl
theorem c_X10_tick_28 : z_nop k_X10_tick 28 = o_iret := rfl

set_option maxRecDepth 100000 in
theorem s_mTick0 {h : Nat} {M : zMem} {n : Int32} {K : zK} (hb : r_isIn n 1 (nI 40) = 0 ∨ nI 9999 < (M.1 24 0 0 (0)) + n) (q : K (some (.inl (-1))) M) : z_call (h + 1 + 1) 221 [.inr (.inr (11, 0, 0)), .inl n] M K := by
  refine e_X10_tick rfl ?_
  refine z_wp_run (cut := [4]) 60 _ _ _ _ ?_
  simp (maxSteps := 1000000) (disch := omega) only [z_wp, Bool.false_eq_true, ↓reduceIte, z_e10, z_e01, eq_self, Int32.reduceLT, Int32.reduceLE, Int32.reduceGT, Int32.reduceGE, z_in, cond_true, cond_false, Nat.reduceAdd, Nat.reduceBEq, z_nth, z_set, z_clr, z_st1, z_st2, z_isL, z_opt, z_pop, z_cats, z_cat, c_X10_tick_0, c_X10_tick_1, c_X10_tick_2, c_X10_tick_3, c_X10_tick_4, c_X10_tick_5, c_X10_tick_6, c_X10_tick_7, c_X10_tick_8, c_X10_tick_9, c_X10_tick_10, c_X10_tick_11, c_X10_tick_12, c_X10_tick_13, c_X10_tick_14, c_X10_tick_15, c_X10_tick_16, c_X10_tick_17, c_X10_tick_18, c_X10_tick_19, c_X10_tick_20, c_X10_tick_21, c_X10_tick_22, c_X10_tick_23, c_X10_tick_24, c_X10_tick_25, c_X10_tick_26, c_X10_tick_27, c_X10_tick_28, o_aload, o_bin, o_call, o_callv, o_getr, o_goto, o_iald, o_ic, o_icmp, o_if, o_iinc, o_iload, o_iret, o_istore, z_len, z_elt, z_isI, z_isJ, Nat.reduceEqDiff, Nat.reduceLeDiff, Nat.reduceLT, Nat.reduceSub, Nat.reduceMul, not_false_eq_true, not_true_eq_false, true_and, and_true, true_or, or_true, false_or, or_false, true_implies, false_implies, implies_true, forall_const, and_self, ne_eq, Classical.not_not, z_up2, z_cp2, z_upL1, z_upL2, if_true, if_false, and_false, false_and, ge_iff_le, gt_iff_lt, nI_add, pk_mul, nI_1, zn_ltT, zn_ltF, zn_leT, zn_leF, zn_eqT, zn_eqF, zn_in, zn_cl, zn_sub, zn_upS, zn_upN, zn_upO, zn_z, zn_lt0, zn_le0, zn_0le, zn_m1, zn_in0, zn_in1, zn_cl0, zn_cl1, zn_g1, zn_1F, zn_1T, zn_zT, zn_1le, zn_lt1, zn_le1]
  refine s_isIn ?_
  refine z_go (cut := [15]) 60 ?_
  simp (maxSteps := 1000000) (disch := omega) only [z_wp, Bool.false_eq_true, ↓reduceIte, z_e10, z_e01, eq_self, Int32.reduceLT, Int32.reduceLE, Int32.reduceGT, Int32.reduceGE, z_in, cond_true, cond_false, Nat.reduceAdd, Nat.reduceBEq, z_nth, z_set, z_clr, z_st1, z_st2, z_isL, z_opt, z_pop, z_cats, z_cat, c_X10_tick_0, c_X10_tick_1, c_X10_tick_2, c_X10_tick_3, c_X10_tick_4, c_X10_tick_5, c_X10_tick_6, c_X10_tick_7, c_X10_tick_8, c_X10_tick_9, c_X10_tick_10, c_X10_tick_11, c_X10_tick_12, c_X10_tick_13, c_X10_tick_14, c_X10_tick_15, c_X10_tick_16, c_X10_tick_17, c_X10_tick_18, c_X10_tick_19, c_X10_tick_20, c_X10_tick_21, c_X10_tick_22, c_X10_tick_23, c_X10_tick_24, c_X10_tick_25, c_X10_tick_26, c_X10_tick_27, c_X10_tick_28, o_aload, o_bin, o_call, o_callv, o_getr, o_goto, o_iald, o_ic, o_icmp, o_if, o_iinc, o_iload, o_iret, o_istore, z_len, z_elt, z_isI, z_isJ, Nat.reduceEqDiff, Nat.reduceLeDiff, Nat.reduceLT, Nat.reduceSub, Nat.reduceMul, not_false_eq_true, not_true_eq_false, true_and, and_true, true_or, or_true, false_or, or_false, true_implies, false_implies, implies_true, forall_const, and_self, ne_eq, Classical.not_not, z_up2, z_cp2, z_upL1, z_upL2, if_true, if_false, and_false, false_and, ge_iff_le, gt_iff_lt, nI_add, pk_mul, nI_1, zn_ltT, zn_ltF, zn_leT, zn_leF, zn_eqT, zn_eqF, zn_in, zn_cl, zn_sub, zn_upS, zn_upN, zn_upO, zn_z, zn_lt0, zn_le0, zn_0le, zn_m1, zn_in0, zn_in1, zn_cl0, zn_cl1, zn_g1, zn_1F, zn_1T, zn_zT, zn_1le, zn_lt1, zn_le1]
  refine ⟨fun _ => q, fun c1 => ⟨fun c2 => ?_, fun _ => q⟩⟩
  rcases hb with z | z
  · exact absurd z c1
  · exact absurd c2 (Int32.not_le.mpr z)
set_option maxRecDepth 100000 in
theorem s_mTick {h n : Nat} {M : zMem} {F : Nat → zMem} {K : zK} (hn : 1 ≤ n) (hn2 : n ≤ 40) (hM : (M.1 24 0 0 (0)) + nI n ≤ nI 9999) (h0 : F 0 = M)
    (hP : ∀ i, i < n → ∀ K2 : zK, K2 none (F (i + 1)) → z_call (h + 1) 220 [.inr (.inr (11, 0, 0))] (F i) K2) (q : K (some (.inl ((F n).1 24 0 0 0))) (F n)) : z_call (h + 1 + 1) 221 [.inr (.inr (11, 0, 0)), .inl (nI n)] M K := by
  have e1 : r_isIn (nI n) 1 (nI 40) = 1 := by
    unfold r_isIn
    rw [if_pos ⟨Int32.not_lt.mpr (nI_le (a := 1) (b := n) hn (by omega)), Int32.not_lt.mpr (nI_le (a := n) (b := 40) hn2 (by decide))⟩]
  refine e_X10_tick rfl ?_
  refine z_wp_run (cut := [4]) 60 _ _ _ _ ?_
  simp (maxSteps := 1000000) (disch := omega) only [z_wp, Bool.false_eq_true, ↓reduceIte, z_e10, z_e01, eq_self, Int32.reduceLT, Int32.reduceLE, Int32.reduceGT, Int32.reduceGE, z_in, cond_true, cond_false, Nat.reduceAdd, Nat.reduceBEq, z_nth, z_set, z_clr, z_st1, z_st2, z_isL, z_opt, z_pop, z_cats, z_cat, c_X10_tick_0, c_X10_tick_1, c_X10_tick_2, c_X10_tick_3, c_X10_tick_4, c_X10_tick_5, c_X10_tick_6, c_X10_tick_7, c_X10_tick_8, c_X10_tick_9, c_X10_tick_10, c_X10_tick_11, c_X10_tick_12, c_X10_tick_13, c_X10_tick_14, c_X10_tick_15, c_X10_tick_16, c_X10_tick_17, c_X10_tick_18, c_X10_tick_19, c_X10_tick_20, c_X10_tick_21, c_X10_tick_22, c_X10_tick_23, c_X10_tick_24, c_X10_tick_25, c_X10_tick_26, c_X10_tick_27, c_X10_tick_28, o_aload, o_bin, o_call, o_callv, o_getr, o_goto, o_iald, o_ic, o_icmp, o_if, o_iinc, o_iload, o_iret, o_istore, z_len, z_elt, z_isI, z_isJ, Nat.reduceEqDiff, Nat.reduceLeDiff, Nat.reduceLT, Nat.reduceSub, Nat.reduceMul, not_false_eq_true, not_true_eq_false, true_and, and_true, true_or, or_true, false_or, or_false, true_implies, false_implies, implies_true, forall_const, and_self, ne_eq, Classical.not_not, z_up2, z_cp2, z_upL1, z_upL2, if_true, if_false, and_false, false_and, ge_iff_le, gt_iff_lt, nI_add, pk_mul, nI_1, zn_ltT, zn_ltF, zn_leT, zn_leF, zn_eqT, zn_eqF, zn_in, zn_cl, zn_sub, zn_upS, zn_upN, zn_upO, zn_z, zn_lt0, zn_le0, zn_0le, zn_m1, zn_in0, zn_in1, zn_cl0, zn_cl1, zn_g1, zn_1F, zn_1T, zn_zT, zn_1le, zn_lt1, zn_le1]
  refine s_isIn ?_
  rw [e1]
  refine z_go (cut := [13, 15]) 60 ?_
  simp (maxSteps := 1000000) (disch := omega) only [z_wp, Bool.false_eq_true, ↓reduceIte, z_e10, z_e01, eq_self, Int32.reduceLT, Int32.reduceLE, Int32.reduceGT, Int32.reduceGE, z_in, cond_true, cond_false, Nat.reduceAdd, Nat.reduceBEq, z_nth, z_set, z_clr, z_st1, z_st2, z_isL, z_opt, z_pop, z_cats, z_cat, c_X10_tick_0, c_X10_tick_1, c_X10_tick_2, c_X10_tick_3, c_X10_tick_4, c_X10_tick_5, c_X10_tick_6, c_X10_tick_7, c_X10_tick_8, c_X10_tick_9, c_X10_tick_10, c_X10_tick_11, c_X10_tick_12, c_X10_tick_13, c_X10_tick_14, c_X10_tick_15, c_X10_tick_16, c_X10_tick_17, c_X10_tick_18, c_X10_tick_19, c_X10_tick_20, c_X10_tick_21, c_X10_tick_22, c_X10_tick_23, c_X10_tick_24, c_X10_tick_25, c_X10_tick_26, c_X10_tick_27, c_X10_tick_28, o_aload, o_bin, o_call, o_callv, o_getr, o_goto, o_iald, o_ic, o_icmp, o_if, o_iinc, o_iload, o_iret, o_istore, z_len, z_elt, z_isI, z_isJ, Nat.reduceEqDiff, Nat.reduceLeDiff, Nat.reduceLT, Nat.reduceSub, Nat.reduceMul, not_false_eq_true, not_true_eq_false, true_and, and_true, true_or, or_true, false_or, or_false, true_implies, false_implies, implies_true, forall_const, and_self, ne_eq, Classical.not_not, z_up2, z_cp2, z_upL1, z_upL2, if_true, if_false, and_false, false_and, ge_iff_le, gt_iff_lt, nI_add, pk_mul, nI_1, zn_ltT, zn_ltF, zn_leT, zn_leF, zn_eqT, zn_eqF, zn_in, zn_cl, zn_sub, zn_upS, zn_upN, zn_upO, zn_z, zn_lt0, zn_le0, zn_0le, zn_m1, zn_in0, zn_in1, zn_cl0, zn_cl1, zn_g1, zn_1F, zn_1T, zn_zT, zn_1le, zn_lt1, zn_le1]
  refine ⟨fun _ => ?_, fun z => absurd hM z⟩
  subst h0
  refine z_go (cut := [17]) 60 ?_
  simp (maxSteps := 1000000) (disch := omega) only [z_wp, Bool.false_eq_true, ↓reduceIte, z_e10, z_e01, eq_self, Int32.reduceLT, Int32.reduceLE, Int32.reduceGT, Int32.reduceGE, z_in, cond_true, cond_false, Nat.reduceAdd, Nat.reduceBEq, z_nth, z_set, z_clr, z_st1, z_st2, z_isL, z_opt, z_pop, z_cats, z_cat, c_X10_tick_0, c_X10_tick_1, c_X10_tick_2, c_X10_tick_3, c_X10_tick_4, c_X10_tick_5, c_X10_tick_6, c_X10_tick_7, c_X10_tick_8, c_X10_tick_9, c_X10_tick_10, c_X10_tick_11, c_X10_tick_12, c_X10_tick_13, c_X10_tick_14, c_X10_tick_15, c_X10_tick_16, c_X10_tick_17, c_X10_tick_18, c_X10_tick_19, c_X10_tick_20, c_X10_tick_21, c_X10_tick_22, c_X10_tick_23, c_X10_tick_24, c_X10_tick_25, c_X10_tick_26, c_X10_tick_27, c_X10_tick_28, o_aload, o_bin, o_call, o_callv, o_getr, o_goto, o_iald, o_ic, o_icmp, o_if, o_iinc, o_iload, o_iret, o_istore, z_len, z_elt, z_isI, z_isJ, Nat.reduceEqDiff, Nat.reduceLeDiff, Nat.reduceLT, Nat.reduceSub, Nat.reduceMul, not_false_eq_true, not_true_eq_false, true_and, and_true, true_or, or_true, false_or, or_false, true_implies, false_implies, implies_true, forall_const, and_self, ne_eq, Classical.not_not, z_up2, z_cp2, z_upL1, z_upL2, if_true, if_false, and_false, false_and, ge_iff_le, gt_iff_lt, nI_add, pk_mul, nI_1, zn_ltT, zn_ltF, zn_leT, zn_leF, zn_eqT, zn_eqF, zn_in, zn_cl, zn_sub, zn_upS, zn_upN, zn_upO, zn_z, zn_lt0, zn_le0, zn_0le, zn_m1, zn_in0, zn_in1, zn_cl0, zn_cl1, zn_g1, zn_1F, zn_1T, zn_zT, zn_1le, zn_lt1, zn_le1]
  refine z_loop (fun i => z_run (z_nop k_X10_tick) (z_call (h + 1)) K 17 [.inr (.inr (11, 0, 0)), .inl (nI n), .inl (nI i)] [] (F i)) n ?_ ?_ 0 (by omega)
  · refine z_go (cut := [20]) 60 ?_
    simp (maxSteps := 1000000) (disch := omega) only [z_wp, Bool.false_eq_true, ↓reduceIte, z_e10, z_e01, eq_self, Int32.reduceLT, Int32.reduceLE, Int32.reduceGT, Int32.reduceGE, z_in, cond_true, cond_false, Nat.reduceAdd, Nat.reduceBEq, z_nth, z_set, z_clr, z_st1, z_st2, z_isL, z_opt, z_pop, z_cats, z_cat, c_X10_tick_0, c_X10_tick_1, c_X10_tick_2, c_X10_tick_3, c_X10_tick_4, c_X10_tick_5, c_X10_tick_6, c_X10_tick_7, c_X10_tick_8, c_X10_tick_9, c_X10_tick_10, c_X10_tick_11, c_X10_tick_12, c_X10_tick_13, c_X10_tick_14, c_X10_tick_15, c_X10_tick_16, c_X10_tick_17, c_X10_tick_18, c_X10_tick_19, c_X10_tick_20, c_X10_tick_21, c_X10_tick_22, c_X10_tick_23, c_X10_tick_24, c_X10_tick_25, c_X10_tick_26, c_X10_tick_27, c_X10_tick_28, o_aload, o_bin, o_call, o_callv, o_getr, o_goto, o_iald, o_ic, o_icmp, o_if, o_iinc, o_iload, o_iret, o_istore, z_len, z_elt, z_isI, z_isJ, Nat.reduceEqDiff, Nat.reduceLeDiff, Nat.reduceLT, Nat.reduceSub, Nat.reduceMul, not_false_eq_true, not_true_eq_false, true_and, and_true, true_or, or_true, false_or, or_false, true_implies, false_implies, implies_true, forall_const, and_self, ne_eq, Classical.not_not, z_up2, z_cp2, z_upL1, z_upL2, if_true, if_false, and_false, false_and, ge_iff_le, gt_iff_lt, nI_add, pk_mul, nI_1, zn_ltT, zn_ltF, zn_leT, zn_leF, zn_eqT, zn_eqF, zn_in, zn_cl, zn_sub, zn_upS, zn_upN, zn_upO, zn_z, zn_lt0, zn_le0, zn_0le, zn_m1, zn_in0, zn_in1, zn_cl0, zn_cl1, zn_g1, zn_1F, zn_1T, zn_zT, zn_1le, zn_lt1, zn_le1]
    exact q
  · intro i hi ih
    refine z_go (cut := [20, 24]) 60 ?_
    simp (maxSteps := 1000000) (disch := omega) only [z_wp, Bool.false_eq_true, ↓reduceIte, z_e10, z_e01, eq_self, Int32.reduceLT, Int32.reduceLE, Int32.reduceGT, Int32.reduceGE, z_in, cond_true, cond_false, Nat.reduceAdd, Nat.reduceBEq, z_nth, z_set, z_clr, z_st1, z_st2, z_isL, z_opt, z_pop, z_cats, z_cat, c_X10_tick_0, c_X10_tick_1, c_X10_tick_2, c_X10_tick_3, c_X10_tick_4, c_X10_tick_5, c_X10_tick_6, c_X10_tick_7, c_X10_tick_8, c_X10_tick_9, c_X10_tick_10, c_X10_tick_11, c_X10_tick_12, c_X10_tick_13, c_X10_tick_14, c_X10_tick_15, c_X10_tick_16, c_X10_tick_17, c_X10_tick_18, c_X10_tick_19, c_X10_tick_20, c_X10_tick_21, c_X10_tick_22, c_X10_tick_23, c_X10_tick_24, c_X10_tick_25, c_X10_tick_26, c_X10_tick_27, c_X10_tick_28, o_aload, o_bin, o_call, o_callv, o_getr, o_goto, o_iald, o_ic, o_icmp, o_if, o_iinc, o_iload, o_iret, o_istore, z_len, z_elt, z_isI, z_isJ, Nat.reduceEqDiff, Nat.reduceLeDiff, Nat.reduceLT, Nat.reduceSub, Nat.reduceMul, not_false_eq_true, not_true_eq_false, true_and, and_true, true_or, or_true, false_or, or_false, true_implies, false_implies, implies_true, forall_const, and_self, ne_eq, Classical.not_not, z_up2, z_cp2, z_upL1, z_upL2, if_true, if_false, and_false, false_and, ge_iff_le, gt_iff_lt, nI_add, pk_mul, nI_1, zn_ltT, zn_ltF, zn_leT, zn_leF, zn_eqT, zn_eqF, zn_in, zn_cl, zn_sub, zn_upS, zn_upN, zn_upO, zn_z, zn_lt0, zn_le0, zn_0le, zn_m1, zn_in0, zn_in1, zn_cl0, zn_cl1, zn_g1, zn_1F, zn_1T, zn_zT, zn_1le, zn_lt1, zn_le1]
    refine z_go (cut := [22]) 60 ?_
    simp (maxSteps := 1000000) (disch := omega) only [z_wp, Bool.false_eq_true, ↓reduceIte, z_e10, z_e01, eq_self, Int32.reduceLT, Int32.reduceLE, Int32.reduceGT, Int32.reduceGE, z_in, cond_true, cond_false, Nat.reduceAdd, Nat.reduceBEq, z_nth, z_set, z_clr, z_st1, z_st2, z_isL, z_opt, z_pop, z_cats, z_cat, c_X10_tick_0, c_X10_tick_1, c_X10_tick_2, c_X10_tick_3, c_X10_tick_4, c_X10_tick_5, c_X10_tick_6, c_X10_tick_7, c_X10_tick_8, c_X10_tick_9, c_X10_tick_10, c_X10_tick_11, c_X10_tick_12, c_X10_tick_13, c_X10_tick_14, c_X10_tick_15, c_X10_tick_16, c_X10_tick_17, c_X10_tick_18, c_X10_tick_19, c_X10_tick_20, c_X10_tick_21, c_X10_tick_22, c_X10_tick_23, c_X10_tick_24, c_X10_tick_25, c_X10_tick_26, c_X10_tick_27, c_X10_tick_28, o_aload, o_bin, o_call, o_callv, o_getr, o_goto, o_iald, o_ic, o_icmp, o_if, o_iinc, o_iload, o_iret, o_istore, z_len, z_elt, z_isI, z_isJ, Nat.reduceEqDiff, Nat.reduceLeDiff, Nat.reduceLT, Nat.reduceSub, Nat.reduceMul, not_false_eq_true, not_true_eq_false, true_and, and_true, true_or, or_true, false_or, or_false, true_implies, false_implies, implies_true, forall_const, and_self, ne_eq, Classical.not_not, z_up2, z_cp2, z_upL1, z_upL2, if_true, if_false, and_false, false_and, ge_iff_le, gt_iff_lt, nI_add, pk_mul, nI_1, zn_ltT, zn_ltF, zn_leT, zn_leF, zn_eqT, zn_eqF, zn_in, zn_cl, zn_sub, zn_upS, zn_upN, zn_upO, zn_z, zn_lt0, zn_le0, zn_0le, zn_m1, zn_in0, zn_in1, zn_cl0, zn_cl1, zn_g1, zn_1F, zn_1T, zn_zT, zn_1le, zn_lt1, zn_le1]
    refine hP i hi _ ?_
    refine z_go (cut := [17]) 60 ?_
    simp (maxSteps := 1000000) (disch := omega) only [z_wp, Bool.false_eq_true, ↓reduceIte, z_e10, z_e01, eq_self, Int32.reduceLT, Int32.reduceLE, Int32.reduceGT, Int32.reduceGE, z_in, cond_true, cond_false, Nat.reduceAdd, Nat.reduceBEq, z_nth, z_set, z_clr, z_st1, z_st2, z_isL, z_opt, z_pop, z_cats, z_cat, c_X10_tick_0, c_X10_tick_1, c_X10_tick_2, c_X10_tick_3, c_X10_tick_4, c_X10_tick_5, c_X10_tick_6, c_X10_tick_7, c_X10_tick_8, c_X10_tick_9, c_X10_tick_10, c_X10_tick_11, c_X10_tick_12, c_X10_tick_13, c_X10_tick_14, c_X10_tick_15, c_X10_tick_16, c_X10_tick_17, c_X10_tick_18, c_X10_tick_19, c_X10_tick_20, c_X10_tick_21, c_X10_tick_22, c_X10_tick_23, c_X10_tick_24, c_X10_tick_25, c_X10_tick_26, c_X10_tick_27, c_X10_tick_28, o_aload, o_bin, o_call, o_callv, o_getr, o_goto, o_iald, o_ic, o_icmp, o_if, o_iinc, o_iload, o_iret, o_istore, z_len, z_elt, z_isI, z_isJ, Nat.reduceEqDiff, Nat.reduceLeDiff, Nat.reduceLT, Nat.reduceSub, Nat.reduceMul, not_false_eq_true, not_true_eq_false, true_and, and_true, true_or, or_true, false_or, or_false, true_implies, false_implies, implies_true, forall_const, and_self, ne_eq, Classical.not_not, z_up2, z_cp2, z_upL1, z_upL2, if_true, if_false, and_false, false_and, ge_iff_le, gt_iff_lt, nI_add, pk_mul, nI_1, zn_ltT, zn_ltF, zn_leT, zn_leF, zn_eqT, zn_eqF, zn_in, zn_cl, zn_sub, zn_upS, zn_upN, zn_upO, zn_z, zn_lt0, zn_le0, zn_0le, zn_m1, zn_in0, zn_in1, zn_cl0, zn_cl1, zn_g1, zn_1F, zn_1T, zn_zT, zn_1le, zn_lt1, zn_le1]
    exact ih
noncomputable def m_ps (i : Nat) (J : zMem) : zMem := z_it (fun _ M => m_passE M 0) i J
theorem ticks_two {J Mr : zMem} {T c b : Nat} (h : SimZ z_F z_F J 0 Mr T c b) (hc : c < 2147480000) (tb : ∀ j, j < 221 → J.2 46 j = tC j) : ∀ m, m ≤ 40 → T + m ≤ 9999 → ∃ (B : Nat → zMem) (c' : Nat), B 0 = Mr ∧ c' ≤ c + 8 * m ∧ (∀ i, i < m → (∀ (h : Nat) (K : zK), K none (m_ps (i + 1) J) → z_call (h + 80) 105 [.inr (.inr (9, 0, 0))] (m_ps i J) K) ∧ (∀ (h : Nat) (K : zK), K none (B (i + 1)) → z_call (h + 80) 220 [.inr (.inr (11, 0, 0))] (B i) K)) ∧ z_fcw 0 J (m_ps m J) ∧ z_fr Mr (B m) ∧ SimZ z_F z_F (m_ps m J) 0 (B m) (T + m) c' (b + 4 * m)
  | 0, _, _ => ⟨fun _ => Mr, c, rfl, by omega, fun i hi => absurd hi (Nat.not_lt_zero i), fw_rf, fr_rf, h⟩
  | m + 1, hm, hT => by
    obtain ⟨B, c', b0, bc, bi, bf, br, bs⟩ := ticks_two h hc tb m (by omega) (by omega)
    obtain ⟨N', c2, a1, a2, a3, a4, a5, a6⟩ := pass_two bs (by omega) (by omega) (fun j hj => by rw [bf.2]; exact tb j hj)
    have eS : m_ps (m + 1) J = m_passE (m_ps m J) 0 := by
      unfold m_ps
      rw [z_itS]
    rw [eS]
    refine ⟨fun i => if i = m + 1 then N' else B i, c2, ?_, by omega, fun i hi => ?_, fw_tr bf a4, ?_, ?_⟩
    · dsimp only
      rw [if_neg (by omega)]
      exact b0
    · dsimp only
      by_cases e : i = m
      · subst e
        rw [if_neg (show ¬ i = i + 1 by omega), if_pos rfl, eS]
        exact ⟨a2, a3⟩
      · rw [if_neg (by omega), if_neg (by omega)]
        exact bi i (by omega)
    · dsimp only
      rw [if_pos rfl]
      exact fr_tr br a5
    · dsimp only
      rw [if_pos rfl]
      exact Sim_b a6 (by omega)
theorem two_tick {J : zMem} {b : Nat} {n : Int32} (h : SB J b) (hb : b < 2147000000) : z_two J 131 221 [.inl n] b := by
  obtain ⟨T, c, hT, hc, hs⟩ := h.1
  obtain ⟨t5, t0⟩ := Sim_t hs
  have tb := h.2.1.2
  by_cases bad : n < 1 ∨ nI 40 < n ∨ nI 9999 < nI T + n
  · refine two_q h (v := .inl (-1)) (fun _ K hK => s9_tick0 (by rw [t5]; exact bad) hK) (fun _ K hK => s_mTick0 ?_ hK)
    rw [t0]
    rcases bad with z | z | z
    · left
      unfold r_isIn
      exact if_neg (fun y => y.1 z)
    · left
      unfold r_isIn
      exact if_neg (fun y => y.2 z)
    · exact .inr z
  · have b1 : ¬ n < 1 := fun z => bad (.inl z)
    have b2 : ¬ nI 40 < n := fun z => bad (.inr (.inl z))
    have b3 : ¬ nI 9999 < nI T + n := fun z => bad (.inr (.inr z))
    have n0 : ¬ n < 0 := fun z => b1 (Int32.lt_trans z (by decide))
    obtain ⟨m, hm, rfl⟩ := nI_of n0
    have m1 : 1 ≤ m := by
      refine Classical.byContradiction (fun z => b1 ?_)
      rw [show m = 0 by omega]
      decide
    have m2 : m ≤ 40 := by
      refine Classical.byContradiction (fun z => b2 ?_)
      exact nI_lt (by omega) (by omega)
    have m3 : T + m ≤ 9999 := by
      refine Classical.byContradiction (fun z => b3 ?_)
      rw [nI_add]
      exact nI_lt (by omega) (by omega)
    have le : nI T + nI m ≤ nI 9999 := Int32.not_lt.mp b3
    obtain ⟨B1, c1, -, -, i1, f1, -, s1⟩ := ticks_two hs (by omega) tb m m2 m3
    have hs2 : SimZ z_F z_F J 0 (m_ps m J) T c b := Sim_fc hs (fw_0 f1)
    obtain ⟨B, c2, b0, bc, i2, -, br, s2⟩ := ticks_two hs2 (by omega) tb m m2 m3
    refine two_s (J2 := m_ps m J) (J3 := B m) h (v := .inl (nI (T + m))) (fun h' K hK => ?_) (fun h' K hK => ?_) (fw_0 f1) br ⟨T + m, c2, m3, by omega, Sim_b s2 (by omega)⟩
    · refine s9_tick (h := h' + 199) (F := fun i => m_ps i J) m1 m2 (by rw [t5]; exact le) rfl (fun i hi K2 q2 => (i1 i hi).1 (h' + 119) K2 q2) ?_
      rw [(Sim_t s1).1]
      exact hK
    · refine s_mTick (h := h' + 198) (F := B) m1 m2 ?_ b0 (fun i hi K2 q2 => (i2 i hi).2 (h' + 119) K2 q2) ?_
      · have := (Sim_t hs2).2
        rw [this]
        exact le
      · rw [(Sim_t s2).2]
        exact hK
