/-! the reference: bits, what is done, who is meant -/
theorem e_X10_lowest {h : Nat} {a0 : Int32} {M : zMem} {K : zK} (q : z_run (z_nop k_X10_lowest) (z_call h) K 0 [.inl a0] [] M) : z_call (h + 1) 192 [.inl a0] M K := ⟨by simp only [List.all_cons, List.all_nil, z_isU]; rfl, q⟩
theorem c_X10_lowest_0 : z_nop k_X10_lowest 0 = o_iload 0 := rfl
theorem c_X10_lowest_1 : z_nop k_X10_lowest 1 = o_ic (nI 32) := rfl
theorem c_X10_lowest_2 : z_nop k_X10_lowest 2 = o_icmp (fun x y => x < y) 5 := rfl
theorem c_X10_lowest_3 : z_nop k_X10_lowest 3 = o_ic (-1) := rfl
theorem c_X10_lowest_4 : z_nop k_X10_lowest 4 = o_goto 10 := rfl
theorem c_X10_lowest_5 : z_nop k_X10_lowest 5 = o_ic 1 := rfl
theorem c_X10_lowest_6 : z_nop k_X10_lowest 6 = o_iload 0 := rfl
theorem c_X10_lowest_7 : z_nop k_X10_lowest 7 = o_bin (fun x y => x <<< (y &&& 31)) := rfl
theorem c_X10_lowest_8 : z_nop k_X10_lowest 8 = o_ic 1 := rfl
theorem c_X10_lowest_9 : z_nop k_X10_lowest 9 = o_bin (fun x y => x - y) := rfl
theorem c_X10_lowest_10 : z_nop k_X10_lowest 10 = o_iret := rfl

def r_low (n : Int32) : Int32 := if n < nI 32 then 1 <<< (n &&& 31) - 1 else -1
set_option maxRecDepth 100000 in
theorem s_low {h : Nat} {M : zMem} {n : Int32} {K : zK} (q : K (some (.inl (r_low n))) M) : z_call (h + 1) 192 [.inl n] M K := by
  refine e_X10_lowest  ?_
  refine z_wp_run (cut := [5]) 13 _ _ _ _ ?_
  repeat' (first | (with_reducible refine And.intro ?_ ?_) | (with_reducible intro _) | (with_reducible refine z_go (i := 5) (cut := [5]) 13 ?_) | (simp (maxSteps := 1000000) (disch := omega) only [z_wp, Bool.false_eq_true, ↓reduceIte, z_e10, z_e01, eq_self, Int32.reduceLT, Int32.reduceLE, Int32.reduceGT, Int32.reduceGE, z_in, cond_true, cond_false, Nat.reduceAdd, Nat.reduceBEq, z_nth, z_set, z_clr, z_st1, z_st2, z_isL, z_opt, z_pop, z_cats, z_cat, c_X10_lowest_0, c_X10_lowest_1, c_X10_lowest_2, c_X10_lowest_3, c_X10_lowest_4, c_X10_lowest_5, c_X10_lowest_6, c_X10_lowest_7, c_X10_lowest_8, c_X10_lowest_9, c_X10_lowest_10, o_bin, o_goto, o_ic, o_icmp, o_iload, o_iret, z_len, z_elt, z_isI, z_isJ, Nat.reduceEqDiff, Nat.reduceLeDiff, Nat.reduceLT, Nat.reduceSub, Nat.reduceMul, not_false_eq_true, not_true_eq_false, true_and, and_true, true_or, or_true, false_or, or_false, true_implies, false_implies, implies_true, forall_const, and_self, ne_eq, Classical.not_not, z_up2, z_cp2, z_upL1, z_upL2, if_true, if_false, and_false, false_and, ge_iff_le, gt_iff_lt, nI_add, pk_mul, nI_1, zn_ltT, zn_ltF, zn_leT, zn_leF, zn_eqT, zn_eqF, zn_in, zn_cl, zn_sub, zn_upS, zn_upN, zn_upO, zn_z, zn_lt0, zn_le0, zn_0le, zn_m1, zn_in0, zn_in1, zn_cl0, zn_cl1, zn_g1, zn_1F, zn_1T, zn_zT, zn_1le, zn_lt1, zn_le1]))
  all_goals (first | (with_reducible exact q) | omega | ((try simp only [ge_iff_le, gt_iff_lt, ← Int32.not_lt, Classical.not_not] at *); (first | (with_reducible rfl) | ((try simp only [r_low] at q); (try simp only [ge_iff_le, gt_iff_lt, ← Int32.not_lt, Classical.not_not] at q); (try simp (disch := omega) only [*, zn_upS, zn_upN, zn_upO, if_true, if_false, ite_self, true_or, or_true, false_or, or_false, true_and, and_true, false_and, and_false, not_true_eq_false, not_false_eq_true, cond_true, cond_false, decide_true, decide_false, Bool.true_and, Bool.and_true, Bool.false_and, Bool.and_false, Bool.true_or, Bool.or_true, Bool.false_or, Bool.or_false, Bool.not_true, Bool.not_false, ne_eq, Nat.reduceEqDiff] at q); first | (with_reducible exact q) | omega))) | assumption | (unfold r_isIn; split <;> simp; done) | (unfold r_has; split <;> simp; done) | ((try simp only [r_low] at q); (repeat' (first | (with_reducible exact q) | split at q)); all_goals (first | (exfalso; omega) | (exfalso; simp_all; done))) | exact q)
theorem e_X10_bitsOf {h : Nat} {a0 : zId} {a1 : Int32} {a2 : Int32} {a3 : Int32} {M : zMem} {K : zK} (ha0 : (a0.1 == 99) = false) (q : z_run (z_nop k_X10_bitsOf) (z_call h) K 0 [.inr (.inr a0), .inl a1, .inl a2, .inl a3] [] M) : z_call (h + 1) 193 [.inr (.inr a0), .inl a1, .inl a2, .inl a3] M K := ⟨by simp only [List.all_cons, List.all_nil, z_isU, ha0]; rfl, q⟩
theorem c_X10_bitsOf_0 : z_nop k_X10_bitsOf 0 = o_iload 3 := rfl
theorem c_X10_bitsOf_1 : z_nop k_X10_bitsOf 1 = o_if (fun x => x ≠ 0) 4 := rfl
theorem c_X10_bitsOf_2 : z_nop k_X10_bitsOf 2 = o_ic 0 := rfl
theorem c_X10_bitsOf_3 : z_nop k_X10_bitsOf 3 = o_goto 19 := rfl
theorem c_X10_bitsOf_4 : z_nop k_X10_bitsOf 4 = o_aload 0 := rfl
theorem c_X10_bitsOf_5 : z_nop k_X10_bitsOf 5 = o_getr 11 (fun w i => (24, 0, 0)) := rfl
theorem c_X10_bitsOf_6 : z_nop k_X10_bitsOf 6 = o_ic (nI 478) := rfl
theorem c_X10_bitsOf_7 : z_nop k_X10_bitsOf 7 = o_iload 1 := rfl
theorem c_X10_bitsOf_8 : z_nop k_X10_bitsOf 8 = o_bin (fun x y => x + y) := rfl
theorem c_X10_bitsOf_9 : z_nop k_X10_bitsOf 9 = o_iald := rfl
theorem c_X10_bitsOf_10 : z_nop k_X10_bitsOf 10 = o_ic (nI 32) := rfl
theorem c_X10_bitsOf_11 : z_nop k_X10_bitsOf 11 = o_iload 2 := rfl
theorem c_X10_bitsOf_12 : z_nop k_X10_bitsOf 12 = o_bin (fun x y => x - y) := rfl
theorem c_X10_bitsOf_13 : z_nop k_X10_bitsOf 13 = o_iload 3 := rfl
theorem c_X10_bitsOf_14 : z_nop k_X10_bitsOf 14 = o_bin (fun x y => x - y) := rfl
theorem c_X10_bitsOf_15 : z_nop k_X10_bitsOf 15 = o_bin (fun x y => (x.toUInt32 >>> (y.toUInt32 &&& Int32.toUInt32 31)).toInt32) := rfl
theorem c_X10_bitsOf_16 : z_nop k_X10_bitsOf 16 = o_iload 3 := rfl
theorem c_X10_bitsOf_17 : z_nop k_X10_bitsOf 17 = o_call 192 1 := rfl
theorem c_X10_bitsOf_18 : z_nop k_X10_bitsOf 18 = o_bin (fun x y => x &&& y) := rfl
theorem c_X10_bitsOf_19 : z_nop k_X10_bitsOf 19 = o_iret := rfl

def r_mBits (M : zMem) (t : Nat) (p n : Int32) : Int32 := if n = 0 then 0 else z_ush (M.1 24 0 0 (478 + t)) (nI 32 - p - n) &&& r_low n
set_option maxRecDepth 100000 in
theorem s_mBits {h t : Nat} {M : zMem} {p n : Int32} {K : zK} (ht : t < 24) (q : K (some (.inl (r_mBits M t p n))) M) : z_call (h + 2) 193 [.inr (.inr (11, 0, 0)), .inl (nI t), .inl p, .inl n] M K := by
  unfold r_mBits z_ush at q
  refine e_X10_bitsOf rfl ?_
  refine z_wp_run (cut := [4, 18]) 22 _ _ _ _ ?_
  repeat' (first | (with_reducible refine And.intro ?_ ?_) | (with_reducible intro _) | (refine s_low ?_) | (with_reducible refine z_go (i := 4) (cut := [4, 18]) 22 ?_) | (with_reducible refine z_go (i := 18) (cut := [4, 18]) 22 ?_) | (simp (maxSteps := 1000000) (disch := omega) only [z_wp, Bool.false_eq_true, ↓reduceIte, z_e10, z_e01, eq_self, Int32.reduceLT, Int32.reduceLE, Int32.reduceGT, Int32.reduceGE, z_in, cond_true, cond_false, Nat.reduceAdd, Nat.reduceBEq, z_nth, z_set, z_clr, z_st1, z_st2, z_isL, z_opt, z_pop, z_cats, z_cat, c_X10_bitsOf_0, c_X10_bitsOf_1, c_X10_bitsOf_2, c_X10_bitsOf_3, c_X10_bitsOf_4, c_X10_bitsOf_5, c_X10_bitsOf_6, c_X10_bitsOf_7, c_X10_bitsOf_8, c_X10_bitsOf_9, c_X10_bitsOf_10, c_X10_bitsOf_11, c_X10_bitsOf_12, c_X10_bitsOf_13, c_X10_bitsOf_14, c_X10_bitsOf_15, c_X10_bitsOf_16, c_X10_bitsOf_17, c_X10_bitsOf_18, c_X10_bitsOf_19, o_aload, o_bin, o_call, o_getr, o_goto, o_iald, o_ic, o_if, o_iload, o_iret, z_len, z_elt, z_isI, z_isJ, Nat.reduceEqDiff, Nat.reduceLeDiff, Nat.reduceLT, Nat.reduceSub, Nat.reduceMul, not_false_eq_true, not_true_eq_false, true_and, and_true, true_or, or_true, false_or, or_false, true_implies, false_implies, implies_true, forall_const, and_self, ne_eq, Classical.not_not, z_up2, z_cp2, z_upL1, z_upL2, if_true, if_false, and_false, false_and, ge_iff_le, gt_iff_lt, nI_add, pk_mul, nI_1, zn_ltT, zn_ltF, zn_leT, zn_leF, zn_eqT, zn_eqF, zn_in, zn_cl, zn_sub, zn_upS, zn_upN, zn_upO, zn_z, zn_lt0, zn_le0, zn_0le, zn_m1, zn_in0, zn_in1, zn_cl0, zn_cl1, zn_g1, zn_1F, zn_1T, zn_zT, zn_1le, zn_lt1, zn_le1]))
  all_goals (first | (with_reducible exact q) | omega | ((try simp only [ge_iff_le, gt_iff_lt, ← Int32.not_lt, Classical.not_not] at *); (first | (with_reducible rfl) | ((try simp only [ge_iff_le, gt_iff_lt, ← Int32.not_lt, Classical.not_not] at q); (try simp (disch := omega) only [*, zn_upS, zn_upN, zn_upO, if_true, if_false, ite_self, true_or, or_true, false_or, or_false, true_and, and_true, false_and, and_false, not_true_eq_false, not_false_eq_true, cond_true, cond_false, decide_true, decide_false, Bool.true_and, Bool.and_true, Bool.false_and, Bool.and_false, Bool.true_or, Bool.or_true, Bool.false_or, Bool.or_false, Bool.not_true, Bool.not_false, ne_eq, Nat.reduceEqDiff] at q); first | (with_reducible exact q) | omega))) | assumption | (unfold r_isIn; split <;> simp; done) | (unfold r_has; split <;> simp; done) | ((repeat' (first | (with_reducible exact q) | split at q)); all_goals (first | (exfalso; omega) | (exfalso; simp_all; done))) | exact q)
theorem e_X10_isIdle {h : Nat} {a0 : zId} {a1 : Int32} {M : zMem} {K : zK} (ha0 : (a0.1 == 99) = false) (q : z_run (z_nop k_X10_isIdle) (z_call h) K 0 [.inr (.inr a0), .inl a1] [] M) : z_call (h + 1) 194 [.inr (.inr a0), .inl a1] M K := ⟨by simp only [List.all_cons, List.all_nil, z_isU, ha0]; rfl, q⟩
theorem c_X10_isIdle_0 : z_nop k_X10_isIdle 0 = o_iload 1 := rfl
theorem c_X10_isIdle_1 : z_nop k_X10_isIdle 1 = o_call 166 1 := rfl
theorem c_X10_isIdle_2 : z_nop k_X10_isIdle 2 = o_if (fun x => x = 0) 20 := rfl
theorem c_X10_isIdle_3 : z_nop k_X10_isIdle 3 = o_aload 0 := rfl
theorem c_X10_isIdle_4 : z_nop k_X10_isIdle 4 = o_getr 11 (fun w i => (24, 0, 0)) := rfl
theorem c_X10_isIdle_5 : z_nop k_X10_isIdle 5 = o_ic (nI 262) := rfl
theorem c_X10_isIdle_6 : z_nop k_X10_isIdle 6 = o_iload 1 := rfl
theorem c_X10_isIdle_7 : z_nop k_X10_isIdle 7 = o_bin (fun x y => x + y) := rfl
theorem c_X10_isIdle_8 : z_nop k_X10_isIdle 8 = o_iald := rfl
theorem c_X10_isIdle_9 : z_nop k_X10_isIdle 9 = o_ic 1 := rfl
theorem c_X10_isIdle_10 : z_nop k_X10_isIdle 10 = o_icmp (fun x y => x ≠ y) 20 := rfl
theorem c_X10_isIdle_11 : z_nop k_X10_isIdle 11 = o_aload 0 := rfl
theorem c_X10_isIdle_12 : z_nop k_X10_isIdle 12 = o_getr 11 (fun w i => (24, 0, 0)) := rfl
theorem c_X10_isIdle_13 : z_nop k_X10_isIdle 13 = o_ic (nI 278) := rfl
theorem c_X10_isIdle_14 : z_nop k_X10_isIdle 14 = o_iload 1 := rfl
theorem c_X10_isIdle_15 : z_nop k_X10_isIdle 15 = o_bin (fun x y => x + y) := rfl
theorem c_X10_isIdle_16 : z_nop k_X10_isIdle 16 = o_iald := rfl
theorem c_X10_isIdle_17 : z_nop k_X10_isIdle 17 = o_if (fun x => x ≠ 0) 20 := rfl
theorem c_X10_isIdle_18 : z_nop k_X10_isIdle 18 = o_ic 1 := rfl
theorem c_X10_isIdle_19 : z_nop k_X10_isIdle 19 = o_goto 21 := rfl
theorem c_X10_isIdle_20 : z_nop k_X10_isIdle 20 = o_ic 0 := rfl
theorem c_X10_isIdle_21 : z_nop k_X10_isIdle 21 = o_zret := rfl

def r_idle (M : zMem) (r : Int32) : Int32 := if r_isIn r 0 3 = 0 then 0 else if (M.1 24 0 0 (262 + r.toNatClampNeg)) = 1 ∧ (M.1 24 0 0 (278 + r.toNatClampNeg)) = 0 then 1 else 0
set_option maxRecDepth 100000 in
theorem s_idle {h : Nat} {M : zMem} {r : Int32} {K : zK} (q : K (some (.inl (r_idle M r))) M) : z_call (h + 3) 194 [.inr (.inr (11, 0, 0)), .inl r] M K := by
  unfold r_idle at q
  refine e_X10_isIdle rfl ?_
  refine z_wp_run (cut := [2]) 60 _ _ _ _ ?_
  simp (maxSteps := 1000000) (disch := omega) only [z_wp, Bool.false_eq_true, ↓reduceIte, z_e10, z_e01, eq_self, Int32.reduceLT, Int32.reduceLE, Int32.reduceGT, Int32.reduceGE, z_in, cond_true, cond_false, Nat.reduceAdd, Nat.reduceBEq, z_nth, z_set, z_clr, z_st1, z_st2, z_isL, z_opt, z_pop, z_cats, z_cat, c_X10_isIdle_0, c_X10_isIdle_1, c_X10_isIdle_2, c_X10_isIdle_3, c_X10_isIdle_4, c_X10_isIdle_5, c_X10_isIdle_6, c_X10_isIdle_7, c_X10_isIdle_8, c_X10_isIdle_9, c_X10_isIdle_10, c_X10_isIdle_11, c_X10_isIdle_12, c_X10_isIdle_13, c_X10_isIdle_14, c_X10_isIdle_15, c_X10_isIdle_16, c_X10_isIdle_17, c_X10_isIdle_18, c_X10_isIdle_19, c_X10_isIdle_20, c_X10_isIdle_21, o_aload, o_bin, o_call, o_getr, o_goto, o_iald, o_ic, o_icmp, o_if, o_iload, o_zret, z_len, z_elt, z_isI, z_isJ, Nat.reduceEqDiff, Nat.reduceLeDiff, Nat.reduceLT, Nat.reduceSub, Nat.reduceMul, not_false_eq_true, not_true_eq_false, true_and, and_true, true_or, or_true, false_or, or_false, true_implies, false_implies, implies_true, forall_const, and_self, ne_eq, Classical.not_not, z_up2, z_cp2, z_upL1, z_upL2, if_true, if_false, and_false, false_and, ge_iff_le, gt_iff_lt, nI_add, pk_mul, nI_1, zn_ltT, zn_ltF, zn_leT, zn_leF, zn_eqT, zn_eqF, zn_in, zn_cl, zn_sub, zn_upS, zn_upN, zn_upO, zn_z, zn_lt0, zn_le0, zn_0le, zn_m1, zn_in0, zn_in1, zn_cl0, zn_cl1, zn_g1, zn_1F, zn_1T, zn_zT, zn_1le, zn_lt1, zn_le1]
  refine s_isReader ?_
  refine z_go (cut := [3, 20]) 60 ?_
  simp (maxSteps := 1000000) (disch := omega) only [z_wp, Bool.false_eq_true, ↓reduceIte, z_e10, z_e01, eq_self, Int32.reduceLT, Int32.reduceLE, Int32.reduceGT, Int32.reduceGE, z_in, cond_true, cond_false, Nat.reduceAdd, Nat.reduceBEq, z_nth, z_set, z_clr, z_st1, z_st2, z_isL, z_opt, z_pop, z_cats, z_cat, c_X10_isIdle_0, c_X10_isIdle_1, c_X10_isIdle_2, c_X10_isIdle_3, c_X10_isIdle_4, c_X10_isIdle_5, c_X10_isIdle_6, c_X10_isIdle_7, c_X10_isIdle_8, c_X10_isIdle_9, c_X10_isIdle_10, c_X10_isIdle_11, c_X10_isIdle_12, c_X10_isIdle_13, c_X10_isIdle_14, c_X10_isIdle_15, c_X10_isIdle_16, c_X10_isIdle_17, c_X10_isIdle_18, c_X10_isIdle_19, c_X10_isIdle_20, c_X10_isIdle_21, o_aload, o_bin, o_call, o_getr, o_goto, o_iald, o_ic, o_icmp, o_if, o_iload, o_zret, z_len, z_elt, z_isI, z_isJ, Nat.reduceEqDiff, Nat.reduceLeDiff, Nat.reduceLT, Nat.reduceSub, Nat.reduceMul, not_false_eq_true, not_true_eq_false, true_and, and_true, true_or, or_true, false_or, or_false, true_implies, false_implies, implies_true, forall_const, and_self, ne_eq, Classical.not_not, z_up2, z_cp2, z_upL1, z_upL2, if_true, if_false, and_false, false_and, ge_iff_le, gt_iff_lt, nI_add, pk_mul, nI_1, zn_ltT, zn_ltF, zn_leT, zn_leF, zn_eqT, zn_eqF, zn_in, zn_cl, zn_sub, zn_upS, zn_upN, zn_upO, zn_z, zn_lt0, zn_le0, zn_0le, zn_m1, zn_in0, zn_in1, zn_cl0, zn_cl1, zn_g1, zn_1F, zn_1T, zn_zT, zn_1le, zn_lt1, zn_le1]
  refine ⟨fun c => ?_, fun c => ?_⟩
  · rw [if_pos c] at q
    refine z_go (cut := []) 60 ?_
    simp (maxSteps := 1000000) (disch := omega) only [z_wp, Bool.false_eq_true, ↓reduceIte, z_e10, z_e01, eq_self, Int32.reduceLT, Int32.reduceLE, Int32.reduceGT, Int32.reduceGE, z_in, cond_true, cond_false, Nat.reduceAdd, Nat.reduceBEq, z_nth, z_set, z_clr, z_st1, z_st2, z_isL, z_opt, z_pop, z_cats, z_cat, c_X10_isIdle_0, c_X10_isIdle_1, c_X10_isIdle_2, c_X10_isIdle_3, c_X10_isIdle_4, c_X10_isIdle_5, c_X10_isIdle_6, c_X10_isIdle_7, c_X10_isIdle_8, c_X10_isIdle_9, c_X10_isIdle_10, c_X10_isIdle_11, c_X10_isIdle_12, c_X10_isIdle_13, c_X10_isIdle_14, c_X10_isIdle_15, c_X10_isIdle_16, c_X10_isIdle_17, c_X10_isIdle_18, c_X10_isIdle_19, c_X10_isIdle_20, c_X10_isIdle_21, o_aload, o_bin, o_call, o_getr, o_goto, o_iald, o_ic, o_icmp, o_if, o_iload, o_zret, z_len, z_elt, z_isI, z_isJ, Nat.reduceEqDiff, Nat.reduceLeDiff, Nat.reduceLT, Nat.reduceSub, Nat.reduceMul, not_false_eq_true, not_true_eq_false, true_and, and_true, true_or, or_true, false_or, or_false, true_implies, false_implies, implies_true, forall_const, and_self, ne_eq, Classical.not_not, z_up2, z_cp2, z_upL1, z_upL2, if_true, if_false, and_false, false_and, ge_iff_le, gt_iff_lt, nI_add, pk_mul, nI_1, zn_ltT, zn_ltF, zn_leT, zn_leF, zn_eqT, zn_eqF, zn_in, zn_cl, zn_sub, zn_upS, zn_upN, zn_upO, zn_z, zn_lt0, zn_le0, zn_0le, zn_m1, zn_in0, zn_in1, zn_cl0, zn_cl1, zn_g1, zn_1F, zn_1T, zn_zT, zn_1le, zn_lt1, zn_le1]
    exact q
  · rw [if_neg c] at q
    obtain ⟨j, hj, rfl⟩ := z_isIn1 (N := 3) (by decide) rfl c
    rw [nI_clamp (by omega)] at q
    have no : ¬ ((M.1 24 0 0 (262 + j)) = 1 ∧ (M.1 24 0 0 (278 + j)) = 0) → z_run (z_nop k_X10_isIdle) (z_call (h + 2)) K 20 [.inr (.inr (11, 0, 0)), .inl (nI j)] [] M := by
      intro c1
      rw [if_neg c1] at q
      refine z_go (cut := []) 60 ?_
      simp (maxSteps := 1000000) (disch := omega) only [z_wp, Bool.false_eq_true, ↓reduceIte, z_e10, z_e01, eq_self, Int32.reduceLT, Int32.reduceLE, Int32.reduceGT, Int32.reduceGE, z_in, cond_true, cond_false, Nat.reduceAdd, Nat.reduceBEq, z_nth, z_set, z_clr, z_st1, z_st2, z_isL, z_opt, z_pop, z_cats, z_cat, c_X10_isIdle_0, c_X10_isIdle_1, c_X10_isIdle_2, c_X10_isIdle_3, c_X10_isIdle_4, c_X10_isIdle_5, c_X10_isIdle_6, c_X10_isIdle_7, c_X10_isIdle_8, c_X10_isIdle_9, c_X10_isIdle_10, c_X10_isIdle_11, c_X10_isIdle_12, c_X10_isIdle_13, c_X10_isIdle_14, c_X10_isIdle_15, c_X10_isIdle_16, c_X10_isIdle_17, c_X10_isIdle_18, c_X10_isIdle_19, c_X10_isIdle_20, c_X10_isIdle_21, o_aload, o_bin, o_call, o_getr, o_goto, o_iald, o_ic, o_icmp, o_if, o_iload, o_zret, z_len, z_elt, z_isI, z_isJ, Nat.reduceEqDiff, Nat.reduceLeDiff, Nat.reduceLT, Nat.reduceSub, Nat.reduceMul, not_false_eq_true, not_true_eq_false, true_and, and_true, true_or, or_true, false_or, or_false, true_implies, false_implies, implies_true, forall_const, and_self, ne_eq, Classical.not_not, z_up2, z_cp2, z_upL1, z_upL2, if_true, if_false, and_false, false_and, ge_iff_le, gt_iff_lt, nI_add, pk_mul, nI_1, zn_ltT, zn_ltF, zn_leT, zn_leF, zn_eqT, zn_eqF, zn_in, zn_cl, zn_sub, zn_upS, zn_upN, zn_upO, zn_z, zn_lt0, zn_le0, zn_0le, zn_m1, zn_in0, zn_in1, zn_cl0, zn_cl1, zn_g1, zn_1F, zn_1T, zn_zT, zn_1le, zn_lt1, zn_le1]
      exact q
    refine z_go (cut := [20]) 60 ?_
    simp (maxSteps := 1000000) (disch := omega) only [z_wp, Bool.false_eq_true, ↓reduceIte, z_e10, z_e01, eq_self, Int32.reduceLT, Int32.reduceLE, Int32.reduceGT, Int32.reduceGE, z_in, cond_true, cond_false, Nat.reduceAdd, Nat.reduceBEq, z_nth, z_set, z_clr, z_st1, z_st2, z_isL, z_opt, z_pop, z_cats, z_cat, c_X10_isIdle_0, c_X10_isIdle_1, c_X10_isIdle_2, c_X10_isIdle_3, c_X10_isIdle_4, c_X10_isIdle_5, c_X10_isIdle_6, c_X10_isIdle_7, c_X10_isIdle_8, c_X10_isIdle_9, c_X10_isIdle_10, c_X10_isIdle_11, c_X10_isIdle_12, c_X10_isIdle_13, c_X10_isIdle_14, c_X10_isIdle_15, c_X10_isIdle_16, c_X10_isIdle_17, c_X10_isIdle_18, c_X10_isIdle_19, c_X10_isIdle_20, c_X10_isIdle_21, o_aload, o_bin, o_call, o_getr, o_goto, o_iald, o_ic, o_icmp, o_if, o_iload, o_zret, z_len, z_elt, z_isI, z_isJ, Nat.reduceEqDiff, Nat.reduceLeDiff, Nat.reduceLT, Nat.reduceSub, Nat.reduceMul, not_false_eq_true, not_true_eq_false, true_and, and_true, true_or, or_true, false_or, or_false, true_implies, false_implies, implies_true, forall_const, and_self, ne_eq, Classical.not_not, z_up2, z_cp2, z_upL1, z_upL2, if_true, if_false, and_false, false_and, ge_iff_le, gt_iff_lt, nI_add, pk_mul, nI_1, zn_ltT, zn_ltF, zn_leT, zn_leF, zn_eqT, zn_eqF, zn_in, zn_cl, zn_sub, zn_upS, zn_upN, zn_upO, zn_z, zn_lt0, zn_le0, zn_0le, zn_m1, zn_in0, zn_in1, zn_cl0, zn_cl1, zn_g1, zn_1F, zn_1T, zn_zT, zn_1le, zn_lt1, zn_le1]
    refine ⟨fun c1 => no (fun z => c1 z.1), fun c1 => ⟨fun c2 => no (fun z => c2 z.2), fun c2 => ?_⟩⟩
    rw [if_pos ⟨c1, c2⟩] at q
    exact q
theorem e_X10_deed {h : Nat} {a0 : Int32} {a1 : Int32} {M : zMem} {K : zK} (q : z_run (z_nop k_X10_deed) (z_call h) K 0 [.inl a0, .inl a1] [] M) : z_call (h + 1) 195 [.inl a0, .inl a1] M K := ⟨by simp only [List.all_cons, List.all_nil, z_isU]; rfl, q⟩
theorem c_X10_deed_0 : z_nop k_X10_deed 0 = o_iload 0 := rfl
theorem c_X10_deed_1 : z_nop k_X10_deed 1 = o_tsw 0 [2, 8, 14, 20, 26, 32, 38] 44 := rfl
theorem c_X10_deed_2 : z_nop k_X10_deed 2 = o_iload 1 := rfl
theorem c_X10_deed_3 : z_nop k_X10_deed 3 = o_if (fun x => x = 0) 6 := rfl
theorem c_X10_deed_4 : z_nop k_X10_deed 4 = o_ic 1 := rfl
theorem c_X10_deed_5 : z_nop k_X10_deed 5 = o_goto 7 := rfl
theorem c_X10_deed_6 : z_nop k_X10_deed 6 = o_ic 0 := rfl
theorem c_X10_deed_7 : z_nop k_X10_deed 7 = o_iret := rfl
theorem c_X10_deed_8 : z_nop k_X10_deed 8 = o_iload 1 := rfl
theorem c_X10_deed_9 : z_nop k_X10_deed 9 = o_if (fun x => x = 0) 12 := rfl
theorem c_X10_deed_10 : z_nop k_X10_deed 10 = o_ic 1 := rfl
theorem c_X10_deed_11 : z_nop k_X10_deed 11 = o_goto 13 := rfl
theorem c_X10_deed_12 : z_nop k_X10_deed 12 = o_ic (nI 3) := rfl
theorem c_X10_deed_13 : z_nop k_X10_deed 13 = o_iret := rfl
theorem c_X10_deed_14 : z_nop k_X10_deed 14 = o_iload 1 := rfl
theorem c_X10_deed_15 : z_nop k_X10_deed 15 = o_if (fun x => x = 0) 18 := rfl
theorem c_X10_deed_16 : z_nop k_X10_deed 16 = o_ic (nI 3) := rfl
theorem c_X10_deed_17 : z_nop k_X10_deed 17 = o_goto 19 := rfl
theorem c_X10_deed_18 : z_nop k_X10_deed 18 = o_ic 0 := rfl
theorem c_X10_deed_19 : z_nop k_X10_deed 19 = o_iret := rfl
theorem c_X10_deed_20 : z_nop k_X10_deed 20 = o_iload 1 := rfl
theorem c_X10_deed_21 : z_nop k_X10_deed 21 = o_if (fun x => x = 0) 24 := rfl
theorem c_X10_deed_22 : z_nop k_X10_deed 22 = o_ic (nI 2) := rfl
theorem c_X10_deed_23 : z_nop k_X10_deed 23 = o_goto 25 := rfl
theorem c_X10_deed_24 : z_nop k_X10_deed 24 = o_ic (nI 3) := rfl
theorem c_X10_deed_25 : z_nop k_X10_deed 25 = o_iret := rfl
theorem c_X10_deed_26 : z_nop k_X10_deed 26 = o_iload 1 := rfl
theorem c_X10_deed_27 : z_nop k_X10_deed 27 = o_if (fun x => x = 0) 30 := rfl
theorem c_X10_deed_28 : z_nop k_X10_deed 28 = o_ic 0 := rfl
theorem c_X10_deed_29 : z_nop k_X10_deed 29 = o_goto 31 := rfl
theorem c_X10_deed_30 : z_nop k_X10_deed 30 = o_ic 1 := rfl
theorem c_X10_deed_31 : z_nop k_X10_deed 31 = o_iret := rfl
theorem c_X10_deed_32 : z_nop k_X10_deed 32 = o_iload 1 := rfl
theorem c_X10_deed_33 : z_nop k_X10_deed 33 = o_if (fun x => x = 0) 36 := rfl
theorem c_X10_deed_34 : z_nop k_X10_deed 34 = o_ic 0 := rfl
theorem c_X10_deed_35 : z_nop k_X10_deed 35 = o_goto 37 := rfl
theorem c_X10_deed_36 : z_nop k_X10_deed 36 = o_ic (nI 3) := rfl
theorem c_X10_deed_37 : z_nop k_X10_deed 37 = o_iret := rfl
theorem c_X10_deed_38 : z_nop k_X10_deed 38 = o_iload 1 := rfl
theorem c_X10_deed_39 : z_nop k_X10_deed 39 = o_if (fun x => x = 0) 42 := rfl
theorem c_X10_deed_40 : z_nop k_X10_deed 40 = o_ic (nI 3) := rfl
theorem c_X10_deed_41 : z_nop k_X10_deed 41 = o_goto 43 := rfl
theorem c_X10_deed_42 : z_nop k_X10_deed 42 = o_ic 1 := rfl
theorem c_X10_deed_43 : z_nop k_X10_deed 43 = o_iret := rfl
theorem c_X10_deed_44 : z_nop k_X10_deed 44 = o_iload 1 := rfl
theorem c_X10_deed_45 : z_nop k_X10_deed 45 = o_if (fun x => x = 0) 48 := rfl
theorem c_X10_deed_46 : z_nop k_X10_deed 46 = o_ic (nI 3) := rfl
theorem c_X10_deed_47 : z_nop k_X10_deed 47 = o_goto 49 := rfl
theorem c_X10_deed_48 : z_nop k_X10_deed 48 = o_ic (nI 2) := rfl
theorem c_X10_deed_49 : z_nop k_X10_deed 49 = o_iret := rfl

def r_deed (a : Nat) (b : Int32) : Int32 :=
  if b = 0 then ([0, nI 3, 0, nI 3, 1, nI 3, 1, nI 2] : List Int32).getD a 0 else ([1, 1, nI 3, nI 2, 0, 0, nI 3, nI 3] : List Int32).getD a 0
theorem z_on0 : Int32.ofInt 0 = nI 0 := rfl
theorem z_on1 : Int32.ofInt 1 = nI 1 := rfl
theorem z_on2 : Int32.ofInt 2 = nI 2 := rfl
theorem z_on3 : Int32.ofInt 3 = nI 3 := rfl
theorem z_on4 : Int32.ofInt 4 = nI 4 := rfl
theorem z_on5 : Int32.ofInt 5 = nI 5 := rfl
theorem z_on6 : Int32.ofInt 6 = nI 6 := rfl
theorem z_on7 : Int32.ofInt 7 = nI 7 := rfl
set_option maxRecDepth 100000 in
theorem s_deed0 {h : Nat} {M : zMem} {b : Int32} {K : zK} (q : K (some (.inl (r_deed 0 b))) M) : z_call (h + 1) 195 [.inl (nI 0), .inl b] M K := by
  have at1 : z_run (z_nop k_X10_deed) (z_call h) K 2 [.inl (nI 0), .inl b] [] M := by
    unfold r_deed at q
    refine z_go (cut := []) 60 ?_
    simp (maxSteps := 1000000) (disch := omega) only [z_wp, Bool.false_eq_true, ↓reduceIte, z_e10, z_e01, eq_self, Int32.reduceLT, Int32.reduceLE, Int32.reduceGT, Int32.reduceGE, z_in, cond_true, cond_false, Nat.reduceAdd, Nat.reduceBEq, z_nth, z_set, z_clr, z_st1, z_st2, z_isL, z_opt, z_pop, z_cats, z_cat, c_X10_deed_0, c_X10_deed_1, c_X10_deed_2, c_X10_deed_3, c_X10_deed_4, c_X10_deed_5, c_X10_deed_6, c_X10_deed_7, c_X10_deed_8, c_X10_deed_9, c_X10_deed_10, c_X10_deed_11, c_X10_deed_12, c_X10_deed_13, c_X10_deed_14, c_X10_deed_15, c_X10_deed_16, c_X10_deed_17, c_X10_deed_18, c_X10_deed_19, c_X10_deed_20, c_X10_deed_21, c_X10_deed_22, c_X10_deed_23, c_X10_deed_24, c_X10_deed_25, c_X10_deed_26, c_X10_deed_27, c_X10_deed_28, c_X10_deed_29, c_X10_deed_30, c_X10_deed_31, c_X10_deed_32, c_X10_deed_33, c_X10_deed_34, c_X10_deed_35, c_X10_deed_36, c_X10_deed_37, c_X10_deed_38, c_X10_deed_39, c_X10_deed_40, c_X10_deed_41, c_X10_deed_42, c_X10_deed_43, c_X10_deed_44, c_X10_deed_45, c_X10_deed_46, c_X10_deed_47, c_X10_deed_48, c_X10_deed_49, o_goto, o_ic, o_if, o_iload, o_iret, o_tsw, z_len, z_elt, z_isI, z_isJ, Nat.reduceEqDiff, Nat.reduceLeDiff, Nat.reduceLT, Nat.reduceSub, Nat.reduceMul, not_false_eq_true, not_true_eq_false, true_and, and_true, true_or, or_true, false_or, or_false, true_implies, false_implies, implies_true, forall_const, and_self, ne_eq, Classical.not_not, z_up2, z_cp2, z_upL1, z_upL2, if_true, if_false, and_false, false_and, ge_iff_le, gt_iff_lt, nI_add, pk_mul, nI_1, zn_ltT, zn_ltF, zn_leT, zn_leF, zn_eqT, zn_eqF, zn_in, zn_cl, zn_sub, zn_upS, zn_upN, zn_upO, zn_z, zn_lt0, zn_le0, zn_0le, zn_m1, zn_in0, zn_in1, zn_cl0, zn_cl1, zn_g1, zn_1F, zn_1T, zn_zT, zn_1le, zn_lt1, zn_le1]
    refine ⟨fun c => ?_, fun c => ?_⟩
    · rw [if_pos c] at q
      exact q
    · rw [if_neg c] at q
      exact q
  refine e_X10_deed ?_
  refine z_wp_run (cut := [2, 8, 14, 20, 26, 32, 38, 44]) 60 _ _ _ _ ?_
  simp (maxSteps := 1000000) (disch := omega) only [z_wp, Bool.false_eq_true, ↓reduceIte, z_e10, z_e01, eq_self, Int32.reduceLT, Int32.reduceLE, Int32.reduceGT, Int32.reduceGE, z_in, cond_true, cond_false, Nat.reduceAdd, Nat.reduceBEq, z_nth, z_set, z_clr, z_st1, z_st2, z_isL, z_opt, z_pop, z_cats, z_cat, c_X10_deed_0, c_X10_deed_1, c_X10_deed_2, c_X10_deed_3, c_X10_deed_4, c_X10_deed_5, c_X10_deed_6, c_X10_deed_7, c_X10_deed_8, c_X10_deed_9, c_X10_deed_10, c_X10_deed_11, c_X10_deed_12, c_X10_deed_13, c_X10_deed_14, c_X10_deed_15, c_X10_deed_16, c_X10_deed_17, c_X10_deed_18, c_X10_deed_19, c_X10_deed_20, c_X10_deed_21, c_X10_deed_22, c_X10_deed_23, c_X10_deed_24, c_X10_deed_25, c_X10_deed_26, c_X10_deed_27, c_X10_deed_28, c_X10_deed_29, c_X10_deed_30, c_X10_deed_31, c_X10_deed_32, c_X10_deed_33, c_X10_deed_34, c_X10_deed_35, c_X10_deed_36, c_X10_deed_37, c_X10_deed_38, c_X10_deed_39, c_X10_deed_40, c_X10_deed_41, c_X10_deed_42, c_X10_deed_43, c_X10_deed_44, c_X10_deed_45, c_X10_deed_46, c_X10_deed_47, c_X10_deed_48, c_X10_deed_49, o_goto, o_ic, o_if, o_iload, o_iret, o_tsw, z_len, z_elt, z_isI, z_isJ, Nat.reduceEqDiff, Nat.reduceLeDiff, Nat.reduceLT, Nat.reduceSub, Nat.reduceMul, not_false_eq_true, not_true_eq_false, true_and, and_true, true_or, or_true, false_or, or_false, true_implies, false_implies, implies_true, forall_const, and_self, ne_eq, Classical.not_not, z_up2, z_cp2, z_upL1, z_upL2, if_true, if_false, and_false, false_and, ge_iff_le, gt_iff_lt, nI_add, pk_mul, nI_1, zn_ltT, zn_ltF, zn_leT, zn_leF, zn_eqT, zn_eqF, zn_in, zn_cl, zn_sub, zn_upS, zn_upN, zn_upO, zn_z, zn_lt0, zn_le0, zn_0le, zn_m1, zn_in0, zn_in1, zn_cl0, zn_cl1, zn_g1, zn_1F, zn_1T, zn_zT, zn_1le, zn_lt1, zn_le1, z_cases, Int.reduceAdd, z_on0, z_on1, z_on2, z_on3, z_on4, z_on5, z_on6, z_on7]
  exact at1
set_option maxRecDepth 100000 in
theorem s_deed1 {h : Nat} {M : zMem} {b : Int32} {K : zK} (q : K (some (.inl (r_deed 1 b))) M) : z_call (h + 1) 195 [.inl (nI 1), .inl b] M K := by
  have at1 : z_run (z_nop k_X10_deed) (z_call h) K 8 [.inl (nI 1), .inl b] [] M := by
    unfold r_deed at q
    refine z_go (cut := []) 60 ?_
    simp (maxSteps := 1000000) (disch := omega) only [z_wp, Bool.false_eq_true, ↓reduceIte, z_e10, z_e01, eq_self, Int32.reduceLT, Int32.reduceLE, Int32.reduceGT, Int32.reduceGE, z_in, cond_true, cond_false, Nat.reduceAdd, Nat.reduceBEq, z_nth, z_set, z_clr, z_st1, z_st2, z_isL, z_opt, z_pop, z_cats, z_cat, c_X10_deed_0, c_X10_deed_1, c_X10_deed_2, c_X10_deed_3, c_X10_deed_4, c_X10_deed_5, c_X10_deed_6, c_X10_deed_7, c_X10_deed_8, c_X10_deed_9, c_X10_deed_10, c_X10_deed_11, c_X10_deed_12, c_X10_deed_13, c_X10_deed_14, c_X10_deed_15, c_X10_deed_16, c_X10_deed_17, c_X10_deed_18, c_X10_deed_19, c_X10_deed_20, c_X10_deed_21, c_X10_deed_22, c_X10_deed_23, c_X10_deed_24, c_X10_deed_25, c_X10_deed_26, c_X10_deed_27, c_X10_deed_28, c_X10_deed_29, c_X10_deed_30, c_X10_deed_31, c_X10_deed_32, c_X10_deed_33, c_X10_deed_34, c_X10_deed_35, c_X10_deed_36, c_X10_deed_37, c_X10_deed_38, c_X10_deed_39, c_X10_deed_40, c_X10_deed_41, c_X10_deed_42, c_X10_deed_43, c_X10_deed_44, c_X10_deed_45, c_X10_deed_46, c_X10_deed_47, c_X10_deed_48, c_X10_deed_49, o_goto, o_ic, o_if, o_iload, o_iret, o_tsw, z_len, z_elt, z_isI, z_isJ, Nat.reduceEqDiff, Nat.reduceLeDiff, Nat.reduceLT, Nat.reduceSub, Nat.reduceMul, not_false_eq_true, not_true_eq_false, true_and, and_true, true_or, or_true, false_or, or_false, true_implies, false_implies, implies_true, forall_const, and_self, ne_eq, Classical.not_not, z_up2, z_cp2, z_upL1, z_upL2, if_true, if_false, and_false, false_and, ge_iff_le, gt_iff_lt, nI_add, pk_mul, nI_1, zn_ltT, zn_ltF, zn_leT, zn_leF, zn_eqT, zn_eqF, zn_in, zn_cl, zn_sub, zn_upS, zn_upN, zn_upO, zn_z, zn_lt0, zn_le0, zn_0le, zn_m1, zn_in0, zn_in1, zn_cl0, zn_cl1, zn_g1, zn_1F, zn_1T, zn_zT, zn_1le, zn_lt1, zn_le1]
    refine ⟨fun c => ?_, fun c => ?_⟩
    · rw [if_pos c] at q
      exact q
    · rw [if_neg c] at q
      exact q
  refine e_X10_deed ?_
  refine z_wp_run (cut := [2, 8, 14, 20, 26, 32, 38, 44]) 60 _ _ _ _ ?_
  simp (maxSteps := 1000000) (disch := omega) only [z_wp, Bool.false_eq_true, ↓reduceIte, z_e10, z_e01, eq_self, Int32.reduceLT, Int32.reduceLE, Int32.reduceGT, Int32.reduceGE, z_in, cond_true, cond_false, Nat.reduceAdd, Nat.reduceBEq, z_nth, z_set, z_clr, z_st1, z_st2, z_isL, z_opt, z_pop, z_cats, z_cat, c_X10_deed_0, c_X10_deed_1, c_X10_deed_2, c_X10_deed_3, c_X10_deed_4, c_X10_deed_5, c_X10_deed_6, c_X10_deed_7, c_X10_deed_8, c_X10_deed_9, c_X10_deed_10, c_X10_deed_11, c_X10_deed_12, c_X10_deed_13, c_X10_deed_14, c_X10_deed_15, c_X10_deed_16, c_X10_deed_17, c_X10_deed_18, c_X10_deed_19, c_X10_deed_20, c_X10_deed_21, c_X10_deed_22, c_X10_deed_23, c_X10_deed_24, c_X10_deed_25, c_X10_deed_26, c_X10_deed_27, c_X10_deed_28, c_X10_deed_29, c_X10_deed_30, c_X10_deed_31, c_X10_deed_32, c_X10_deed_33, c_X10_deed_34, c_X10_deed_35, c_X10_deed_36, c_X10_deed_37, c_X10_deed_38, c_X10_deed_39, c_X10_deed_40, c_X10_deed_41, c_X10_deed_42, c_X10_deed_43, c_X10_deed_44, c_X10_deed_45, c_X10_deed_46, c_X10_deed_47, c_X10_deed_48, c_X10_deed_49, o_goto, o_ic, o_if, o_iload, o_iret, o_tsw, z_len, z_elt, z_isI, z_isJ, Nat.reduceEqDiff, Nat.reduceLeDiff, Nat.reduceLT, Nat.reduceSub, Nat.reduceMul, not_false_eq_true, not_true_eq_false, true_and, and_true, true_or, or_true, false_or, or_false, true_implies, false_implies, implies_true, forall_const, and_self, ne_eq, Classical.not_not, z_up2, z_cp2, z_upL1, z_upL2, if_true, if_false, and_false, false_and, ge_iff_le, gt_iff_lt, nI_add, pk_mul, nI_1, zn_ltT, zn_ltF, zn_leT, zn_leF, zn_eqT, zn_eqF, zn_in, zn_cl, zn_sub, zn_upS, zn_upN, zn_upO, zn_z, zn_lt0, zn_le0, zn_0le, zn_m1, zn_in0, zn_in1, zn_cl0, zn_cl1, zn_g1, zn_1F, zn_1T, zn_zT, zn_1le, zn_lt1, zn_le1, z_cases, Int.reduceAdd, z_on0, z_on1, z_on2, z_on3, z_on4, z_on5, z_on6, z_on7]
  exact at1
set_option maxRecDepth 100000 in
theorem s_deed2 {h : Nat} {M : zMem} {b : Int32} {K : zK} (q : K (some (.inl (r_deed 2 b))) M) : z_call (h + 1) 195 [.inl (nI 2), .inl b] M K := by
  have at1 : z_run (z_nop k_X10_deed) (z_call h) K 14 [.inl (nI 2), .inl b] [] M := by
    unfold r_deed at q
    refine z_go (cut := []) 60 ?_
    simp (maxSteps := 1000000) (disch := omega) only [z_wp, Bool.false_eq_true, ↓reduceIte, z_e10, z_e01, eq_self, Int32.reduceLT, Int32.reduceLE, Int32.reduceGT, Int32.reduceGE, z_in, cond_true, cond_false, Nat.reduceAdd, Nat.reduceBEq, z_nth, z_set, z_clr, z_st1, z_st2, z_isL, z_opt, z_pop, z_cats, z_cat, c_X10_deed_0, c_X10_deed_1, c_X10_deed_2, c_X10_deed_3, c_X10_deed_4, c_X10_deed_5, c_X10_deed_6, c_X10_deed_7, c_X10_deed_8, c_X10_deed_9, c_X10_deed_10, c_X10_deed_11, c_X10_deed_12, c_X10_deed_13, c_X10_deed_14, c_X10_deed_15, c_X10_deed_16, c_X10_deed_17, c_X10_deed_18, c_X10_deed_19, c_X10_deed_20, c_X10_deed_21, c_X10_deed_22, c_X10_deed_23, c_X10_deed_24, c_X10_deed_25, c_X10_deed_26, c_X10_deed_27, c_X10_deed_28, c_X10_deed_29, c_X10_deed_30, c_X10_deed_31, c_X10_deed_32, c_X10_deed_33, c_X10_deed_34, c_X10_deed_35, c_X10_deed_36, c_X10_deed_37, c_X10_deed_38, c_X10_deed_39, c_X10_deed_40, c_X10_deed_41, c_X10_deed_42, c_X10_deed_43, c_X10_deed_44, c_X10_deed_45, c_X10_deed_46, c_X10_deed_47, c_X10_deed_48, c_X10_deed_49, o_goto, o_ic, o_if, o_iload, o_iret, o_tsw, z_len, z_elt, z_isI, z_isJ, Nat.reduceEqDiff, Nat.reduceLeDiff, Nat.reduceLT, Nat.reduceSub, Nat.reduceMul, not_false_eq_true, not_true_eq_false, true_and, and_true, true_or, or_true, false_or, or_false, true_implies, false_implies, implies_true, forall_const, and_self, ne_eq, Classical.not_not, z_up2, z_cp2, z_upL1, z_upL2, if_true, if_false, and_false, false_and, ge_iff_le, gt_iff_lt, nI_add, pk_mul, nI_1, zn_ltT, zn_ltF, zn_leT, zn_leF, zn_eqT, zn_eqF, zn_in, zn_cl, zn_sub, zn_upS, zn_upN, zn_upO, zn_z, zn_lt0, zn_le0, zn_0le, zn_m1, zn_in0, zn_in1, zn_cl0, zn_cl1, zn_g1, zn_1F, zn_1T, zn_zT, zn_1le, zn_lt1, zn_le1]
    refine ⟨fun c => ?_, fun c => ?_⟩
    · rw [if_pos c] at q
      exact q
    · rw [if_neg c] at q
      exact q
  refine e_X10_deed ?_
  refine z_wp_run (cut := [2, 8, 14, 20, 26, 32, 38, 44]) 60 _ _ _ _ ?_
  simp (maxSteps := 1000000) (disch := omega) only [z_wp, Bool.false_eq_true, ↓reduceIte, z_e10, z_e01, eq_self, Int32.reduceLT, Int32.reduceLE, Int32.reduceGT, Int32.reduceGE, z_in, cond_true, cond_false, Nat.reduceAdd, Nat.reduceBEq, z_nth, z_set, z_clr, z_st1, z_st2, z_isL, z_opt, z_pop, z_cats, z_cat, c_X10_deed_0, c_X10_deed_1, c_X10_deed_2, c_X10_deed_3, c_X10_deed_4, c_X10_deed_5, c_X10_deed_6, c_X10_deed_7, c_X10_deed_8, c_X10_deed_9, c_X10_deed_10, c_X10_deed_11, c_X10_deed_12, c_X10_deed_13, c_X10_deed_14, c_X10_deed_15, c_X10_deed_16, c_X10_deed_17, c_X10_deed_18, c_X10_deed_19, c_X10_deed_20, c_X10_deed_21, c_X10_deed_22, c_X10_deed_23, c_X10_deed_24, c_X10_deed_25, c_X10_deed_26, c_X10_deed_27, c_X10_deed_28, c_X10_deed_29, c_X10_deed_30, c_X10_deed_31, c_X10_deed_32, c_X10_deed_33, c_X10_deed_34, c_X10_deed_35, c_X10_deed_36, c_X10_deed_37, c_X10_deed_38, c_X10_deed_39, c_X10_deed_40, c_X10_deed_41, c_X10_deed_42, c_X10_deed_43, c_X10_deed_44, c_X10_deed_45, c_X10_deed_46, c_X10_deed_47, c_X10_deed_48, c_X10_deed_49, o_goto, o_ic, o_if, o_iload, o_iret, o_tsw, z_len, z_elt, z_isI, z_isJ, Nat.reduceEqDiff, Nat.reduceLeDiff, Nat.reduceLT, Nat.reduceSub, Nat.reduceMul, not_false_eq_true, not_true_eq_false, true_and, and_true, true_or, or_true, false_or, or_false, true_implies, false_implies, implies_true, forall_const, and_self, ne_eq, Classical.not_not, z_up2, z_cp2, z_upL1, z_upL2, if_true, if_false, and_false, false_and, ge_iff_le, gt_iff_lt, nI_add, pk_mul, nI_1, zn_ltT, zn_ltF, zn_leT, zn_leF, zn_eqT, zn_eqF, zn_in, zn_cl, zn_sub, zn_upS, zn_upN, zn_upO, zn_z, zn_lt0, zn_le0, zn_0le, zn_m1, zn_in0, zn_in1, zn_cl0, zn_cl1, zn_g1, zn_1F, zn_1T, zn_zT, zn_1le, zn_lt1, zn_le1, z_cases, Int.reduceAdd, z_on0, z_on1, z_on2, z_on3, z_on4, z_on5, z_on6, z_on7]
  exact at1
set_option maxRecDepth 100000 in
theorem s_deed3 {h : Nat} {M : zMem} {b : Int32} {K : zK} (q : K (some (.inl (r_deed 3 b))) M) : z_call (h + 1) 195 [.inl (nI 3), .inl b] M K := by
  have at1 : z_run (z_nop k_X10_deed) (z_call h) K 20 [.inl (nI 3), .inl b] [] M := by
    unfold r_deed at q
    refine z_go (cut := []) 60 ?_
    simp (maxSteps := 1000000) (disch := omega) only [z_wp, Bool.false_eq_true, ↓reduceIte, z_e10, z_e01, eq_self, Int32.reduceLT, Int32.reduceLE, Int32.reduceGT, Int32.reduceGE, z_in, cond_true, cond_false, Nat.reduceAdd, Nat.reduceBEq, z_nth, z_set, z_clr, z_st1, z_st2, z_isL, z_opt, z_pop, z_cats, z_cat, c_X10_deed_0, c_X10_deed_1, c_X10_deed_2, c_X10_deed_3, c_X10_deed_4, c_X10_deed_5, c_X10_deed_6, c_X10_deed_7, c_X10_deed_8, c_X10_deed_9, c_X10_deed_10, c_X10_deed_11, c_X10_deed_12, c_X10_deed_13, c_X10_deed_14, c_X10_deed_15, c_X10_deed_16, c_X10_deed_17, c_X10_deed_18, c_X10_deed_19, c_X10_deed_20, c_X10_deed_21, c_X10_deed_22, c_X10_deed_23, c_X10_deed_24, c_X10_deed_25, c_X10_deed_26, c_X10_deed_27, c_X10_deed_28, c_X10_deed_29, c_X10_deed_30, c_X10_deed_31, c_X10_deed_32, c_X10_deed_33, c_X10_deed_34, c_X10_deed_35, c_X10_deed_36, c_X10_deed_37, c_X10_deed_38, c_X10_deed_39, c_X10_deed_40, c_X10_deed_41, c_X10_deed_42, c_X10_deed_43, c_X10_deed_44, c_X10_deed_45, c_X10_deed_46, c_X10_deed_47, c_X10_deed_48, c_X10_deed_49, o_goto, o_ic, o_if, o_iload, o_iret, o_tsw, z_len, z_elt, z_isI, z_isJ, Nat.reduceEqDiff, Nat.reduceLeDiff, Nat.reduceLT, Nat.reduceSub, Nat.reduceMul, not_false_eq_true, not_true_eq_false, true_and, and_true, true_or, or_true, false_or, or_false, true_implies, false_implies, implies_true, forall_const, and_self, ne_eq, Classical.not_not, z_up2, z_cp2, z_upL1, z_upL2, if_true, if_false, and_false, false_and, ge_iff_le, gt_iff_lt, nI_add, pk_mul, nI_1, zn_ltT, zn_ltF, zn_leT, zn_leF, zn_eqT, zn_eqF, zn_in, zn_cl, zn_sub, zn_upS, zn_upN, zn_upO, zn_z, zn_lt0, zn_le0, zn_0le, zn_m1, zn_in0, zn_in1, zn_cl0, zn_cl1, zn_g1, zn_1F, zn_1T, zn_zT, zn_1le, zn_lt1, zn_le1]
    refine ⟨fun c => ?_, fun c => ?_⟩
    · rw [if_pos c] at q
      exact q
    · rw [if_neg c] at q
      exact q
  refine e_X10_deed ?_
  refine z_wp_run (cut := [2, 8, 14, 20, 26, 32, 38, 44]) 60 _ _ _ _ ?_
  simp (maxSteps := 1000000) (disch := omega) only [z_wp, Bool.false_eq_true, ↓reduceIte, z_e10, z_e01, eq_self, Int32.reduceLT, Int32.reduceLE, Int32.reduceGT, Int32.reduceGE, z_in, cond_true, cond_false, Nat.reduceAdd, Nat.reduceBEq, z_nth, z_set, z_clr, z_st1, z_st2, z_isL, z_opt, z_pop, z_cats, z_cat, c_X10_deed_0, c_X10_deed_1, c_X10_deed_2, c_X10_deed_3, c_X10_deed_4, c_X10_deed_5, c_X10_deed_6, c_X10_deed_7, c_X10_deed_8, c_X10_deed_9, c_X10_deed_10, c_X10_deed_11, c_X10_deed_12, c_X10_deed_13, c_X10_deed_14, c_X10_deed_15, c_X10_deed_16, c_X10_deed_17, c_X10_deed_18, c_X10_deed_19, c_X10_deed_20, c_X10_deed_21, c_X10_deed_22, c_X10_deed_23, c_X10_deed_24, c_X10_deed_25, c_X10_deed_26, c_X10_deed_27, c_X10_deed_28, c_X10_deed_29, c_X10_deed_30, c_X10_deed_31, c_X10_deed_32, c_X10_deed_33, c_X10_deed_34, c_X10_deed_35, c_X10_deed_36, c_X10_deed_37, c_X10_deed_38, c_X10_deed_39, c_X10_deed_40, c_X10_deed_41, c_X10_deed_42, c_X10_deed_43, c_X10_deed_44, c_X10_deed_45, c_X10_deed_46, c_X10_deed_47, c_X10_deed_48, c_X10_deed_49, o_goto, o_ic, o_if, o_iload, o_iret, o_tsw, z_len, z_elt, z_isI, z_isJ, Nat.reduceEqDiff, Nat.reduceLeDiff, Nat.reduceLT, Nat.reduceSub, Nat.reduceMul, not_false_eq_true, not_true_eq_false, true_and, and_true, true_or, or_true, false_or, or_false, true_implies, false_implies, implies_true, forall_const, and_self, ne_eq, Classical.not_not, z_up2, z_cp2, z_upL1, z_upL2, if_true, if_false, and_false, false_and, ge_iff_le, gt_iff_lt, nI_add, pk_mul, nI_1, zn_ltT, zn_ltF, zn_leT, zn_leF, zn_eqT, zn_eqF, zn_in, zn_cl, zn_sub, zn_upS, zn_upN, zn_upO, zn_z, zn_lt0, zn_le0, zn_0le, zn_m1, zn_in0, zn_in1, zn_cl0, zn_cl1, zn_g1, zn_1F, zn_1T, zn_zT, zn_1le, zn_lt1, zn_le1, z_cases, Int.reduceAdd, z_on0, z_on1, z_on2, z_on3, z_on4, z_on5, z_on6, z_on7]
  exact at1
set_option maxRecDepth 100000 in
theorem s_deed4 {h : Nat} {M : zMem} {b : Int32} {K : zK} (q : K (some (.inl (r_deed 4 b))) M) : z_call (h + 1) 195 [.inl (nI 4), .inl b] M K := by
  have at1 : z_run (z_nop k_X10_deed) (z_call h) K 26 [.inl (nI 4), .inl b] [] M := by
    unfold r_deed at q
    refine z_go (cut := []) 60 ?_
    simp (maxSteps := 1000000) (disch := omega) only [z_wp, Bool.false_eq_true, ↓reduceIte, z_e10, z_e01, eq_self, Int32.reduceLT, Int32.reduceLE, Int32.reduceGT, Int32.reduceGE, z_in, cond_true, cond_false, Nat.reduceAdd, Nat.reduceBEq, z_nth, z_set, z_clr, z_st1, z_st2, z_isL, z_opt, z_pop, z_cats, z_cat, c_X10_deed_0, c_X10_deed_1, c_X10_deed_2, c_X10_deed_3, c_X10_deed_4, c_X10_deed_5, c_X10_deed_6, c_X10_deed_7, c_X10_deed_8, c_X10_deed_9, c_X10_deed_10, c_X10_deed_11, c_X10_deed_12, c_X10_deed_13, c_X10_deed_14, c_X10_deed_15, c_X10_deed_16, c_X10_deed_17, c_X10_deed_18, c_X10_deed_19, c_X10_deed_20, c_X10_deed_21, c_X10_deed_22, c_X10_deed_23, c_X10_deed_24, c_X10_deed_25, c_X10_deed_26, c_X10_deed_27, c_X10_deed_28, c_X10_deed_29, c_X10_deed_30, c_X10_deed_31, c_X10_deed_32, c_X10_deed_33, c_X10_deed_34, c_X10_deed_35, c_X10_deed_36, c_X10_deed_37, c_X10_deed_38, c_X10_deed_39, c_X10_deed_40, c_X10_deed_41, c_X10_deed_42, c_X10_deed_43, c_X10_deed_44, c_X10_deed_45, c_X10_deed_46, c_X10_deed_47, c_X10_deed_48, c_X10_deed_49, o_goto, o_ic, o_if, o_iload, o_iret, o_tsw, z_len, z_elt, z_isI, z_isJ, Nat.reduceEqDiff, Nat.reduceLeDiff, Nat.reduceLT, Nat.reduceSub, Nat.reduceMul, not_false_eq_true, not_true_eq_false, true_and, and_true, true_or, or_true, false_or, or_false, true_implies, false_implies, implies_true, forall_const, and_self, ne_eq, Classical.not_not, z_up2, z_cp2, z_upL1, z_upL2, if_true, if_false, and_false, false_and, ge_iff_le, gt_iff_lt, nI_add, pk_mul, nI_1, zn_ltT, zn_ltF, zn_leT, zn_leF, zn_eqT, zn_eqF, zn_in, zn_cl, zn_sub, zn_upS, zn_upN, zn_upO, zn_z, zn_lt0, zn_le0, zn_0le, zn_m1, zn_in0, zn_in1, zn_cl0, zn_cl1, zn_g1, zn_1F, zn_1T, zn_zT, zn_1le, zn_lt1, zn_le1]
    refine ⟨fun c => ?_, fun c => ?_⟩
    · rw [if_pos c] at q
      exact q
    · rw [if_neg c] at q
      exact q
  refine e_X10_deed ?_
  refine z_wp_run (cut := [2, 8, 14, 20, 26, 32, 38, 44]) 60 _ _ _ _ ?_
  simp (maxSteps := 1000000) (disch := omega) only [z_wp, Bool.false_eq_true, ↓reduceIte, z_e10, z_e01, eq_self, Int32.reduceLT, Int32.reduceLE, Int32.reduceGT, Int32.reduceGE, z_in, cond_true, cond_false, Nat.reduceAdd, Nat.reduceBEq, z_nth, z_set, z_clr, z_st1, z_st2, z_isL, z_opt, z_pop, z_cats, z_cat, c_X10_deed_0, c_X10_deed_1, c_X10_deed_2, c_X10_deed_3, c_X10_deed_4, c_X10_deed_5, c_X10_deed_6, c_X10_deed_7, c_X10_deed_8, c_X10_deed_9, c_X10_deed_10, c_X10_deed_11, c_X10_deed_12, c_X10_deed_13, c_X10_deed_14, c_X10_deed_15, c_X10_deed_16, c_X10_deed_17, c_X10_deed_18, c_X10_deed_19, c_X10_deed_20, c_X10_deed_21, c_X10_deed_22, c_X10_deed_23, c_X10_deed_24, c_X10_deed_25, c_X10_deed_26, c_X10_deed_27, c_X10_deed_28, c_X10_deed_29, c_X10_deed_30, c_X10_deed_31, c_X10_deed_32, c_X10_deed_33, c_X10_deed_34, c_X10_deed_35, c_X10_deed_36, c_X10_deed_37, c_X10_deed_38, c_X10_deed_39, c_X10_deed_40, c_X10_deed_41, c_X10_deed_42, c_X10_deed_43, c_X10_deed_44, c_X10_deed_45, c_X10_deed_46, c_X10_deed_47, c_X10_deed_48, c_X10_deed_49, o_goto, o_ic, o_if, o_iload, o_iret, o_tsw, z_len, z_elt, z_isI, z_isJ, Nat.reduceEqDiff, Nat.reduceLeDiff, Nat.reduceLT, Nat.reduceSub, Nat.reduceMul, not_false_eq_true, not_true_eq_false, true_and, and_true, true_or, or_true, false_or, or_false, true_implies, false_implies, implies_true, forall_const, and_self, ne_eq, Classical.not_not, z_up2, z_cp2, z_upL1, z_upL2, if_true, if_false, and_false, false_and, ge_iff_le, gt_iff_lt, nI_add, pk_mul, nI_1, zn_ltT, zn_ltF, zn_leT, zn_leF, zn_eqT, zn_eqF, zn_in, zn_cl, zn_sub, zn_upS, zn_upN, zn_upO, zn_z, zn_lt0, zn_le0, zn_0le, zn_m1, zn_in0, zn_in1, zn_cl0, zn_cl1, zn_g1, zn_1F, zn_1T, zn_zT, zn_1le, zn_lt1, zn_le1, z_cases, Int.reduceAdd, z_on0, z_on1, z_on2, z_on3, z_on4, z_on5, z_on6, z_on7]
  exact at1
set_option maxRecDepth 100000 in
theorem s_deed5 {h : Nat} {M : zMem} {b : Int32} {K : zK} (q : K (some (.inl (r_deed 5 b))) M) : z_call (h + 1) 195 [.inl (nI 5), .inl b] M K := by
  have at1 : z_run (z_nop k_X10_deed) (z_call h) K 32 [.inl (nI 5), .inl b] [] M := by
    unfold r_deed at q
    refine z_go (cut := []) 60 ?_
    simp (maxSteps := 1000000) (disch := omega) only [z_wp, Bool.false_eq_true, ↓reduceIte, z_e10, z_e01, eq_self, Int32.reduceLT, Int32.reduceLE, Int32.reduceGT, Int32.reduceGE, z_in, cond_true, cond_false, Nat.reduceAdd, Nat.reduceBEq, z_nth, z_set, z_clr, z_st1, z_st2, z_isL, z_opt, z_pop, z_cats, z_cat, c_X10_deed_0, c_X10_deed_1, c_X10_deed_2, c_X10_deed_3, c_X10_deed_4, c_X10_deed_5, c_X10_deed_6, c_X10_deed_7, c_X10_deed_8, c_X10_deed_9, c_X10_deed_10, c_X10_deed_11, c_X10_deed_12, c_X10_deed_13, c_X10_deed_14, c_X10_deed_15, c_X10_deed_16, c_X10_deed_17, c_X10_deed_18, c_X10_deed_19, c_X10_deed_20, c_X10_deed_21, c_X10_deed_22, c_X10_deed_23, c_X10_deed_24, c_X10_deed_25, c_X10_deed_26, c_X10_deed_27, c_X10_deed_28, c_X10_deed_29, c_X10_deed_30, c_X10_deed_31, c_X10_deed_32, c_X10_deed_33, c_X10_deed_34, c_X10_deed_35, c_X10_deed_36, c_X10_deed_37, c_X10_deed_38, c_X10_deed_39, c_X10_deed_40, c_X10_deed_41, c_X10_deed_42, c_X10_deed_43, c_X10_deed_44, c_X10_deed_45, c_X10_deed_46, c_X10_deed_47, c_X10_deed_48, c_X10_deed_49, o_goto, o_ic, o_if, o_iload, o_iret, o_tsw, z_len, z_elt, z_isI, z_isJ, Nat.reduceEqDiff, Nat.reduceLeDiff, Nat.reduceLT, Nat.reduceSub, Nat.reduceMul, not_false_eq_true, not_true_eq_false, true_and, and_true, true_or, or_true, false_or, or_false, true_implies, false_implies, implies_true, forall_const, and_self, ne_eq, Classical.not_not, z_up2, z_cp2, z_upL1, z_upL2, if_true, if_false, and_false, false_and, ge_iff_le, gt_iff_lt, nI_add, pk_mul, nI_1, zn_ltT, zn_ltF, zn_leT, zn_leF, zn_eqT, zn_eqF, zn_in, zn_cl, zn_sub, zn_upS, zn_upN, zn_upO, zn_z, zn_lt0, zn_le0, zn_0le, zn_m1, zn_in0, zn_in1, zn_cl0, zn_cl1, zn_g1, zn_1F, zn_1T, zn_zT, zn_1le, zn_lt1, zn_le1]
    refine ⟨fun c => ?_, fun c => ?_⟩
    · rw [if_pos c] at q
      exact q
    · rw [if_neg c] at q
      exact q
  refine e_X10_deed ?_
  refine z_wp_run (cut := [2, 8, 14, 20, 26, 32, 38, 44]) 60 _ _ _ _ ?_
  simp (maxSteps := 1000000) (disch := omega) only [z_wp, Bool.false_eq_true, ↓reduceIte, z_e10, z_e01, eq_self, Int32.reduceLT, Int32.reduceLE, Int32.reduceGT, Int32.reduceGE, z_in, cond_true, cond_false, Nat.reduceAdd, Nat.reduceBEq, z_nth, z_set, z_clr, z_st1, z_st2, z_isL, z_opt, z_pop, z_cats, z_cat, c_X10_deed_0, c_X10_deed_1, c_X10_deed_2, c_X10_deed_3, c_X10_deed_4, c_X10_deed_5, c_X10_deed_6, c_X10_deed_7, c_X10_deed_8, c_X10_deed_9, c_X10_deed_10, c_X10_deed_11, c_X10_deed_12, c_X10_deed_13, c_X10_deed_14, c_X10_deed_15, c_X10_deed_16, c_X10_deed_17, c_X10_deed_18, c_X10_deed_19, c_X10_deed_20, c_X10_deed_21, c_X10_deed_22, c_X10_deed_23, c_X10_deed_24, c_X10_deed_25, c_X10_deed_26, c_X10_deed_27, c_X10_deed_28, c_X10_deed_29, c_X10_deed_30, c_X10_deed_31, c_X10_deed_32, c_X10_deed_33, c_X10_deed_34, c_X10_deed_35, c_X10_deed_36, c_X10_deed_37, c_X10_deed_38, c_X10_deed_39, c_X10_deed_40, c_X10_deed_41, c_X10_deed_42, c_X10_deed_43, c_X10_deed_44, c_X10_deed_45, c_X10_deed_46, c_X10_deed_47, c_X10_deed_48, c_X10_deed_49, o_goto, o_ic, o_if, o_iload, o_iret, o_tsw, z_len, z_elt, z_isI, z_isJ, Nat.reduceEqDiff, Nat.reduceLeDiff, Nat.reduceLT, Nat.reduceSub, Nat.reduceMul, not_false_eq_true, not_true_eq_false, true_and, and_true, true_or, or_true, false_or, or_false, true_implies, false_implies, implies_true, forall_const, and_self, ne_eq, Classical.not_not, z_up2, z_cp2, z_upL1, z_upL2, if_true, if_false, and_false, false_and, ge_iff_le, gt_iff_lt, nI_add, pk_mul, nI_1, zn_ltT, zn_ltF, zn_leT, zn_leF, zn_eqT, zn_eqF, zn_in, zn_cl, zn_sub, zn_upS, zn_upN, zn_upO, zn_z, zn_lt0, zn_le0, zn_0le, zn_m1, zn_in0, zn_in1, zn_cl0, zn_cl1, zn_g1, zn_1F, zn_1T, zn_zT, zn_1le, zn_lt1, zn_le1, z_cases, Int.reduceAdd, z_on0, z_on1, z_on2, z_on3, z_on4, z_on5, z_on6, z_on7]
  exact at1
set_option maxRecDepth 100000 in
theorem s_deed6 {h : Nat} {M : zMem} {b : Int32} {K : zK} (q : K (some (.inl (r_deed 6 b))) M) : z_call (h + 1) 195 [.inl (nI 6), .inl b] M K := by
  have at1 : z_run (z_nop k_X10_deed) (z_call h) K 38 [.inl (nI 6), .inl b] [] M := by
    unfold r_deed at q
    refine z_go (cut := []) 60 ?_
    simp (maxSteps := 1000000) (disch := omega) only [z_wp, Bool.false_eq_true, ↓reduceIte, z_e10, z_e01, eq_self, Int32.reduceLT, Int32.reduceLE, Int32.reduceGT, Int32.reduceGE, z_in, cond_true, cond_false, Nat.reduceAdd, Nat.reduceBEq, z_nth, z_set, z_clr, z_st1, z_st2, z_isL, z_opt, z_pop, z_cats, z_cat, c_X10_deed_0, c_X10_deed_1, c_X10_deed_2, c_X10_deed_3, c_X10_deed_4, c_X10_deed_5, c_X10_deed_6, c_X10_deed_7, c_X10_deed_8, c_X10_deed_9, c_X10_deed_10, c_X10_deed_11, c_X10_deed_12, c_X10_deed_13, c_X10_deed_14, c_X10_deed_15, c_X10_deed_16, c_X10_deed_17, c_X10_deed_18, c_X10_deed_19, c_X10_deed_20, c_X10_deed_21, c_X10_deed_22, c_X10_deed_23, c_X10_deed_24, c_X10_deed_25, c_X10_deed_26, c_X10_deed_27, c_X10_deed_28, c_X10_deed_29, c_X10_deed_30, c_X10_deed_31, c_X10_deed_32, c_X10_deed_33, c_X10_deed_34, c_X10_deed_35, c_X10_deed_36, c_X10_deed_37, c_X10_deed_38, c_X10_deed_39, c_X10_deed_40, c_X10_deed_41, c_X10_deed_42, c_X10_deed_43, c_X10_deed_44, c_X10_deed_45, c_X10_deed_46, c_X10_deed_47, c_X10_deed_48, c_X10_deed_49, o_goto, o_ic, o_if, o_iload, o_iret, o_tsw, z_len, z_elt, z_isI, z_isJ, Nat.reduceEqDiff, Nat.reduceLeDiff, Nat.reduceLT, Nat.reduceSub, Nat.reduceMul, not_false_eq_true, not_true_eq_false, true_and, and_true, true_or, or_true, false_or, or_false, true_implies, false_implies, implies_true, forall_const, and_self, ne_eq, Classical.not_not, z_up2, z_cp2, z_upL1, z_upL2, if_true, if_false, and_false, false_and, ge_iff_le, gt_iff_lt, nI_add, pk_mul, nI_1, zn_ltT, zn_ltF, zn_leT, zn_leF, zn_eqT, zn_eqF, zn_in, zn_cl, zn_sub, zn_upS, zn_upN, zn_upO, zn_z, zn_lt0, zn_le0, zn_0le, zn_m1, zn_in0, zn_in1, zn_cl0, zn_cl1, zn_g1, zn_1F, zn_1T, zn_zT, zn_1le, zn_lt1, zn_le1]
    refine ⟨fun c => ?_, fun c => ?_⟩
    · rw [if_pos c] at q
      exact q
    · rw [if_neg c] at q
      exact q
  refine e_X10_deed ?_
  refine z_wp_run (cut := [2, 8, 14, 20, 26, 32, 38, 44]) 60 _ _ _ _ ?_
  simp (maxSteps := 1000000) (disch := omega) only [z_wp, Bool.false_eq_true, ↓reduceIte, z_e10, z_e01, eq_self, Int32.reduceLT, Int32.reduceLE, Int32.reduceGT, Int32.reduceGE, z_in, cond_true, cond_false, Nat.reduceAdd, Nat.reduceBEq, z_nth, z_set, z_clr, z_st1, z_st2, z_isL, z_opt, z_pop, z_cats, z_cat, c_X10_deed_0, c_X10_deed_1, c_X10_deed_2, c_X10_deed_3, c_X10_deed_4, c_X10_deed_5, c_X10_deed_6, c_X10_deed_7, c_X10_deed_8, c_X10_deed_9, c_X10_deed_10, c_X10_deed_11, c_X10_deed_12, c_X10_deed_13, c_X10_deed_14, c_X10_deed_15, c_X10_deed_16, c_X10_deed_17, c_X10_deed_18, c_X10_deed_19, c_X10_deed_20, c_X10_deed_21, c_X10_deed_22, c_X10_deed_23, c_X10_deed_24, c_X10_deed_25, c_X10_deed_26, c_X10_deed_27, c_X10_deed_28, c_X10_deed_29, c_X10_deed_30, c_X10_deed_31, c_X10_deed_32, c_X10_deed_33, c_X10_deed_34, c_X10_deed_35, c_X10_deed_36, c_X10_deed_37, c_X10_deed_38, c_X10_deed_39, c_X10_deed_40, c_X10_deed_41, c_X10_deed_42, c_X10_deed_43, c_X10_deed_44, c_X10_deed_45, c_X10_deed_46, c_X10_deed_47, c_X10_deed_48, c_X10_deed_49, o_goto, o_ic, o_if, o_iload, o_iret, o_tsw, z_len, z_elt, z_isI, z_isJ, Nat.reduceEqDiff, Nat.reduceLeDiff, Nat.reduceLT, Nat.reduceSub, Nat.reduceMul, not_false_eq_true, not_true_eq_false, true_and, and_true, true_or, or_true, false_or, or_false, true_implies, false_implies, implies_true, forall_const, and_self, ne_eq, Classical.not_not, z_up2, z_cp2, z_upL1, z_upL2, if_true, if_false, and_false, false_and, ge_iff_le, gt_iff_lt, nI_add, pk_mul, nI_1, zn_ltT, zn_ltF, zn_leT, zn_leF, zn_eqT, zn_eqF, zn_in, zn_cl, zn_sub, zn_upS, zn_upN, zn_upO, zn_z, zn_lt0, zn_le0, zn_0le, zn_m1, zn_in0, zn_in1, zn_cl0, zn_cl1, zn_g1, zn_1F, zn_1T, zn_zT, zn_1le, zn_lt1, zn_le1, z_cases, Int.reduceAdd, z_on0, z_on1, z_on2, z_on3, z_on4, z_on5, z_on6, z_on7]
  exact at1
set_option maxRecDepth 100000 in
theorem s_deed7 {h : Nat} {M : zMem} {b : Int32} {K : zK} (q : K (some (.inl (r_deed 7 b))) M) : z_call (h + 1) 195 [.inl (nI 7), .inl b] M K := by
  have at1 : z_run (z_nop k_X10_deed) (z_call h) K 44 [.inl (nI 7), .inl b] [] M := by
    unfold r_deed at q
    refine z_go (cut := []) 60 ?_
    simp (maxSteps := 1000000) (disch := omega) only [z_wp, Bool.false_eq_true, ↓reduceIte, z_e10, z_e01, eq_self, Int32.reduceLT, Int32.reduceLE, Int32.reduceGT, Int32.reduceGE, z_in, cond_true, cond_false, Nat.reduceAdd, Nat.reduceBEq, z_nth, z_set, z_clr, z_st1, z_st2, z_isL, z_opt, z_pop, z_cats, z_cat, c_X10_deed_0, c_X10_deed_1, c_X10_deed_2, c_X10_deed_3, c_X10_deed_4, c_X10_deed_5, c_X10_deed_6, c_X10_deed_7, c_X10_deed_8, c_X10_deed_9, c_X10_deed_10, c_X10_deed_11, c_X10_deed_12, c_X10_deed_13, c_X10_deed_14, c_X10_deed_15, c_X10_deed_16, c_X10_deed_17, c_X10_deed_18, c_X10_deed_19, c_X10_deed_20, c_X10_deed_21, c_X10_deed_22, c_X10_deed_23, c_X10_deed_24, c_X10_deed_25, c_X10_deed_26, c_X10_deed_27, c_X10_deed_28, c_X10_deed_29, c_X10_deed_30, c_X10_deed_31, c_X10_deed_32, c_X10_deed_33, c_X10_deed_34, c_X10_deed_35, c_X10_deed_36, c_X10_deed_37, c_X10_deed_38, c_X10_deed_39, c_X10_deed_40, c_X10_deed_41, c_X10_deed_42, c_X10_deed_43, c_X10_deed_44, c_X10_deed_45, c_X10_deed_46, c_X10_deed_47, c_X10_deed_48, c_X10_deed_49, o_goto, o_ic, o_if, o_iload, o_iret, o_tsw, z_len, z_elt, z_isI, z_isJ, Nat.reduceEqDiff, Nat.reduceLeDiff, Nat.reduceLT, Nat.reduceSub, Nat.reduceMul, not_false_eq_true, not_true_eq_false, true_and, and_true, true_or, or_true, false_or, or_false, true_implies, false_implies, implies_true, forall_const, and_self, ne_eq, Classical.not_not, z_up2, z_cp2, z_upL1, z_upL2, if_true, if_false, and_false, false_and, ge_iff_le, gt_iff_lt, nI_add, pk_mul, nI_1, zn_ltT, zn_ltF, zn_leT, zn_leF, zn_eqT, zn_eqF, zn_in, zn_cl, zn_sub, zn_upS, zn_upN, zn_upO, zn_z, zn_lt0, zn_le0, zn_0le, zn_m1, zn_in0, zn_in1, zn_cl0, zn_cl1, zn_g1, zn_1F, zn_1T, zn_zT, zn_1le, zn_lt1, zn_le1]
    refine ⟨fun c => ?_, fun c => ?_⟩
    · rw [if_pos c] at q
      exact q
    · rw [if_neg c] at q
      exact q
  refine e_X10_deed ?_
  refine z_wp_run (cut := [2, 8, 14, 20, 26, 32, 38, 44]) 60 _ _ _ _ ?_
  simp (maxSteps := 1000000) (disch := omega) only [z_wp, Bool.false_eq_true, ↓reduceIte, z_e10, z_e01, eq_self, Int32.reduceLT, Int32.reduceLE, Int32.reduceGT, Int32.reduceGE, z_in, cond_true, cond_false, Nat.reduceAdd, Nat.reduceBEq, z_nth, z_set, z_clr, z_st1, z_st2, z_isL, z_opt, z_pop, z_cats, z_cat, c_X10_deed_0, c_X10_deed_1, c_X10_deed_2, c_X10_deed_3, c_X10_deed_4, c_X10_deed_5, c_X10_deed_6, c_X10_deed_7, c_X10_deed_8, c_X10_deed_9, c_X10_deed_10, c_X10_deed_11, c_X10_deed_12, c_X10_deed_13, c_X10_deed_14, c_X10_deed_15, c_X10_deed_16, c_X10_deed_17, c_X10_deed_18, c_X10_deed_19, c_X10_deed_20, c_X10_deed_21, c_X10_deed_22, c_X10_deed_23, c_X10_deed_24, c_X10_deed_25, c_X10_deed_26, c_X10_deed_27, c_X10_deed_28, c_X10_deed_29, c_X10_deed_30, c_X10_deed_31, c_X10_deed_32, c_X10_deed_33, c_X10_deed_34, c_X10_deed_35, c_X10_deed_36, c_X10_deed_37, c_X10_deed_38, c_X10_deed_39, c_X10_deed_40, c_X10_deed_41, c_X10_deed_42, c_X10_deed_43, c_X10_deed_44, c_X10_deed_45, c_X10_deed_46, c_X10_deed_47, c_X10_deed_48, c_X10_deed_49, o_goto, o_ic, o_if, o_iload, o_iret, o_tsw, z_len, z_elt, z_isI, z_isJ, Nat.reduceEqDiff, Nat.reduceLeDiff, Nat.reduceLT, Nat.reduceSub, Nat.reduceMul, not_false_eq_true, not_true_eq_false, true_and, and_true, true_or, or_true, false_or, or_false, true_implies, false_implies, implies_true, forall_const, and_self, ne_eq, Classical.not_not, z_up2, z_cp2, z_upL1, z_upL2, if_true, if_false, and_false, false_and, ge_iff_le, gt_iff_lt, nI_add, pk_mul, nI_1, zn_ltT, zn_ltF, zn_leT, zn_leF, zn_eqT, zn_eqF, zn_in, zn_cl, zn_sub, zn_upS, zn_upN, zn_upO, zn_z, zn_lt0, zn_le0, zn_0le, zn_m1, zn_in0, zn_in1, zn_cl0, zn_cl1, zn_g1, zn_1F, zn_1T, zn_zT, zn_1le, zn_lt1, zn_le1, z_cases, Int.reduceAdd, z_on0, z_on1, z_on2, z_on3, z_on4, z_on5, z_on6, z_on7]
  exact at1
set_option maxRecDepth 100000 in
theorem s_deed {h a : Nat} {M : zMem} {b : Int32} {K : zK} (ha : a < 8) (q : K (some (.inl (r_deed a b))) M) : z_call (h + 1) 195 [.inl (nI a), .inl b] M K := by
  rcases (show a = 0 ∨ a = 1 ∨ a = 2 ∨ a = 3 ∨ a = 4 ∨ a = 5 ∨ a = 6 ∨ a = 7 by omega) with rfl | rfl | rfl | rfl | rfl | rfl | rfl | rfl
  · exact s_deed0 q
  · exact s_deed1 q
  · exact s_deed2 q
  · exact s_deed3 q
  · exact s_deed4 q
  · exact s_deed5 q
  · exact s_deed6 q
  · exact s_deed7 q
theorem e_X10_does {h : Nat} {a0 : zId} {a1 : Int32} {a2 : Int32} {a3 : Int32} {M : zMem} {K : zK} (ha0 : (a0.1 == 99) = false) (q : z_run (z_nop k_X10_does) (z_call h) K 0 [.inr (.inr a0), .inl a1, .inl a2, .inl a3, z_un, z_un] [] M) : z_call (h + 1) 196 [.inr (.inr a0), .inl a1, .inl a2, .inl a3] M K := ⟨by simp only [List.all_cons, List.all_nil, z_isU, ha0]; rfl, q⟩
theorem c_X10_does_0 : z_nop k_X10_does 0 = o_iload 3 := rfl
theorem c_X10_does_1 : z_nop k_X10_does 1 = o_ic (nI 3) := rfl
theorem c_X10_does_2 : z_nop k_X10_does 2 = o_icmp (fun x y => x ≠ y) 4 := rfl
theorem c_X10_does_3 : z_nop k_X10_does 3 = o_ret := rfl
theorem c_X10_does_4 : z_nop k_X10_does 4 = o_aload 0 := rfl
theorem c_X10_does_5 : z_nop k_X10_does 5 = o_iload 1 := rfl
theorem c_X10_does_6 : z_nop k_X10_does 6 = o_iload 2 := rfl
theorem c_X10_does_7 : z_nop k_X10_does 7 = o_callv 11 174 3 := rfl
theorem c_X10_does_8 : z_nop k_X10_does 8 = o_istore 4 := rfl
theorem c_X10_does_9 : z_nop k_X10_does 9 = o_iload 2 := rfl
theorem c_X10_does_10 : z_nop k_X10_does 10 = o_ic (nI 4) := rfl
theorem c_X10_does_11 : z_nop k_X10_does 11 = o_icmp (fun x y => x ≠ y) 14 := rfl
theorem c_X10_does_12 : z_nop k_X10_does 12 = o_ic 1 := rfl
theorem c_X10_does_13 : z_nop k_X10_does 13 = o_goto 15 := rfl
theorem c_X10_does_14 : z_nop k_X10_does 14 = o_ic 0 := rfl
theorem c_X10_does_15 : z_nop k_X10_does 15 = o_istore 5 := rfl
theorem c_X10_does_16 : z_nop k_X10_does 16 = o_aload 0 := rfl
theorem c_X10_does_17 : z_nop k_X10_does 17 = o_iload 1 := rfl
theorem c_X10_does_18 : z_nop k_X10_does 18 = o_iload 2 := rfl
theorem c_X10_does_19 : z_nop k_X10_does 19 = o_iload 3 := rfl
theorem c_X10_does_20 : z_nop k_X10_does 20 = o_ic (nI 2) := rfl
theorem c_X10_does_21 : z_nop k_X10_does 21 = o_icmp (fun x y => x ≠ y) 26 := rfl
theorem c_X10_does_22 : z_nop k_X10_does 22 = o_ic 1 := rfl
theorem c_X10_does_23 : z_nop k_X10_does 23 = o_iload 4 := rfl
theorem c_X10_does_24 : z_nop k_X10_does 24 = o_bin (fun x y => x - y) := rfl
theorem c_X10_does_25 : z_nop k_X10_does 25 = o_goto 34 := rfl
theorem c_X10_does_26 : z_nop k_X10_does 26 = o_iload 3 := rfl
theorem c_X10_does_27 : z_nop k_X10_does 27 = o_ic 1 := rfl
theorem c_X10_does_28 : z_nop k_X10_does 28 = o_icmp (fun x y => x ≠ y) 31 := rfl
theorem c_X10_does_29 : z_nop k_X10_does 29 = o_iload 5 := rfl
theorem c_X10_does_30 : z_nop k_X10_does 30 = o_goto 34 := rfl
theorem c_X10_does_31 : z_nop k_X10_does 31 = o_ic 1 := rfl
theorem c_X10_does_32 : z_nop k_X10_does 32 = o_iload 5 := rfl
theorem c_X10_does_33 : z_nop k_X10_does 33 = o_bin (fun x y => x - y) := rfl
theorem c_X10_does_34 : z_nop k_X10_does 34 = o_callv 11 175 4 := rfl
theorem c_X10_does_35 : z_nop k_X10_does 35 = o_ret := rfl

def r_doesV (M : zMem) (t f : Nat) (d : Int32) : Int32 := if d = nI 2 then 1 - r_fl M t f else if d = 1 then (if f = 4 then 1 else 0) else (if f = 4 then 1 - 1 else 1 - 0)
def n_does (M : zMem) (t f : Nat) (d : Int32) : zMem := if d = nI 3 then M else n_turns M t f (r_doesV M t f d)
set_option maxRecDepth 100000 in
theorem s_does {h t f : Nat} {M : zMem} {d : Int32} {K : zK} (ht : t < 24) (hf : f < 5) (q : K none (n_does M t f d)) : z_call (h + 2) 196 [.inr (.inr (11, 0, 0)), .inl (nI t), .inl (nI f), .inl d] M K := by
  unfold n_does r_doesV at q
  by_cases h4 : f = 4
  · subst h4
    refine e_X10_does rfl ?_
    refine z_wp_run (cut := [4, 8, 14, 26, 31, 35]) 38 _ _ _ _ ?_
    repeat' (first | (with_reducible refine And.intro ?_ ?_) | (with_reducible intro _) | (refine (s_fl ht hf) ?_) | (refine (s_turns ht hf) ?_) | (with_reducible refine z_go (i := 4) (cut := [4, 8, 14, 26, 31, 35]) 38 ?_) | (with_reducible refine z_go (i := 8) (cut := [4, 8, 14, 26, 31, 35]) 38 ?_) | (with_reducible refine z_go (i := 14) (cut := [4, 8, 14, 26, 31, 35]) 38 ?_) | (with_reducible refine z_go (i := 26) (cut := [4, 8, 14, 26, 31, 35]) 38 ?_) | (with_reducible refine z_go (i := 31) (cut := [4, 8, 14, 26, 31, 35]) 38 ?_) | (with_reducible refine z_go (i := 35) (cut := [4, 8, 14, 26, 31, 35]) 38 ?_) | (simp (maxSteps := 1000000) (disch := omega) only [z_wp, Bool.false_eq_true, ↓reduceIte, z_e10, z_e01, eq_self, Int32.reduceLT, Int32.reduceLE, Int32.reduceGT, Int32.reduceGE, z_in, cond_true, cond_false, Nat.reduceAdd, Nat.reduceBEq, z_nth, z_set, z_clr, z_st1, z_st2, z_isL, z_opt, z_pop, z_cats, z_cat, c_X10_does_0, c_X10_does_1, c_X10_does_2, c_X10_does_3, c_X10_does_4, c_X10_does_5, c_X10_does_6, c_X10_does_7, c_X10_does_8, c_X10_does_9, c_X10_does_10, c_X10_does_11, c_X10_does_12, c_X10_does_13, c_X10_does_14, c_X10_does_15, c_X10_does_16, c_X10_does_17, c_X10_does_18, c_X10_does_19, c_X10_does_20, c_X10_does_21, c_X10_does_22, c_X10_does_23, c_X10_does_24, c_X10_does_25, c_X10_does_26, c_X10_does_27, c_X10_does_28, c_X10_does_29, c_X10_does_30, c_X10_does_31, c_X10_does_32, c_X10_does_33, c_X10_does_34, c_X10_does_35, o_aload, o_bin, o_callv, o_goto, o_ic, o_icmp, o_iload, o_istore, o_ret, z_len, z_elt, z_isI, z_isJ, Nat.reduceEqDiff, Nat.reduceLeDiff, Nat.reduceLT, Nat.reduceSub, Nat.reduceMul, not_false_eq_true, not_true_eq_false, true_and, and_true, true_or, or_true, false_or, or_false, true_implies, false_implies, implies_true, forall_const, and_self, ne_eq, Classical.not_not, z_up2, z_cp2, z_upL1, z_upL2, if_true, if_false, and_false, false_and, ge_iff_le, gt_iff_lt, nI_add, pk_mul, nI_1, zn_ltT, zn_ltF, zn_leT, zn_leF, zn_eqT, zn_eqF, zn_in, zn_cl, zn_sub, zn_upS, zn_upN, zn_upO, zn_z, zn_lt0, zn_le0, zn_0le, zn_m1, zn_in0, zn_in1, zn_cl0, zn_cl1, zn_g1, zn_1F, zn_1T, zn_zT, zn_1le, zn_lt1, zn_le1]))
    all_goals (first | (with_reducible exact q) | omega | ((try simp only [ge_iff_le, gt_iff_lt, ← Int32.not_lt, Classical.not_not] at *); (first | (with_reducible rfl) | ((try simp only [ge_iff_le, gt_iff_lt, ← Int32.not_lt, Classical.not_not] at q); (try simp (disch := omega) only [*, zn_upS, zn_upN, zn_upO, if_true, if_false, ite_self, true_or, or_true, false_or, or_false, true_and, and_true, false_and, and_false, not_true_eq_false, not_false_eq_true, cond_true, cond_false, decide_true, decide_false, Bool.true_and, Bool.and_true, Bool.false_and, Bool.and_false, Bool.true_or, Bool.or_true, Bool.false_or, Bool.or_false, Bool.not_true, Bool.not_false, ne_eq, Nat.reduceEqDiff] at q); first | (with_reducible exact q) | omega))) | assumption | (unfold r_isIn; split <;> simp; done) | (unfold r_has; split <;> simp; done) | ((repeat' (first | (with_reducible exact q) | split at q)); all_goals (first | (exfalso; omega) | (exfalso; simp_all; done))) | exact q)
  · refine e_X10_does rfl ?_
    refine z_wp_run (cut := [4, 8, 14, 26, 31, 35]) 38 _ _ _ _ ?_
    repeat' (first | (with_reducible refine And.intro ?_ ?_) | (with_reducible intro _) | (refine (s_fl ht hf) ?_) | (refine (s_turns ht hf) ?_) | (with_reducible refine z_go (i := 4) (cut := [4, 8, 14, 26, 31, 35]) 38 ?_) | (with_reducible refine z_go (i := 8) (cut := [4, 8, 14, 26, 31, 35]) 38 ?_) | (with_reducible refine z_go (i := 14) (cut := [4, 8, 14, 26, 31, 35]) 38 ?_) | (with_reducible refine z_go (i := 26) (cut := [4, 8, 14, 26, 31, 35]) 38 ?_) | (with_reducible refine z_go (i := 31) (cut := [4, 8, 14, 26, 31, 35]) 38 ?_) | (with_reducible refine z_go (i := 35) (cut := [4, 8, 14, 26, 31, 35]) 38 ?_) | (simp (maxSteps := 1000000) (disch := omega) only [z_wp, Bool.false_eq_true, ↓reduceIte, z_e10, z_e01, eq_self, Int32.reduceLT, Int32.reduceLE, Int32.reduceGT, Int32.reduceGE, z_in, cond_true, cond_false, Nat.reduceAdd, Nat.reduceBEq, z_nth, z_set, z_clr, z_st1, z_st2, z_isL, z_opt, z_pop, z_cats, z_cat, c_X10_does_0, c_X10_does_1, c_X10_does_2, c_X10_does_3, c_X10_does_4, c_X10_does_5, c_X10_does_6, c_X10_does_7, c_X10_does_8, c_X10_does_9, c_X10_does_10, c_X10_does_11, c_X10_does_12, c_X10_does_13, c_X10_does_14, c_X10_does_15, c_X10_does_16, c_X10_does_17, c_X10_does_18, c_X10_does_19, c_X10_does_20, c_X10_does_21, c_X10_does_22, c_X10_does_23, c_X10_does_24, c_X10_does_25, c_X10_does_26, c_X10_does_27, c_X10_does_28, c_X10_does_29, c_X10_does_30, c_X10_does_31, c_X10_does_32, c_X10_does_33, c_X10_does_34, c_X10_does_35, o_aload, o_bin, o_callv, o_goto, o_ic, o_icmp, o_iload, o_istore, o_ret, z_len, z_elt, z_isI, z_isJ, Nat.reduceEqDiff, Nat.reduceLeDiff, Nat.reduceLT, Nat.reduceSub, Nat.reduceMul, not_false_eq_true, not_true_eq_false, true_and, and_true, true_or, or_true, false_or, or_false, true_implies, false_implies, implies_true, forall_const, and_self, ne_eq, Classical.not_not, z_up2, z_cp2, z_upL1, z_upL2, if_true, if_false, and_false, false_and, ge_iff_le, gt_iff_lt, nI_add, pk_mul, nI_1, zn_ltT, zn_ltF, zn_leT, zn_leF, zn_eqT, zn_eqF, zn_in, zn_cl, zn_sub, zn_upS, zn_upN, zn_upO, zn_z, zn_lt0, zn_le0, zn_0le, zn_m1, zn_in0, zn_in1, zn_cl0, zn_cl1, zn_g1, zn_1F, zn_1T, zn_zT, zn_1le, zn_lt1, zn_le1]))
    all_goals (first | (with_reducible exact q) | omega | ((try simp only [ge_iff_le, gt_iff_lt, ← Int32.not_lt, Classical.not_not] at *); (first | (with_reducible rfl) | ((try simp only [ge_iff_le, gt_iff_lt, ← Int32.not_lt, Classical.not_not] at q); (try simp (disch := omega) only [*, zn_upS, zn_upN, zn_upO, if_true, if_false, ite_self, true_or, or_true, false_or, or_false, true_and, and_true, false_and, and_false, not_true_eq_false, not_false_eq_true, cond_true, cond_false, decide_true, decide_false, Bool.true_and, Bool.and_true, Bool.false_and, Bool.and_false, Bool.true_or, Bool.or_true, Bool.false_or, Bool.or_false, Bool.not_true, Bool.not_false, ne_eq, Nat.reduceEqDiff] at q); first | (with_reducible exact q) | omega))) | assumption | (unfold r_isIn; split <;> simp; done) | (unfold r_has; split <;> simp; done) | ((repeat' (first | (with_reducible exact q) | split at q)); all_goals (first | (exfalso; omega) | (exfalso; simp_all; done))) | exact q)
