/-! the class's face: each call handed on -/
theorem e_X9_set {h : Nat} {a0 : zId} {a1 : Int32} {a2 : Int32} {M : zMem} {K : zK} (ha0 : (a0.1 == 99) = false) (q : z_run (z_nop k_X9_set) (z_call h) K 0 [.inr (.inr a0), .inl a1, .inl a2] [] M) : z_call (h + 1) 120 [.inr (.inr a0), .inl a1, .inl a2] M K := ⟨by simp only [List.all_cons, List.all_nil, z_isU, ha0]; rfl, q⟩
theorem c_X9_set_0 : z_nop k_X9_set 0 = o_aload 0 := rfl
theorem c_X9_set_1 : z_nop k_X9_set 1 = o_getr 10 (fun w i => (9, 0, 0)) := rfl
theorem c_X9_set_2 : z_nop k_X9_set 2 = o_iload 1 := rfl
theorem c_X9_set_3 : z_nop k_X9_set 3 = o_iload 2 := rfl
theorem c_X9_set_4 : z_nop k_X9_set 4 = o_callv 9 95 3 := rfl
theorem c_X9_set_5 : z_nop k_X9_set 5 = o_zret := rfl

theorem w9_set {h : Nat} {M M2 : zMem} {a0 a1 : Int32} {v : Int32} {K : zK} (hv : v = 0 ∨ v = 1) (hq : ∀ K2 : zK, K2 (some (.inl v)) M2 → z_call h 95 [.inr (.inr (9, 0, 0)), .inl a0, .inl a1] M K2) (q : K (some (.inl v)) M2) : z_call (h + 1) 120 [.inr (.inr (10, 0, 0)), .inl a0, .inl a1] M K := by
  refine e_X9_set rfl ?_
  refine z_wp_run (cut := [5]) 60 _ _ _ _ ?_
  simp (maxSteps := 1000000) (disch := omega) only [z_wp, Bool.false_eq_true, ↓reduceIte, z_e10, z_e01, eq_self, Int32.reduceLT, Int32.reduceLE, Int32.reduceGT, Int32.reduceGE, z_in, cond_true, cond_false, Nat.reduceAdd, Nat.reduceBEq, z_nth, z_set, z_clr, z_st1, z_st2, z_isL, z_opt, z_pop, z_cats, z_cat, c_X9_set_0, c_X9_set_1, c_X9_set_2, c_X9_set_3, c_X9_set_4, c_X9_set_5, o_aload, o_callv, o_getr, o_iload, o_zret, z_len, z_elt, z_isI, z_isJ, Nat.reduceEqDiff, Nat.reduceLeDiff, Nat.reduceLT, Nat.reduceSub, Nat.reduceMul, not_false_eq_true, not_true_eq_false, true_and, and_true, true_or, or_true, false_or, or_false, true_implies, false_implies, implies_true, forall_const, and_self, ne_eq, Classical.not_not, z_up2, z_cp2, z_upL1, z_upL2, if_true, if_false, and_false, false_and, ge_iff_le, gt_iff_lt, nI_add, pk_mul, nI_1, zn_ltT, zn_ltF, zn_leT, zn_leF, zn_eqT, zn_eqF, zn_in, zn_cl, zn_sub, zn_upS, zn_upN, zn_upO, zn_z, zn_lt0, zn_le0, zn_0le, zn_m1, zn_in0, zn_in1, zn_cl0, zn_cl1, zn_g1, zn_1F, zn_1T, zn_zT, zn_1le, zn_lt1, zn_le1]
  refine hq _ ?_
  refine z_go (cut := []) 60 ?_
  simp (maxSteps := 1000000) (disch := omega) only [z_wp, Bool.false_eq_true, ↓reduceIte, z_e10, z_e01, eq_self, Int32.reduceLT, Int32.reduceLE, Int32.reduceGT, Int32.reduceGE, z_in, cond_true, cond_false, Nat.reduceAdd, Nat.reduceBEq, z_nth, z_set, z_clr, z_st1, z_st2, z_isL, z_opt, z_pop, z_cats, z_cat, c_X9_set_0, c_X9_set_1, c_X9_set_2, c_X9_set_3, c_X9_set_4, c_X9_set_5, o_aload, o_callv, o_getr, o_iload, o_zret, z_len, z_elt, z_isI, z_isJ, Nat.reduceEqDiff, Nat.reduceLeDiff, Nat.reduceLT, Nat.reduceSub, Nat.reduceMul, not_false_eq_true, not_true_eq_false, true_and, and_true, true_or, or_true, false_or, or_false, true_implies, false_implies, implies_true, forall_const, and_self, ne_eq, Classical.not_not, z_up2, z_cp2, z_upL1, z_upL2, if_true, if_false, and_false, false_and, ge_iff_le, gt_iff_lt, nI_add, pk_mul, nI_1, zn_ltT, zn_ltF, zn_leT, zn_leF, zn_eqT, zn_eqF, zn_in, zn_cl, zn_sub, zn_upS, zn_upN, zn_upO, zn_z, zn_lt0, zn_le0, zn_0le, zn_m1, zn_in0, zn_in1, zn_cl0, zn_cl1, zn_g1, zn_1F, zn_1T, zn_zT, zn_1le, zn_lt1, zn_le1]
  exact ⟨hv, q⟩
theorem e_X9_tag {h : Nat} {a0 : zId} {a1 : Int32} {a2 : Int32} {a3 : Int32} {M : zMem} {K : zK} (ha0 : (a0.1 == 99) = false) (q : z_run (z_nop k_X9_tag) (z_call h) K 0 [.inr (.inr a0), .inl a1, .inl a2, .inl a3] [] M) : z_call (h + 1) 123 [.inr (.inr a0), .inl a1, .inl a2, .inl a3] M K := ⟨by simp only [List.all_cons, List.all_nil, z_isU, ha0]; rfl, q⟩
theorem c_X9_tag_0 : z_nop k_X9_tag 0 = o_aload 0 := rfl
theorem c_X9_tag_1 : z_nop k_X9_tag 1 = o_getr 10 (fun w i => (9, 0, 0)) := rfl
theorem c_X9_tag_2 : z_nop k_X9_tag 2 = o_iload 1 := rfl
theorem c_X9_tag_3 : z_nop k_X9_tag 3 = o_iload 2 := rfl
theorem c_X9_tag_4 : z_nop k_X9_tag 4 = o_iload 3 := rfl
theorem c_X9_tag_5 : z_nop k_X9_tag 5 = o_callv 9 96 4 := rfl
theorem c_X9_tag_6 : z_nop k_X9_tag 6 = o_zret := rfl

theorem w9_tag {h : Nat} {M M2 : zMem} {a0 a1 a2 : Int32} {v : Int32} {K : zK} (hv : v = 0 ∨ v = 1) (hq : ∀ K2 : zK, K2 (some (.inl v)) M2 → z_call h 96 [.inr (.inr (9, 0, 0)), .inl a0, .inl a1, .inl a2] M K2) (q : K (some (.inl v)) M2) : z_call (h + 1) 123 [.inr (.inr (10, 0, 0)), .inl a0, .inl a1, .inl a2] M K := by
  refine e_X9_tag rfl ?_
  refine z_wp_run (cut := [6]) 60 _ _ _ _ ?_
  simp (maxSteps := 1000000) (disch := omega) only [z_wp, Bool.false_eq_true, ↓reduceIte, z_e10, z_e01, eq_self, Int32.reduceLT, Int32.reduceLE, Int32.reduceGT, Int32.reduceGE, z_in, cond_true, cond_false, Nat.reduceAdd, Nat.reduceBEq, z_nth, z_set, z_clr, z_st1, z_st2, z_isL, z_opt, z_pop, z_cats, z_cat, c_X9_tag_0, c_X9_tag_1, c_X9_tag_2, c_X9_tag_3, c_X9_tag_4, c_X9_tag_5, c_X9_tag_6, o_aload, o_callv, o_getr, o_iload, o_zret, z_len, z_elt, z_isI, z_isJ, Nat.reduceEqDiff, Nat.reduceLeDiff, Nat.reduceLT, Nat.reduceSub, Nat.reduceMul, not_false_eq_true, not_true_eq_false, true_and, and_true, true_or, or_true, false_or, or_false, true_implies, false_implies, implies_true, forall_const, and_self, ne_eq, Classical.not_not, z_up2, z_cp2, z_upL1, z_upL2, if_true, if_false, and_false, false_and, ge_iff_le, gt_iff_lt, nI_add, pk_mul, nI_1, zn_ltT, zn_ltF, zn_leT, zn_leF, zn_eqT, zn_eqF, zn_in, zn_cl, zn_sub, zn_upS, zn_upN, zn_upO, zn_z, zn_lt0, zn_le0, zn_0le, zn_m1, zn_in0, zn_in1, zn_cl0, zn_cl1, zn_g1, zn_1F, zn_1T, zn_zT, zn_1le, zn_lt1, zn_le1]
  refine hq _ ?_
  refine z_go (cut := []) 60 ?_
  simp (maxSteps := 1000000) (disch := omega) only [z_wp, Bool.false_eq_true, ↓reduceIte, z_e10, z_e01, eq_self, Int32.reduceLT, Int32.reduceLE, Int32.reduceGT, Int32.reduceGE, z_in, cond_true, cond_false, Nat.reduceAdd, Nat.reduceBEq, z_nth, z_set, z_clr, z_st1, z_st2, z_isL, z_opt, z_pop, z_cats, z_cat, c_X9_tag_0, c_X9_tag_1, c_X9_tag_2, c_X9_tag_3, c_X9_tag_4, c_X9_tag_5, c_X9_tag_6, o_aload, o_callv, o_getr, o_iload, o_zret, z_len, z_elt, z_isI, z_isJ, Nat.reduceEqDiff, Nat.reduceLeDiff, Nat.reduceLT, Nat.reduceSub, Nat.reduceMul, not_false_eq_true, not_true_eq_false, true_and, and_true, true_or, or_true, false_or, or_false, true_implies, false_implies, implies_true, forall_const, and_self, ne_eq, Classical.not_not, z_up2, z_cp2, z_upL1, z_upL2, if_true, if_false, and_false, false_and, ge_iff_le, gt_iff_lt, nI_add, pk_mul, nI_1, zn_ltT, zn_ltF, zn_leT, zn_leF, zn_eqT, zn_eqF, zn_in, zn_cl, zn_sub, zn_upS, zn_upN, zn_upO, zn_z, zn_lt0, zn_le0, zn_0le, zn_m1, zn_in0, zn_in1, zn_cl0, zn_cl1, zn_g1, zn_1F, zn_1T, zn_zT, zn_1le, zn_lt1, zn_le1]
  exact ⟨hv, q⟩
theorem e_X9_move {h : Nat} {a0 : zId} {a1 : Int32} {a2 : Int32} {M : zMem} {K : zK} (ha0 : (a0.1 == 99) = false) (q : z_run (z_nop k_X9_move) (z_call h) K 0 [.inr (.inr a0), .inl a1, .inl a2] [] M) : z_call (h + 1) 125 [.inr (.inr a0), .inl a1, .inl a2] M K := ⟨by simp only [List.all_cons, List.all_nil, z_isU, ha0]; rfl, q⟩
theorem c_X9_move_0 : z_nop k_X9_move 0 = o_aload 0 := rfl
theorem c_X9_move_1 : z_nop k_X9_move 1 = o_getr 10 (fun w i => (9, 0, 0)) := rfl
theorem c_X9_move_2 : z_nop k_X9_move 2 = o_iload 1 := rfl
theorem c_X9_move_3 : z_nop k_X9_move 3 = o_iload 2 := rfl
theorem c_X9_move_4 : z_nop k_X9_move 4 = o_callv 9 97 3 := rfl
theorem c_X9_move_5 : z_nop k_X9_move 5 = o_zret := rfl

theorem w9_move {h : Nat} {M M2 : zMem} {a0 a1 : Int32} {v : Int32} {K : zK} (hv : v = 0 ∨ v = 1) (hq : ∀ K2 : zK, K2 (some (.inl v)) M2 → z_call h 97 [.inr (.inr (9, 0, 0)), .inl a0, .inl a1] M K2) (q : K (some (.inl v)) M2) : z_call (h + 1) 125 [.inr (.inr (10, 0, 0)), .inl a0, .inl a1] M K := by
  refine e_X9_move rfl ?_
  refine z_wp_run (cut := [5]) 60 _ _ _ _ ?_
  simp (maxSteps := 1000000) (disch := omega) only [z_wp, Bool.false_eq_true, ↓reduceIte, z_e10, z_e01, eq_self, Int32.reduceLT, Int32.reduceLE, Int32.reduceGT, Int32.reduceGE, z_in, cond_true, cond_false, Nat.reduceAdd, Nat.reduceBEq, z_nth, z_set, z_clr, z_st1, z_st2, z_isL, z_opt, z_pop, z_cats, z_cat, c_X9_move_0, c_X9_move_1, c_X9_move_2, c_X9_move_3, c_X9_move_4, c_X9_move_5, o_aload, o_callv, o_getr, o_iload, o_zret, z_len, z_elt, z_isI, z_isJ, Nat.reduceEqDiff, Nat.reduceLeDiff, Nat.reduceLT, Nat.reduceSub, Nat.reduceMul, not_false_eq_true, not_true_eq_false, true_and, and_true, true_or, or_true, false_or, or_false, true_implies, false_implies, implies_true, forall_const, and_self, ne_eq, Classical.not_not, z_up2, z_cp2, z_upL1, z_upL2, if_true, if_false, and_false, false_and, ge_iff_le, gt_iff_lt, nI_add, pk_mul, nI_1, zn_ltT, zn_ltF, zn_leT, zn_leF, zn_eqT, zn_eqF, zn_in, zn_cl, zn_sub, zn_upS, zn_upN, zn_upO, zn_z, zn_lt0, zn_le0, zn_0le, zn_m1, zn_in0, zn_in1, zn_cl0, zn_cl1, zn_g1, zn_1F, zn_1T, zn_zT, zn_1le, zn_lt1, zn_le1]
  refine hq _ ?_
  refine z_go (cut := []) 60 ?_
  simp (maxSteps := 1000000) (disch := omega) only [z_wp, Bool.false_eq_true, ↓reduceIte, z_e10, z_e01, eq_self, Int32.reduceLT, Int32.reduceLE, Int32.reduceGT, Int32.reduceGE, z_in, cond_true, cond_false, Nat.reduceAdd, Nat.reduceBEq, z_nth, z_set, z_clr, z_st1, z_st2, z_isL, z_opt, z_pop, z_cats, z_cat, c_X9_move_0, c_X9_move_1, c_X9_move_2, c_X9_move_3, c_X9_move_4, c_X9_move_5, o_aload, o_callv, o_getr, o_iload, o_zret, z_len, z_elt, z_isI, z_isJ, Nat.reduceEqDiff, Nat.reduceLeDiff, Nat.reduceLT, Nat.reduceSub, Nat.reduceMul, not_false_eq_true, not_true_eq_false, true_and, and_true, true_or, or_true, false_or, or_false, true_implies, false_implies, implies_true, forall_const, and_self, ne_eq, Classical.not_not, z_up2, z_cp2, z_upL1, z_upL2, if_true, if_false, and_false, false_and, ge_iff_le, gt_iff_lt, nI_add, pk_mul, nI_1, zn_ltT, zn_ltF, zn_leT, zn_leF, zn_eqT, zn_eqF, zn_in, zn_cl, zn_sub, zn_upS, zn_upN, zn_upO, zn_z, zn_lt0, zn_le0, zn_0le, zn_m1, zn_in0, zn_in1, zn_cl0, zn_cl1, zn_g1, zn_1F, zn_1T, zn_zT, zn_1le, zn_lt1, zn_le1]
  exact ⟨hv, q⟩
theorem e_X9_power {h : Nat} {a0 : zId} {a1 : Int32} {a2 : Int32} {M : zMem} {K : zK} (ha0 : (a0.1 == 99) = false) (q : z_run (z_nop k_X9_power) (z_call h) K 0 [.inr (.inr a0), .inl a1, .inl a2] [] M) : z_call (h + 1) 126 [.inr (.inr a0), .inl a1, .inl a2] M K := ⟨by simp only [List.all_cons, List.all_nil, z_isU, ha0]; rfl, q⟩
theorem c_X9_power_0 : z_nop k_X9_power 0 = o_aload 0 := rfl
theorem c_X9_power_1 : z_nop k_X9_power 1 = o_getr 10 (fun w i => (9, 0, 0)) := rfl
theorem c_X9_power_2 : z_nop k_X9_power 2 = o_iload 1 := rfl
theorem c_X9_power_3 : z_nop k_X9_power 3 = o_iload 2 := rfl
theorem c_X9_power_4 : z_nop k_X9_power 4 = o_callv 9 98 3 := rfl
theorem c_X9_power_5 : z_nop k_X9_power 5 = o_zret := rfl

theorem w9_power {h : Nat} {M M2 : zMem} {a0 a1 : Int32} {v : Int32} {K : zK} (hv : v = 0 ∨ v = 1) (hq : ∀ K2 : zK, K2 (some (.inl v)) M2 → z_call h 98 [.inr (.inr (9, 0, 0)), .inl a0, .inl a1] M K2) (q : K (some (.inl v)) M2) : z_call (h + 1) 126 [.inr (.inr (10, 0, 0)), .inl a0, .inl a1] M K := by
  refine e_X9_power rfl ?_
  refine z_wp_run (cut := [5]) 60 _ _ _ _ ?_
  simp (maxSteps := 1000000) (disch := omega) only [z_wp, Bool.false_eq_true, ↓reduceIte, z_e10, z_e01, eq_self, Int32.reduceLT, Int32.reduceLE, Int32.reduceGT, Int32.reduceGE, z_in, cond_true, cond_false, Nat.reduceAdd, Nat.reduceBEq, z_nth, z_set, z_clr, z_st1, z_st2, z_isL, z_opt, z_pop, z_cats, z_cat, c_X9_power_0, c_X9_power_1, c_X9_power_2, c_X9_power_3, c_X9_power_4, c_X9_power_5, o_aload, o_callv, o_getr, o_iload, o_zret, z_len, z_elt, z_isI, z_isJ, Nat.reduceEqDiff, Nat.reduceLeDiff, Nat.reduceLT, Nat.reduceSub, Nat.reduceMul, not_false_eq_true, not_true_eq_false, true_and, and_true, true_or, or_true, false_or, or_false, true_implies, false_implies, implies_true, forall_const, and_self, ne_eq, Classical.not_not, z_up2, z_cp2, z_upL1, z_upL2, if_true, if_false, and_false, false_and, ge_iff_le, gt_iff_lt, nI_add, pk_mul, nI_1, zn_ltT, zn_ltF, zn_leT, zn_leF, zn_eqT, zn_eqF, zn_in, zn_cl, zn_sub, zn_upS, zn_upN, zn_upO, zn_z, zn_lt0, zn_le0, zn_0le, zn_m1, zn_in0, zn_in1, zn_cl0, zn_cl1, zn_g1, zn_1F, zn_1T, zn_zT, zn_1le, zn_lt1, zn_le1]
  refine hq _ ?_
  refine z_go (cut := []) 60 ?_
  simp (maxSteps := 1000000) (disch := omega) only [z_wp, Bool.false_eq_true, ↓reduceIte, z_e10, z_e01, eq_self, Int32.reduceLT, Int32.reduceLE, Int32.reduceGT, Int32.reduceGE, z_in, cond_true, cond_false, Nat.reduceAdd, Nat.reduceBEq, z_nth, z_set, z_clr, z_st1, z_st2, z_isL, z_opt, z_pop, z_cats, z_cat, c_X9_power_0, c_X9_power_1, c_X9_power_2, c_X9_power_3, c_X9_power_4, c_X9_power_5, o_aload, o_callv, o_getr, o_iload, o_zret, z_len, z_elt, z_isI, z_isJ, Nat.reduceEqDiff, Nat.reduceLeDiff, Nat.reduceLT, Nat.reduceSub, Nat.reduceMul, not_false_eq_true, not_true_eq_false, true_and, and_true, true_or, or_true, false_or, or_false, true_implies, false_implies, implies_true, forall_const, and_self, ne_eq, Classical.not_not, z_up2, z_cp2, z_upL1, z_upL2, if_true, if_false, and_false, false_and, ge_iff_le, gt_iff_lt, nI_add, pk_mul, nI_1, zn_ltT, zn_ltF, zn_leT, zn_leF, zn_eqT, zn_eqF, zn_in, zn_cl, zn_sub, zn_upS, zn_upN, zn_upO, zn_z, zn_lt0, zn_le0, zn_0le, zn_m1, zn_in0, zn_in1, zn_cl0, zn_cl1, zn_g1, zn_1F, zn_1T, zn_zT, zn_1le, zn_lt1, zn_le1]
  exact ⟨hv, q⟩
theorem e_X9_select {h : Nat} {a0 : zId} {a1 : Int32} {a2 : Int32} {a3 : Int32} {a4 : Int32} {a5 : Int32} {a6 : Int32} {M : zMem} {K : zK} (ha0 : (a0.1 == 99) = false) (q : z_run (z_nop k_X9_select) (z_call h) K 0 [.inr (.inr a0), .inl a1, .inl a2, .inl a3, .inl a4, .inl a5, .inl a6] [] M) : z_call (h + 1) 127 [.inr (.inr a0), .inl a1, .inl a2, .inl a3, .inl a4, .inl a5, .inl a6] M K := ⟨by simp only [List.all_cons, List.all_nil, z_isU, ha0]; rfl, q⟩
theorem c_X9_select_0 : z_nop k_X9_select 0 = o_aload 0 := rfl
theorem c_X9_select_1 : z_nop k_X9_select 1 = o_getr 10 (fun w i => (9, 0, 0)) := rfl
theorem c_X9_select_2 : z_nop k_X9_select 2 = o_iload 1 := rfl
theorem c_X9_select_3 : z_nop k_X9_select 3 = o_iload 2 := rfl
theorem c_X9_select_4 : z_nop k_X9_select 4 = o_iload 3 := rfl
theorem c_X9_select_5 : z_nop k_X9_select 5 = o_iload 4 := rfl
theorem c_X9_select_6 : z_nop k_X9_select 6 = o_iload 5 := rfl
theorem c_X9_select_7 : z_nop k_X9_select 7 = o_iload 6 := rfl
theorem c_X9_select_8 : z_nop k_X9_select 8 = o_callv 9 106 7 := rfl
theorem c_X9_select_9 : z_nop k_X9_select 9 = o_iret := rfl

theorem w9_select {h : Nat} {M M2 : zMem} {a0 a1 a2 a3 a4 a5 : Int32} {v : Int32} {K : zK} (hq : ∀ K2 : zK, K2 (some (.inl v)) M2 → z_call h 106 [.inr (.inr (9, 0, 0)), .inl a0, .inl a1, .inl a2, .inl a3, .inl a4, .inl a5] M K2) (q : K (some (.inl v)) M2) : z_call (h + 1) 127 [.inr (.inr (10, 0, 0)), .inl a0, .inl a1, .inl a2, .inl a3, .inl a4, .inl a5] M K := by
  refine e_X9_select rfl ?_
  refine z_wp_run (cut := [9]) 60 _ _ _ _ ?_
  simp (maxSteps := 1000000) (disch := omega) only [z_wp, Bool.false_eq_true, ↓reduceIte, z_e10, z_e01, eq_self, Int32.reduceLT, Int32.reduceLE, Int32.reduceGT, Int32.reduceGE, z_in, cond_true, cond_false, Nat.reduceAdd, Nat.reduceBEq, z_nth, z_set, z_clr, z_st1, z_st2, z_isL, z_opt, z_pop, z_cats, z_cat, c_X9_select_0, c_X9_select_1, c_X9_select_2, c_X9_select_3, c_X9_select_4, c_X9_select_5, c_X9_select_6, c_X9_select_7, c_X9_select_8, c_X9_select_9, o_aload, o_callv, o_getr, o_iload, o_iret, z_len, z_elt, z_isI, z_isJ, Nat.reduceEqDiff, Nat.reduceLeDiff, Nat.reduceLT, Nat.reduceSub, Nat.reduceMul, not_false_eq_true, not_true_eq_false, true_and, and_true, true_or, or_true, false_or, or_false, true_implies, false_implies, implies_true, forall_const, and_self, ne_eq, Classical.not_not, z_up2, z_cp2, z_upL1, z_upL2, if_true, if_false, and_false, false_and, ge_iff_le, gt_iff_lt, nI_add, pk_mul, nI_1, zn_ltT, zn_ltF, zn_leT, zn_leF, zn_eqT, zn_eqF, zn_in, zn_cl, zn_sub, zn_upS, zn_upN, zn_upO, zn_z, zn_lt0, zn_le0, zn_0le, zn_m1, zn_in0, zn_in1, zn_cl0, zn_cl1, zn_g1, zn_1F, zn_1T, zn_zT, zn_1le, zn_lt1, zn_le1]
  refine hq _ ?_
  refine z_go (cut := []) 60 ?_
  simp (maxSteps := 1000000) (disch := omega) only [z_wp, Bool.false_eq_true, ↓reduceIte, z_e10, z_e01, eq_self, Int32.reduceLT, Int32.reduceLE, Int32.reduceGT, Int32.reduceGE, z_in, cond_true, cond_false, Nat.reduceAdd, Nat.reduceBEq, z_nth, z_set, z_clr, z_st1, z_st2, z_isL, z_opt, z_pop, z_cats, z_cat, c_X9_select_0, c_X9_select_1, c_X9_select_2, c_X9_select_3, c_X9_select_4, c_X9_select_5, c_X9_select_6, c_X9_select_7, c_X9_select_8, c_X9_select_9, o_aload, o_callv, o_getr, o_iload, o_iret, z_len, z_elt, z_isI, z_isJ, Nat.reduceEqDiff, Nat.reduceLeDiff, Nat.reduceLT, Nat.reduceSub, Nat.reduceMul, not_false_eq_true, not_true_eq_false, true_and, and_true, true_or, or_true, false_or, or_false, true_implies, false_implies, implies_true, forall_const, and_self, ne_eq, Classical.not_not, z_up2, z_cp2, z_upL1, z_upL2, if_true, if_false, and_false, false_and, ge_iff_le, gt_iff_lt, nI_add, pk_mul, nI_1, zn_ltT, zn_ltF, zn_leT, zn_leF, zn_eqT, zn_eqF, zn_in, zn_cl, zn_sub, zn_upS, zn_upN, zn_upO, zn_z, zn_lt0, zn_le0, zn_0le, zn_m1, zn_in0, zn_in1, zn_cl0, zn_cl1, zn_g1, zn_1F, zn_1T, zn_zT, zn_1le, zn_lt1, zn_le1]
  exact q
theorem e_X9_put {h : Nat} {a0 : zId} {a1 : Int32} {a2 : Int32} {a3 : Int32} {a4 : Int32} {a5 : Int32} {M : zMem} {K : zK} (ha0 : (a0.1 == 99) = false) (q : z_run (z_nop k_X9_put) (z_call h) K 0 [.inr (.inr a0), .inl a1, .inl a2, .inl a3, .inl a4, .inl a5] [] M) : z_call (h + 1) 128 [.inr (.inr a0), .inl a1, .inl a2, .inl a3, .inl a4, .inl a5] M K := ⟨by simp only [List.all_cons, List.all_nil, z_isU, ha0]; rfl, q⟩
theorem c_X9_put_0 : z_nop k_X9_put 0 = o_aload 0 := rfl
theorem c_X9_put_1 : z_nop k_X9_put 1 = o_getr 10 (fun w i => (9, 0, 0)) := rfl
theorem c_X9_put_2 : z_nop k_X9_put 2 = o_iload 1 := rfl
theorem c_X9_put_3 : z_nop k_X9_put 3 = o_iload 2 := rfl
theorem c_X9_put_4 : z_nop k_X9_put 4 = o_iload 3 := rfl
theorem c_X9_put_5 : z_nop k_X9_put 5 = o_iload 4 := rfl
theorem c_X9_put_6 : z_nop k_X9_put 6 = o_iload 5 := rfl
theorem c_X9_put_7 : z_nop k_X9_put 7 = o_callv 9 108 6 := rfl
theorem c_X9_put_8 : z_nop k_X9_put 8 = o_zret := rfl

theorem w9_put {h : Nat} {M M2 : zMem} {a0 a1 a2 a3 a4 : Int32} {v : Int32} {K : zK} (hv : v = 0 ∨ v = 1) (hq : ∀ K2 : zK, K2 (some (.inl v)) M2 → z_call h 108 [.inr (.inr (9, 0, 0)), .inl a0, .inl a1, .inl a2, .inl a3, .inl a4] M K2) (q : K (some (.inl v)) M2) : z_call (h + 1) 128 [.inr (.inr (10, 0, 0)), .inl a0, .inl a1, .inl a2, .inl a3, .inl a4] M K := by
  refine e_X9_put rfl ?_
  refine z_wp_run (cut := [8]) 60 _ _ _ _ ?_
  simp (maxSteps := 1000000) (disch := omega) only [z_wp, Bool.false_eq_true, ↓reduceIte, z_e10, z_e01, eq_self, Int32.reduceLT, Int32.reduceLE, Int32.reduceGT, Int32.reduceGE, z_in, cond_true, cond_false, Nat.reduceAdd, Nat.reduceBEq, z_nth, z_set, z_clr, z_st1, z_st2, z_isL, z_opt, z_pop, z_cats, z_cat, c_X9_put_0, c_X9_put_1, c_X9_put_2, c_X9_put_3, c_X9_put_4, c_X9_put_5, c_X9_put_6, c_X9_put_7, c_X9_put_8, o_aload, o_callv, o_getr, o_iload, o_zret, z_len, z_elt, z_isI, z_isJ, Nat.reduceEqDiff, Nat.reduceLeDiff, Nat.reduceLT, Nat.reduceSub, Nat.reduceMul, not_false_eq_true, not_true_eq_false, true_and, and_true, true_or, or_true, false_or, or_false, true_implies, false_implies, implies_true, forall_const, and_self, ne_eq, Classical.not_not, z_up2, z_cp2, z_upL1, z_upL2, if_true, if_false, and_false, false_and, ge_iff_le, gt_iff_lt, nI_add, pk_mul, nI_1, zn_ltT, zn_ltF, zn_leT, zn_leF, zn_eqT, zn_eqF, zn_in, zn_cl, zn_sub, zn_upS, zn_upN, zn_upO, zn_z, zn_lt0, zn_le0, zn_0le, zn_m1, zn_in0, zn_in1, zn_cl0, zn_cl1, zn_g1, zn_1F, zn_1T, zn_zT, zn_1le, zn_lt1, zn_le1]
  refine hq _ ?_
  refine z_go (cut := []) 60 ?_
  simp (maxSteps := 1000000) (disch := omega) only [z_wp, Bool.false_eq_true, ↓reduceIte, z_e10, z_e01, eq_self, Int32.reduceLT, Int32.reduceLE, Int32.reduceGT, Int32.reduceGE, z_in, cond_true, cond_false, Nat.reduceAdd, Nat.reduceBEq, z_nth, z_set, z_clr, z_st1, z_st2, z_isL, z_opt, z_pop, z_cats, z_cat, c_X9_put_0, c_X9_put_1, c_X9_put_2, c_X9_put_3, c_X9_put_4, c_X9_put_5, c_X9_put_6, c_X9_put_7, c_X9_put_8, o_aload, o_callv, o_getr, o_iload, o_zret, z_len, z_elt, z_isI, z_isJ, Nat.reduceEqDiff, Nat.reduceLeDiff, Nat.reduceLT, Nat.reduceSub, Nat.reduceMul, not_false_eq_true, not_true_eq_false, true_and, and_true, true_or, or_true, false_or, or_false, true_implies, false_implies, implies_true, forall_const, and_self, ne_eq, Classical.not_not, z_up2, z_cp2, z_upL1, z_upL2, if_true, if_false, and_false, false_and, ge_iff_le, gt_iff_lt, nI_add, pk_mul, nI_1, zn_ltT, zn_ltF, zn_leT, zn_leF, zn_eqT, zn_eqF, zn_in, zn_cl, zn_sub, zn_upS, zn_upN, zn_upO, zn_z, zn_lt0, zn_le0, zn_0le, zn_m1, zn_in0, zn_in1, zn_cl0, zn_cl1, zn_g1, zn_1F, zn_1T, zn_zT, zn_1le, zn_lt1, zn_le1]
  exact ⟨hv, q⟩
theorem e_X9_begin {h : Nat} {a0 : zId} {a1 : Int32} {a2 : Int32} {a3 : Int32} {a4 : Int32} {a5 : Int32} {M : zMem} {K : zK} (ha0 : (a0.1 == 99) = false) (q : z_run (z_nop k_X9_begin) (z_call h) K 0 [.inr (.inr a0), .inl a1, .inl a2, .inl a3, .inl a4, .inl a5] [] M) : z_call (h + 1) 129 [.inr (.inr a0), .inl a1, .inl a2, .inl a3, .inl a4, .inl a5] M K := ⟨by simp only [List.all_cons, List.all_nil, z_isU, ha0]; rfl, q⟩
theorem c_X9_begin_0 : z_nop k_X9_begin 0 = o_aload 0 := rfl
theorem c_X9_begin_1 : z_nop k_X9_begin 1 = o_getr 10 (fun w i => (9, 0, 0)) := rfl
theorem c_X9_begin_2 : z_nop k_X9_begin 2 = o_iload 1 := rfl
theorem c_X9_begin_3 : z_nop k_X9_begin 3 = o_iload 2 := rfl
theorem c_X9_begin_4 : z_nop k_X9_begin 4 = o_iload 3 := rfl
theorem c_X9_begin_5 : z_nop k_X9_begin 5 = o_iload 4 := rfl
theorem c_X9_begin_6 : z_nop k_X9_begin 6 = o_iload 5 := rfl
theorem c_X9_begin_7 : z_nop k_X9_begin 7 = o_call 40 6 := rfl
theorem c_X9_begin_8 : z_nop k_X9_begin 8 = o_iret := rfl

theorem w9_begin {h : Nat} {M M2 : zMem} {a0 a1 a2 a3 a4 : Int32} {v : Int32} {K : zK} (hq : ∀ K2 : zK, K2 (some (.inl v)) M2 → z_call h 40 [.inr (.inr (9, 0, 0)), .inl a0, .inl a1, .inl a2, .inl a3, .inl a4] M K2) (q : K (some (.inl v)) M2) : z_call (h + 1) 129 [.inr (.inr (10, 0, 0)), .inl a0, .inl a1, .inl a2, .inl a3, .inl a4] M K := by
  refine e_X9_begin rfl ?_
  refine z_wp_run (cut := [8]) 60 _ _ _ _ ?_
  simp (maxSteps := 1000000) (disch := omega) only [z_wp, Bool.false_eq_true, ↓reduceIte, z_e10, z_e01, eq_self, Int32.reduceLT, Int32.reduceLE, Int32.reduceGT, Int32.reduceGE, z_in, cond_true, cond_false, Nat.reduceAdd, Nat.reduceBEq, z_nth, z_set, z_clr, z_st1, z_st2, z_isL, z_opt, z_pop, z_cats, z_cat, c_X9_begin_0, c_X9_begin_1, c_X9_begin_2, c_X9_begin_3, c_X9_begin_4, c_X9_begin_5, c_X9_begin_6, c_X9_begin_7, c_X9_begin_8, o_aload, o_call, o_getr, o_iload, o_iret, z_len, z_elt, z_isI, z_isJ, Nat.reduceEqDiff, Nat.reduceLeDiff, Nat.reduceLT, Nat.reduceSub, Nat.reduceMul, not_false_eq_true, not_true_eq_false, true_and, and_true, true_or, or_true, false_or, or_false, true_implies, false_implies, implies_true, forall_const, and_self, ne_eq, Classical.not_not, z_up2, z_cp2, z_upL1, z_upL2, if_true, if_false, and_false, false_and, ge_iff_le, gt_iff_lt, nI_add, pk_mul, nI_1, zn_ltT, zn_ltF, zn_leT, zn_leF, zn_eqT, zn_eqF, zn_in, zn_cl, zn_sub, zn_upS, zn_upN, zn_upO, zn_z, zn_lt0, zn_le0, zn_0le, zn_m1, zn_in0, zn_in1, zn_cl0, zn_cl1, zn_g1, zn_1F, zn_1T, zn_zT, zn_1le, zn_lt1, zn_le1]
  refine hq _ ?_
  refine z_go (cut := []) 60 ?_
  simp (maxSteps := 1000000) (disch := omega) only [z_wp, Bool.false_eq_true, ↓reduceIte, z_e10, z_e01, eq_self, Int32.reduceLT, Int32.reduceLE, Int32.reduceGT, Int32.reduceGE, z_in, cond_true, cond_false, Nat.reduceAdd, Nat.reduceBEq, z_nth, z_set, z_clr, z_st1, z_st2, z_isL, z_opt, z_pop, z_cats, z_cat, c_X9_begin_0, c_X9_begin_1, c_X9_begin_2, c_X9_begin_3, c_X9_begin_4, c_X9_begin_5, c_X9_begin_6, c_X9_begin_7, c_X9_begin_8, o_aload, o_call, o_getr, o_iload, o_iret, z_len, z_elt, z_isI, z_isJ, Nat.reduceEqDiff, Nat.reduceLeDiff, Nat.reduceLT, Nat.reduceSub, Nat.reduceMul, not_false_eq_true, not_true_eq_false, true_and, and_true, true_or, or_true, false_or, or_false, true_implies, false_implies, implies_true, forall_const, and_self, ne_eq, Classical.not_not, z_up2, z_cp2, z_upL1, z_upL2, if_true, if_false, and_false, false_and, ge_iff_le, gt_iff_lt, nI_add, pk_mul, nI_1, zn_ltT, zn_ltF, zn_leT, zn_leF, zn_eqT, zn_eqF, zn_in, zn_cl, zn_sub, zn_upS, zn_upN, zn_upO, zn_z, zn_lt0, zn_le0, zn_0le, zn_m1, zn_in0, zn_in1, zn_cl0, zn_cl1, zn_g1, zn_1F, zn_1T, zn_zT, zn_1le, zn_lt1, zn_le1]
  exact q
theorem e_X9_stop {h : Nat} {a0 : zId} {a1 : Int32} {M : zMem} {K : zK} (ha0 : (a0.1 == 99) = false) (q : z_run (z_nop k_X9_stop) (z_call h) K 0 [.inr (.inr a0), .inl a1] [] M) : z_call (h + 1) 130 [.inr (.inr a0), .inl a1] M K := ⟨by simp only [List.all_cons, List.all_nil, z_isU, ha0]; rfl, q⟩
theorem c_X9_stop_0 : z_nop k_X9_stop 0 = o_aload 0 := rfl
theorem c_X9_stop_1 : z_nop k_X9_stop 1 = o_getr 10 (fun w i => (9, 0, 0)) := rfl
theorem c_X9_stop_2 : z_nop k_X9_stop 2 = o_iload 1 := rfl
theorem c_X9_stop_3 : z_nop k_X9_stop 3 = o_call 41 2 := rfl
theorem c_X9_stop_4 : z_nop k_X9_stop 4 = o_zret := rfl

theorem w9_stop {h : Nat} {M M2 : zMem} {a0 : Int32} {v : Int32} {K : zK} (hv : v = 0 ∨ v = 1) (hq : ∀ K2 : zK, K2 (some (.inl v)) M2 → z_call h 41 [.inr (.inr (9, 0, 0)), .inl a0] M K2) (q : K (some (.inl v)) M2) : z_call (h + 1) 130 [.inr (.inr (10, 0, 0)), .inl a0] M K := by
  refine e_X9_stop rfl ?_
  refine z_wp_run (cut := [4]) 60 _ _ _ _ ?_
  simp (maxSteps := 1000000) (disch := omega) only [z_wp, Bool.false_eq_true, ↓reduceIte, z_e10, z_e01, eq_self, Int32.reduceLT, Int32.reduceLE, Int32.reduceGT, Int32.reduceGE, z_in, cond_true, cond_false, Nat.reduceAdd, Nat.reduceBEq, z_nth, z_set, z_clr, z_st1, z_st2, z_isL, z_opt, z_pop, z_cats, z_cat, c_X9_stop_0, c_X9_stop_1, c_X9_stop_2, c_X9_stop_3, c_X9_stop_4, o_aload, o_call, o_getr, o_iload, o_zret, z_len, z_elt, z_isI, z_isJ, Nat.reduceEqDiff, Nat.reduceLeDiff, Nat.reduceLT, Nat.reduceSub, Nat.reduceMul, not_false_eq_true, not_true_eq_false, true_and, and_true, true_or, or_true, false_or, or_false, true_implies, false_implies, implies_true, forall_const, and_self, ne_eq, Classical.not_not, z_up2, z_cp2, z_upL1, z_upL2, if_true, if_false, and_false, false_and, ge_iff_le, gt_iff_lt, nI_add, pk_mul, nI_1, zn_ltT, zn_ltF, zn_leT, zn_leF, zn_eqT, zn_eqF, zn_in, zn_cl, zn_sub, zn_upS, zn_upN, zn_upO, zn_z, zn_lt0, zn_le0, zn_0le, zn_m1, zn_in0, zn_in1, zn_cl0, zn_cl1, zn_g1, zn_1F, zn_1T, zn_zT, zn_1le, zn_lt1, zn_le1]
  refine hq _ ?_
  refine z_go (cut := []) 60 ?_
  simp (maxSteps := 1000000) (disch := omega) only [z_wp, Bool.false_eq_true, ↓reduceIte, z_e10, z_e01, eq_self, Int32.reduceLT, Int32.reduceLE, Int32.reduceGT, Int32.reduceGE, z_in, cond_true, cond_false, Nat.reduceAdd, Nat.reduceBEq, z_nth, z_set, z_clr, z_st1, z_st2, z_isL, z_opt, z_pop, z_cats, z_cat, c_X9_stop_0, c_X9_stop_1, c_X9_stop_2, c_X9_stop_3, c_X9_stop_4, o_aload, o_call, o_getr, o_iload, o_zret, z_len, z_elt, z_isI, z_isJ, Nat.reduceEqDiff, Nat.reduceLeDiff, Nat.reduceLT, Nat.reduceSub, Nat.reduceMul, not_false_eq_true, not_true_eq_false, true_and, and_true, true_or, or_true, false_or, or_false, true_implies, false_implies, implies_true, forall_const, and_self, ne_eq, Classical.not_not, z_up2, z_cp2, z_upL1, z_upL2, if_true, if_false, and_false, false_and, ge_iff_le, gt_iff_lt, nI_add, pk_mul, nI_1, zn_ltT, zn_ltF, zn_leT, zn_leF, zn_eqT, zn_eqF, zn_in, zn_cl, zn_sub, zn_upS, zn_upN, zn_upO, zn_z, zn_lt0, zn_le0, zn_0le, zn_m1, zn_in0, zn_in1, zn_cl0, zn_cl1, zn_g1, zn_1F, zn_1T, zn_zT, zn_1le, zn_lt1, zn_le1]
  exact ⟨hv, q⟩
theorem e_X9_channels {h : Nat} {a0 : zId} {a1 : Int32} {M : zMem} {K : zK} (ha0 : (a0.1 == 99) = false) (q : z_run (z_nop k_X9_channels) (z_call h) K 0 [.inr (.inr a0), .inl a1] [] M) : z_call (h + 1) 138 [.inr (.inr a0), .inl a1] M K := ⟨by simp only [List.all_cons, List.all_nil, z_isU, ha0]; rfl, q⟩
theorem c_X9_channels_0 : z_nop k_X9_channels 0 = o_aload 0 := rfl
theorem c_X9_channels_1 : z_nop k_X9_channels 1 = o_getr 10 (fun w i => (9, 0, 0)) := rfl
theorem c_X9_channels_2 : z_nop k_X9_channels 2 = o_getr 9 (fun w i => (30, w, 0)) := rfl
theorem c_X9_channels_3 : z_nop k_X9_channels 3 = o_iload 1 := rfl
theorem c_X9_channels_4 : z_nop k_X9_channels 4 = o_call 56 2 := rfl
theorem c_X9_channels_5 : z_nop k_X9_channels 5 = o_iret := rfl

theorem w9_channels {h : Nat} {M M2 : zMem} {a0 : Int32} {v : Int32} {K : zK} (hq : ∀ K2 : zK, K2 (some (.inl v)) M2 → z_call h 56 [.inr (.inr (30, 0, 0)), .inl a0] M K2) (q : K (some (.inl v)) M2) : z_call (h + 1) 138 [.inr (.inr (10, 0, 0)), .inl a0] M K := by
  refine e_X9_channels rfl ?_
  refine z_wp_run (cut := [5]) 60 _ _ _ _ ?_
  simp (maxSteps := 1000000) (disch := omega) only [z_wp, Bool.false_eq_true, ↓reduceIte, z_e10, z_e01, eq_self, Int32.reduceLT, Int32.reduceLE, Int32.reduceGT, Int32.reduceGE, z_in, cond_true, cond_false, Nat.reduceAdd, Nat.reduceBEq, z_nth, z_set, z_clr, z_st1, z_st2, z_isL, z_opt, z_pop, z_cats, z_cat, c_X9_channels_0, c_X9_channels_1, c_X9_channels_2, c_X9_channels_3, c_X9_channels_4, c_X9_channels_5, o_aload, o_call, o_getr, o_iload, o_iret, z_len, z_elt, z_isI, z_isJ, Nat.reduceEqDiff, Nat.reduceLeDiff, Nat.reduceLT, Nat.reduceSub, Nat.reduceMul, not_false_eq_true, not_true_eq_false, true_and, and_true, true_or, or_true, false_or, or_false, true_implies, false_implies, implies_true, forall_const, and_self, ne_eq, Classical.not_not, z_up2, z_cp2, z_upL1, z_upL2, if_true, if_false, and_false, false_and, ge_iff_le, gt_iff_lt, nI_add, pk_mul, nI_1, zn_ltT, zn_ltF, zn_leT, zn_leF, zn_eqT, zn_eqF, zn_in, zn_cl, zn_sub, zn_upS, zn_upN, zn_upO, zn_z, zn_lt0, zn_le0, zn_0le, zn_m1, zn_in0, zn_in1, zn_cl0, zn_cl1, zn_g1, zn_1F, zn_1T, zn_zT, zn_1le, zn_lt1, zn_le1]
  refine hq _ ?_
  refine z_go (cut := []) 60 ?_
  simp (maxSteps := 1000000) (disch := omega) only [z_wp, Bool.false_eq_true, ↓reduceIte, z_e10, z_e01, eq_self, Int32.reduceLT, Int32.reduceLE, Int32.reduceGT, Int32.reduceGE, z_in, cond_true, cond_false, Nat.reduceAdd, Nat.reduceBEq, z_nth, z_set, z_clr, z_st1, z_st2, z_isL, z_opt, z_pop, z_cats, z_cat, c_X9_channels_0, c_X9_channels_1, c_X9_channels_2, c_X9_channels_3, c_X9_channels_4, c_X9_channels_5, o_aload, o_call, o_getr, o_iload, o_iret, z_len, z_elt, z_isI, z_isJ, Nat.reduceEqDiff, Nat.reduceLeDiff, Nat.reduceLT, Nat.reduceSub, Nat.reduceMul, not_false_eq_true, not_true_eq_false, true_and, and_true, true_or, or_true, false_or, or_false, true_implies, false_implies, implies_true, forall_const, and_self, ne_eq, Classical.not_not, z_up2, z_cp2, z_upL1, z_upL2, if_true, if_false, and_false, false_and, ge_iff_le, gt_iff_lt, nI_add, pk_mul, nI_1, zn_ltT, zn_ltF, zn_leT, zn_leF, zn_eqT, zn_eqF, zn_in, zn_cl, zn_sub, zn_upS, zn_upN, zn_upO, zn_z, zn_lt0, zn_le0, zn_0le, zn_m1, zn_in0, zn_in1, zn_cl0, zn_cl1, zn_g1, zn_1F, zn_1T, zn_zT, zn_1le, zn_lt1, zn_le1]
  exact q
theorem e_X9_cover {h : Nat} {a0 : zId} {M : zMem} {K : zK} (ha0 : (a0.1 == 99) = false) (q : z_run (z_nop k_X9_cover) (z_call h) K 0 [.inr (.inr a0)] [] M) : z_call (h + 1) 139 [.inr (.inr a0)] M K := ⟨by simp only [List.all_cons, List.all_nil, z_isU, ha0]; rfl, q⟩
theorem c_X9_cover_0 : z_nop k_X9_cover 0 = o_aload 0 := rfl
theorem c_X9_cover_1 : z_nop k_X9_cover 1 = o_getr 10 (fun w i => (9, 0, 0)) := rfl
theorem c_X9_cover_2 : z_nop k_X9_cover 2 = o_getr 9 (fun w i => (30, w, 0)) := rfl
theorem c_X9_cover_3 : z_nop k_X9_cover 3 = o_call 62 1 := rfl
theorem c_X9_cover_4 : z_nop k_X9_cover 4 = o_iret := rfl

theorem w9_cover {h : Nat} {M M2 : zMem} {v : Int32} {K : zK} (hq : ∀ K2 : zK, K2 (some (.inl v)) M2 → z_call h 62 [.inr (.inr (30, 0, 0))] M K2) (q : K (some (.inl v)) M2) : z_call (h + 1) 139 [.inr (.inr (10, 0, 0))] M K := by
  refine e_X9_cover rfl ?_
  refine z_wp_run (cut := [4]) 60 _ _ _ _ ?_
  simp (maxSteps := 1000000) (disch := omega) only [z_wp, Bool.false_eq_true, ↓reduceIte, z_e10, z_e01, eq_self, Int32.reduceLT, Int32.reduceLE, Int32.reduceGT, Int32.reduceGE, z_in, cond_true, cond_false, Nat.reduceAdd, Nat.reduceBEq, z_nth, z_set, z_clr, z_st1, z_st2, z_isL, z_opt, z_pop, z_cats, z_cat, c_X9_cover_0, c_X9_cover_1, c_X9_cover_2, c_X9_cover_3, c_X9_cover_4, o_aload, o_call, o_getr, o_iret, z_len, z_elt, z_isI, z_isJ, Nat.reduceEqDiff, Nat.reduceLeDiff, Nat.reduceLT, Nat.reduceSub, Nat.reduceMul, not_false_eq_true, not_true_eq_false, true_and, and_true, true_or, or_true, false_or, or_false, true_implies, false_implies, implies_true, forall_const, and_self, ne_eq, Classical.not_not, z_up2, z_cp2, z_upL1, z_upL2, if_true, if_false, and_false, false_and, ge_iff_le, gt_iff_lt, nI_add, pk_mul, nI_1, zn_ltT, zn_ltF, zn_leT, zn_leF, zn_eqT, zn_eqF, zn_in, zn_cl, zn_sub, zn_upS, zn_upN, zn_upO, zn_z, zn_lt0, zn_le0, zn_0le, zn_m1, zn_in0, zn_in1, zn_cl0, zn_cl1, zn_g1, zn_1F, zn_1T, zn_zT, zn_1le, zn_lt1, zn_le1]
  refine hq _ ?_
  refine z_go (cut := []) 60 ?_
  simp (maxSteps := 1000000) (disch := omega) only [z_wp, Bool.false_eq_true, ↓reduceIte, z_e10, z_e01, eq_self, Int32.reduceLT, Int32.reduceLE, Int32.reduceGT, Int32.reduceGE, z_in, cond_true, cond_false, Nat.reduceAdd, Nat.reduceBEq, z_nth, z_set, z_clr, z_st1, z_st2, z_isL, z_opt, z_pop, z_cats, z_cat, c_X9_cover_0, c_X9_cover_1, c_X9_cover_2, c_X9_cover_3, c_X9_cover_4, o_aload, o_call, o_getr, o_iret, z_len, z_elt, z_isI, z_isJ, Nat.reduceEqDiff, Nat.reduceLeDiff, Nat.reduceLT, Nat.reduceSub, Nat.reduceMul, not_false_eq_true, not_true_eq_false, true_and, and_true, true_or, or_true, false_or, or_false, true_implies, false_implies, implies_true, forall_const, and_self, ne_eq, Classical.not_not, z_up2, z_cp2, z_upL1, z_upL2, if_true, if_false, and_false, false_and, ge_iff_le, gt_iff_lt, nI_add, pk_mul, nI_1, zn_ltT, zn_ltF, zn_leT, zn_leF, zn_eqT, zn_eqF, zn_in, zn_cl, zn_sub, zn_upS, zn_upN, zn_upO, zn_z, zn_lt0, zn_le0, zn_0le, zn_m1, zn_in0, zn_in1, zn_cl0, zn_cl1, zn_g1, zn_1F, zn_1T, zn_zT, zn_1le, zn_lt1, zn_le1]
  exact q
theorem e_X9_ways {h : Nat} {a0 : zId} {a1 : Int32} {a2 : Int32} {a3 : Int32} {M : zMem} {K : zK} (ha0 : (a0.1 == 99) = false) (q : z_run (z_nop k_X9_ways) (z_call h) K 0 [.inr (.inr a0), .inl a1, .inl a2, .inl a3] [] M) : z_call (h + 1) 143 [.inr (.inr a0), .inl a1, .inl a2, .inl a3] M K := ⟨by simp only [List.all_cons, List.all_nil, z_isU, ha0]; rfl, q⟩
theorem c_X9_ways_0 : z_nop k_X9_ways 0 = o_aload 0 := rfl
theorem c_X9_ways_1 : z_nop k_X9_ways 1 = o_getr 10 (fun w i => (1, 0, 0)) := rfl
theorem c_X9_ways_2 : z_nop k_X9_ways 2 = o_iload 1 := rfl
theorem c_X9_ways_3 : z_nop k_X9_ways 3 = o_iload 2 := rfl
theorem c_X9_ways_4 : z_nop k_X9_ways 4 = o_iload 3 := rfl
theorem c_X9_ways_5 : z_nop k_X9_ways 5 = o_callv 1 6 4 := rfl
theorem c_X9_ways_6 : z_nop k_X9_ways 6 = o_lret := rfl

theorem w9_ways {h : Nat} {M M2 : zMem} {a0 a1 a2 : Int32} {v : Int64} {K : zK} (hq : ∀ K2 : zK, K2 (some (.inr (.inl v))) M2 → z_call h 6 [.inr (.inr (1, 0, 0)), .inl a0, .inl a1, .inl a2] M K2) (q : K (some (.inr (.inl v))) M2) : z_call (h + 1) 143 [.inr (.inr (10, 0, 0)), .inl a0, .inl a1, .inl a2] M K := by
  refine e_X9_ways rfl ?_
  refine z_wp_run (cut := [6]) 60 _ _ _ _ ?_
  simp (maxSteps := 1000000) (disch := omega) only [z_wp, Bool.false_eq_true, ↓reduceIte, z_e10, z_e01, eq_self, Int32.reduceLT, Int32.reduceLE, Int32.reduceGT, Int32.reduceGE, z_in, cond_true, cond_false, Nat.reduceAdd, Nat.reduceBEq, z_nth, z_set, z_clr, z_st1, z_st2, z_isL, z_opt, z_pop, z_cats, z_cat, c_X9_ways_0, c_X9_ways_1, c_X9_ways_2, c_X9_ways_3, c_X9_ways_4, c_X9_ways_5, c_X9_ways_6, o_aload, o_callv, o_getr, o_iload, o_lret, z_len, z_elt, z_isI, z_isJ, Nat.reduceEqDiff, Nat.reduceLeDiff, Nat.reduceLT, Nat.reduceSub, Nat.reduceMul, not_false_eq_true, not_true_eq_false, true_and, and_true, true_or, or_true, false_or, or_false, true_implies, false_implies, implies_true, forall_const, and_self, ne_eq, Classical.not_not, z_up2, z_cp2, z_upL1, z_upL2, if_true, if_false, and_false, false_and, ge_iff_le, gt_iff_lt, nI_add, pk_mul, nI_1, zn_ltT, zn_ltF, zn_leT, zn_leF, zn_eqT, zn_eqF, zn_in, zn_cl, zn_sub, zn_upS, zn_upN, zn_upO, zn_z, zn_lt0, zn_le0, zn_0le, zn_m1, zn_in0, zn_in1, zn_cl0, zn_cl1, zn_g1, zn_1F, zn_1T, zn_zT, zn_1le, zn_lt1, zn_le1]
  refine hq _ ?_
  refine z_go (cut := []) 60 ?_
  simp (maxSteps := 1000000) (disch := omega) only [z_wp, Bool.false_eq_true, ↓reduceIte, z_e10, z_e01, eq_self, Int32.reduceLT, Int32.reduceLE, Int32.reduceGT, Int32.reduceGE, z_in, cond_true, cond_false, Nat.reduceAdd, Nat.reduceBEq, z_nth, z_set, z_clr, z_st1, z_st2, z_isL, z_opt, z_pop, z_cats, z_cat, c_X9_ways_0, c_X9_ways_1, c_X9_ways_2, c_X9_ways_3, c_X9_ways_4, c_X9_ways_5, c_X9_ways_6, o_aload, o_callv, o_getr, o_iload, o_lret, z_len, z_elt, z_isI, z_isJ, Nat.reduceEqDiff, Nat.reduceLeDiff, Nat.reduceLT, Nat.reduceSub, Nat.reduceMul, not_false_eq_true, not_true_eq_false, true_and, and_true, true_or, or_true, false_or, or_false, true_implies, false_implies, implies_true, forall_const, and_self, ne_eq, Classical.not_not, z_up2, z_cp2, z_upL1, z_upL2, if_true, if_false, and_false, false_and, ge_iff_le, gt_iff_lt, nI_add, pk_mul, nI_1, zn_ltT, zn_ltF, zn_leT, zn_leF, zn_eqT, zn_eqF, zn_in, zn_cl, zn_sub, zn_upS, zn_upN, zn_upO, zn_z, zn_lt0, zn_le0, zn_0le, zn_m1, zn_in0, zn_in1, zn_cl0, zn_cl1, zn_g1, zn_1F, zn_1T, zn_zT, zn_1le, zn_lt1, zn_le1]
  exact q
theorem e_X9_hope {h : Nat} {a0 : zId} {a1 : Int32} {a2 : Int32} {a3 : Int32} {M : zMem} {K : zK} (ha0 : (a0.1 == 99) = false) (q : z_run (z_nop k_X9_hope) (z_call h) K 0 [.inr (.inr a0), .inl a1, .inl a2, .inl a3] [] M) : z_call (h + 1) 144 [.inr (.inr a0), .inl a1, .inl a2, .inl a3] M K := ⟨by simp only [List.all_cons, List.all_nil, z_isU, ha0]; rfl, q⟩
theorem c_X9_hope_0 : z_nop k_X9_hope 0 = o_aload 0 := rfl
theorem c_X9_hope_1 : z_nop k_X9_hope 1 = o_getr 10 (fun w i => (1, 0, 0)) := rfl
theorem c_X9_hope_2 : z_nop k_X9_hope 2 = o_iload 1 := rfl
theorem c_X9_hope_3 : z_nop k_X9_hope 3 = o_iload 2 := rfl
theorem c_X9_hope_4 : z_nop k_X9_hope 4 = o_iload 3 := rfl
theorem c_X9_hope_5 : z_nop k_X9_hope 5 = o_callv 1 8 4 := rfl
theorem c_X9_hope_6 : z_nop k_X9_hope 6 = o_lret := rfl

theorem w9_hope {h : Nat} {M M2 : zMem} {a0 a1 a2 : Int32} {v : Int64} {K : zK} (hq : ∀ K2 : zK, K2 (some (.inr (.inl v))) M2 → z_call h 8 [.inr (.inr (1, 0, 0)), .inl a0, .inl a1, .inl a2] M K2) (q : K (some (.inr (.inl v))) M2) : z_call (h + 1) 144 [.inr (.inr (10, 0, 0)), .inl a0, .inl a1, .inl a2] M K := by
  refine e_X9_hope rfl ?_
  refine z_wp_run (cut := [6]) 60 _ _ _ _ ?_
  simp (maxSteps := 1000000) (disch := omega) only [z_wp, Bool.false_eq_true, ↓reduceIte, z_e10, z_e01, eq_self, Int32.reduceLT, Int32.reduceLE, Int32.reduceGT, Int32.reduceGE, z_in, cond_true, cond_false, Nat.reduceAdd, Nat.reduceBEq, z_nth, z_set, z_clr, z_st1, z_st2, z_isL, z_opt, z_pop, z_cats, z_cat, c_X9_hope_0, c_X9_hope_1, c_X9_hope_2, c_X9_hope_3, c_X9_hope_4, c_X9_hope_5, c_X9_hope_6, o_aload, o_callv, o_getr, o_iload, o_lret, z_len, z_elt, z_isI, z_isJ, Nat.reduceEqDiff, Nat.reduceLeDiff, Nat.reduceLT, Nat.reduceSub, Nat.reduceMul, not_false_eq_true, not_true_eq_false, true_and, and_true, true_or, or_true, false_or, or_false, true_implies, false_implies, implies_true, forall_const, and_self, ne_eq, Classical.not_not, z_up2, z_cp2, z_upL1, z_upL2, if_true, if_false, and_false, false_and, ge_iff_le, gt_iff_lt, nI_add, pk_mul, nI_1, zn_ltT, zn_ltF, zn_leT, zn_leF, zn_eqT, zn_eqF, zn_in, zn_cl, zn_sub, zn_upS, zn_upN, zn_upO, zn_z, zn_lt0, zn_le0, zn_0le, zn_m1, zn_in0, zn_in1, zn_cl0, zn_cl1, zn_g1, zn_1F, zn_1T, zn_zT, zn_1le, zn_lt1, zn_le1]
  refine hq _ ?_
  refine z_go (cut := []) 60 ?_
  simp (maxSteps := 1000000) (disch := omega) only [z_wp, Bool.false_eq_true, ↓reduceIte, z_e10, z_e01, eq_self, Int32.reduceLT, Int32.reduceLE, Int32.reduceGT, Int32.reduceGE, z_in, cond_true, cond_false, Nat.reduceAdd, Nat.reduceBEq, z_nth, z_set, z_clr, z_st1, z_st2, z_isL, z_opt, z_pop, z_cats, z_cat, c_X9_hope_0, c_X9_hope_1, c_X9_hope_2, c_X9_hope_3, c_X9_hope_4, c_X9_hope_5, c_X9_hope_6, o_aload, o_callv, o_getr, o_iload, o_lret, z_len, z_elt, z_isI, z_isJ, Nat.reduceEqDiff, Nat.reduceLeDiff, Nat.reduceLT, Nat.reduceSub, Nat.reduceMul, not_false_eq_true, not_true_eq_false, true_and, and_true, true_or, or_true, false_or, or_false, true_implies, false_implies, implies_true, forall_const, and_self, ne_eq, Classical.not_not, z_up2, z_cp2, z_upL1, z_upL2, if_true, if_false, and_false, false_and, ge_iff_le, gt_iff_lt, nI_add, pk_mul, nI_1, zn_ltT, zn_ltF, zn_leT, zn_leF, zn_eqT, zn_eqF, zn_in, zn_cl, zn_sub, zn_upS, zn_upN, zn_upO, zn_z, zn_lt0, zn_le0, zn_0le, zn_m1, zn_in0, zn_in1, zn_cl0, zn_cl1, zn_g1, zn_1F, zn_1T, zn_zT, zn_1le, zn_lt1, zn_le1]
  exact q
theorem e_X9_best {h : Nat} {a0 : zId} {a1 : Int32} {M : zMem} {K : zK} (ha0 : (a0.1 == 99) = false) (q : z_run (z_nop k_X9_best) (z_call h) K 0 [.inr (.inr a0), .inl a1] [] M) : z_call (h + 1) 145 [.inr (.inr a0), .inl a1] M K := ⟨by simp only [List.all_cons, List.all_nil, z_isU, ha0]; rfl, q⟩
theorem c_X9_best_0 : z_nop k_X9_best 0 = o_aload 0 := rfl
theorem c_X9_best_1 : z_nop k_X9_best 1 = o_getr 10 (fun w i => (1, 0, 0)) := rfl
theorem c_X9_best_2 : z_nop k_X9_best 2 = o_iload 1 := rfl
theorem c_X9_best_3 : z_nop k_X9_best 3 = o_callv 1 9 2 := rfl
theorem c_X9_best_4 : z_nop k_X9_best 4 = o_iret := rfl

theorem w9_best {h : Nat} {M M2 : zMem} {a0 : Int32} {v : Int32} {K : zK} (hq : ∀ K2 : zK, K2 (some (.inl v)) M2 → z_call h 9 [.inr (.inr (1, 0, 0)), .inl a0] M K2) (q : K (some (.inl v)) M2) : z_call (h + 1) 145 [.inr (.inr (10, 0, 0)), .inl a0] M K := by
  refine e_X9_best rfl ?_
  refine z_wp_run (cut := [4]) 60 _ _ _ _ ?_
  simp (maxSteps := 1000000) (disch := omega) only [z_wp, Bool.false_eq_true, ↓reduceIte, z_e10, z_e01, eq_self, Int32.reduceLT, Int32.reduceLE, Int32.reduceGT, Int32.reduceGE, z_in, cond_true, cond_false, Nat.reduceAdd, Nat.reduceBEq, z_nth, z_set, z_clr, z_st1, z_st2, z_isL, z_opt, z_pop, z_cats, z_cat, c_X9_best_0, c_X9_best_1, c_X9_best_2, c_X9_best_3, c_X9_best_4, o_aload, o_callv, o_getr, o_iload, o_iret, z_len, z_elt, z_isI, z_isJ, Nat.reduceEqDiff, Nat.reduceLeDiff, Nat.reduceLT, Nat.reduceSub, Nat.reduceMul, not_false_eq_true, not_true_eq_false, true_and, and_true, true_or, or_true, false_or, or_false, true_implies, false_implies, implies_true, forall_const, and_self, ne_eq, Classical.not_not, z_up2, z_cp2, z_upL1, z_upL2, if_true, if_false, and_false, false_and, ge_iff_le, gt_iff_lt, nI_add, pk_mul, nI_1, zn_ltT, zn_ltF, zn_leT, zn_leF, zn_eqT, zn_eqF, zn_in, zn_cl, zn_sub, zn_upS, zn_upN, zn_upO, zn_z, zn_lt0, zn_le0, zn_0le, zn_m1, zn_in0, zn_in1, zn_cl0, zn_cl1, zn_g1, zn_1F, zn_1T, zn_zT, zn_1le, zn_lt1, zn_le1]
  refine hq _ ?_
  refine z_go (cut := []) 60 ?_
  simp (maxSteps := 1000000) (disch := omega) only [z_wp, Bool.false_eq_true, ↓reduceIte, z_e10, z_e01, eq_self, Int32.reduceLT, Int32.reduceLE, Int32.reduceGT, Int32.reduceGE, z_in, cond_true, cond_false, Nat.reduceAdd, Nat.reduceBEq, z_nth, z_set, z_clr, z_st1, z_st2, z_isL, z_opt, z_pop, z_cats, z_cat, c_X9_best_0, c_X9_best_1, c_X9_best_2, c_X9_best_3, c_X9_best_4, o_aload, o_callv, o_getr, o_iload, o_iret, z_len, z_elt, z_isI, z_isJ, Nat.reduceEqDiff, Nat.reduceLeDiff, Nat.reduceLT, Nat.reduceSub, Nat.reduceMul, not_false_eq_true, not_true_eq_false, true_and, and_true, true_or, or_true, false_or, or_false, true_implies, false_implies, implies_true, forall_const, and_self, ne_eq, Classical.not_not, z_up2, z_cp2, z_upL1, z_upL2, if_true, if_false, and_false, false_and, ge_iff_le, gt_iff_lt, nI_add, pk_mul, nI_1, zn_ltT, zn_ltF, zn_leT, zn_leF, zn_eqT, zn_eqF, zn_in, zn_cl, zn_sub, zn_upS, zn_upN, zn_upO, zn_z, zn_lt0, zn_le0, zn_0le, zn_m1, zn_in0, zn_in1, zn_cl0, zn_cl1, zn_g1, zn_1F, zn_1T, zn_zT, zn_1le, zn_lt1, zn_le1]
  exact q
theorem e_X9_guess {h : Nat} {a0 : zId} {a1 : Int32} {a2 : Int32} {a3 : Int32} {M : zMem} {K : zK} (ha0 : (a0.1 == 99) = false) (q : z_run (z_nop k_X9_guess) (z_call h) K 0 [.inr (.inr a0), .inl a1, .inl a2, .inl a3] [] M) : z_call (h + 1) 146 [.inr (.inr a0), .inl a1, .inl a2, .inl a3] M K := ⟨by simp only [List.all_cons, List.all_nil, z_isU, ha0]; rfl, q⟩
theorem c_X9_guess_0 : z_nop k_X9_guess 0 = o_aload 0 := rfl
theorem c_X9_guess_1 : z_nop k_X9_guess 1 = o_getr 10 (fun w i => (1, 0, 0)) := rfl
theorem c_X9_guess_2 : z_nop k_X9_guess 2 = o_iload 1 := rfl
theorem c_X9_guess_3 : z_nop k_X9_guess 3 = o_iload 2 := rfl
theorem c_X9_guess_4 : z_nop k_X9_guess 4 = o_iload 3 := rfl
theorem c_X9_guess_5 : z_nop k_X9_guess 5 = o_callv 1 11 4 := rfl
theorem c_X9_guess_6 : z_nop k_X9_guess 6 = o_iret := rfl

theorem w9_guess {h : Nat} {M M2 : zMem} {a0 a1 a2 : Int32} {v : Int32} {K : zK} (hq : ∀ K2 : zK, K2 (some (.inl v)) M2 → z_call h 11 [.inr (.inr (1, 0, 0)), .inl a0, .inl a1, .inl a2] M K2) (q : K (some (.inl v)) M2) : z_call (h + 1) 146 [.inr (.inr (10, 0, 0)), .inl a0, .inl a1, .inl a2] M K := by
  refine e_X9_guess rfl ?_
  refine z_wp_run (cut := [6]) 60 _ _ _ _ ?_
  simp (maxSteps := 1000000) (disch := omega) only [z_wp, Bool.false_eq_true, ↓reduceIte, z_e10, z_e01, eq_self, Int32.reduceLT, Int32.reduceLE, Int32.reduceGT, Int32.reduceGE, z_in, cond_true, cond_false, Nat.reduceAdd, Nat.reduceBEq, z_nth, z_set, z_clr, z_st1, z_st2, z_isL, z_opt, z_pop, z_cats, z_cat, c_X9_guess_0, c_X9_guess_1, c_X9_guess_2, c_X9_guess_3, c_X9_guess_4, c_X9_guess_5, c_X9_guess_6, o_aload, o_callv, o_getr, o_iload, o_iret, z_len, z_elt, z_isI, z_isJ, Nat.reduceEqDiff, Nat.reduceLeDiff, Nat.reduceLT, Nat.reduceSub, Nat.reduceMul, not_false_eq_true, not_true_eq_false, true_and, and_true, true_or, or_true, false_or, or_false, true_implies, false_implies, implies_true, forall_const, and_self, ne_eq, Classical.not_not, z_up2, z_cp2, z_upL1, z_upL2, if_true, if_false, and_false, false_and, ge_iff_le, gt_iff_lt, nI_add, pk_mul, nI_1, zn_ltT, zn_ltF, zn_leT, zn_leF, zn_eqT, zn_eqF, zn_in, zn_cl, zn_sub, zn_upS, zn_upN, zn_upO, zn_z, zn_lt0, zn_le0, zn_0le, zn_m1, zn_in0, zn_in1, zn_cl0, zn_cl1, zn_g1, zn_1F, zn_1T, zn_zT, zn_1le, zn_lt1, zn_le1]
  refine hq _ ?_
  refine z_go (cut := []) 60 ?_
  simp (maxSteps := 1000000) (disch := omega) only [z_wp, Bool.false_eq_true, ↓reduceIte, z_e10, z_e01, eq_self, Int32.reduceLT, Int32.reduceLE, Int32.reduceGT, Int32.reduceGE, z_in, cond_true, cond_false, Nat.reduceAdd, Nat.reduceBEq, z_nth, z_set, z_clr, z_st1, z_st2, z_isL, z_opt, z_pop, z_cats, z_cat, c_X9_guess_0, c_X9_guess_1, c_X9_guess_2, c_X9_guess_3, c_X9_guess_4, c_X9_guess_5, c_X9_guess_6, o_aload, o_callv, o_getr, o_iload, o_iret, z_len, z_elt, z_isI, z_isJ, Nat.reduceEqDiff, Nat.reduceLeDiff, Nat.reduceLT, Nat.reduceSub, Nat.reduceMul, not_false_eq_true, not_true_eq_false, true_and, and_true, true_or, or_true, false_or, or_false, true_implies, false_implies, implies_true, forall_const, and_self, ne_eq, Classical.not_not, z_up2, z_cp2, z_upL1, z_upL2, if_true, if_false, and_false, false_and, ge_iff_le, gt_iff_lt, nI_add, pk_mul, nI_1, zn_ltT, zn_ltF, zn_leT, zn_leF, zn_eqT, zn_eqF, zn_in, zn_cl, zn_sub, zn_upS, zn_upN, zn_upO, zn_z, zn_lt0, zn_le0, zn_0le, zn_m1, zn_in0, zn_in1, zn_cl0, zn_cl1, zn_g1, zn_1F, zn_1T, zn_zT, zn_1le, zn_lt1, zn_le1]
  exact q
theorem e_X9_least {h : Nat} {a0 : zId} {a1 : Int32} {M : zMem} {K : zK} (ha0 : (a0.1 == 99) = false) (q : z_run (z_nop k_X9_least) (z_call h) K 0 [.inr (.inr a0), .inl a1] [] M) : z_call (h + 1) 147 [.inr (.inr a0), .inl a1] M K := ⟨by simp only [List.all_cons, List.all_nil, z_isU, ha0]; rfl, q⟩
theorem c_X9_least_0 : z_nop k_X9_least 0 = o_aload 0 := rfl
theorem c_X9_least_1 : z_nop k_X9_least 1 = o_getr 10 (fun w i => (9, 0, 0)) := rfl
theorem c_X9_least_2 : z_nop k_X9_least 2 = o_getr 9 (fun w i => (30, w, 0)) := rfl
theorem c_X9_least_3 : z_nop k_X9_least 3 = o_iload 1 := rfl
theorem c_X9_least_4 : z_nop k_X9_least 4 = o_call 71 2 := rfl
theorem c_X9_least_5 : z_nop k_X9_least 5 = o_iret := rfl

theorem w9_least {h : Nat} {M M2 : zMem} {a0 : Int32} {v : Int32} {K : zK} (hq : ∀ K2 : zK, K2 (some (.inl v)) M2 → z_call h 71 [.inr (.inr (30, 0, 0)), .inl a0] M K2) (q : K (some (.inl v)) M2) : z_call (h + 1) 147 [.inr (.inr (10, 0, 0)), .inl a0] M K := by
  refine e_X9_least rfl ?_
  refine z_wp_run (cut := [5]) 60 _ _ _ _ ?_
  simp (maxSteps := 1000000) (disch := omega) only [z_wp, Bool.false_eq_true, ↓reduceIte, z_e10, z_e01, eq_self, Int32.reduceLT, Int32.reduceLE, Int32.reduceGT, Int32.reduceGE, z_in, cond_true, cond_false, Nat.reduceAdd, Nat.reduceBEq, z_nth, z_set, z_clr, z_st1, z_st2, z_isL, z_opt, z_pop, z_cats, z_cat, c_X9_least_0, c_X9_least_1, c_X9_least_2, c_X9_least_3, c_X9_least_4, c_X9_least_5, o_aload, o_call, o_getr, o_iload, o_iret, z_len, z_elt, z_isI, z_isJ, Nat.reduceEqDiff, Nat.reduceLeDiff, Nat.reduceLT, Nat.reduceSub, Nat.reduceMul, not_false_eq_true, not_true_eq_false, true_and, and_true, true_or, or_true, false_or, or_false, true_implies, false_implies, implies_true, forall_const, and_self, ne_eq, Classical.not_not, z_up2, z_cp2, z_upL1, z_upL2, if_true, if_false, and_false, false_and, ge_iff_le, gt_iff_lt, nI_add, pk_mul, nI_1, zn_ltT, zn_ltF, zn_leT, zn_leF, zn_eqT, zn_eqF, zn_in, zn_cl, zn_sub, zn_upS, zn_upN, zn_upO, zn_z, zn_lt0, zn_le0, zn_0le, zn_m1, zn_in0, zn_in1, zn_cl0, zn_cl1, zn_g1, zn_1F, zn_1T, zn_zT, zn_1le, zn_lt1, zn_le1]
  refine hq _ ?_
  refine z_go (cut := []) 60 ?_
  simp (maxSteps := 1000000) (disch := omega) only [z_wp, Bool.false_eq_true, ↓reduceIte, z_e10, z_e01, eq_self, Int32.reduceLT, Int32.reduceLE, Int32.reduceGT, Int32.reduceGE, z_in, cond_true, cond_false, Nat.reduceAdd, Nat.reduceBEq, z_nth, z_set, z_clr, z_st1, z_st2, z_isL, z_opt, z_pop, z_cats, z_cat, c_X9_least_0, c_X9_least_1, c_X9_least_2, c_X9_least_3, c_X9_least_4, c_X9_least_5, o_aload, o_call, o_getr, o_iload, o_iret, z_len, z_elt, z_isI, z_isJ, Nat.reduceEqDiff, Nat.reduceLeDiff, Nat.reduceLT, Nat.reduceSub, Nat.reduceMul, not_false_eq_true, not_true_eq_false, true_and, and_true, true_or, or_true, false_or, or_false, true_implies, false_implies, implies_true, forall_const, and_self, ne_eq, Classical.not_not, z_up2, z_cp2, z_upL1, z_upL2, if_true, if_false, and_false, false_and, ge_iff_le, gt_iff_lt, nI_add, pk_mul, nI_1, zn_ltT, zn_ltF, zn_leT, zn_leF, zn_eqT, zn_eqF, zn_in, zn_cl, zn_sub, zn_upS, zn_upN, zn_upO, zn_z, zn_lt0, zn_le0, zn_0le, zn_m1, zn_in0, zn_in1, zn_cl0, zn_cl1, zn_g1, zn_1F, zn_1T, zn_zT, zn_1le, zn_lt1, zn_le1]
  exact q
theorem e_X9_sharp {h : Nat} {a0 : zId} {a1 : Int32} {M : zMem} {K : zK} (ha0 : (a0.1 == 99) = false) (q : z_run (z_nop k_X9_sharp) (z_call h) K 0 [.inr (.inr a0), .inl a1] [] M) : z_call (h + 1) 148 [.inr (.inr a0), .inl a1] M K := ⟨by simp only [List.all_cons, List.all_nil, z_isU, ha0]; rfl, q⟩
theorem c_X9_sharp_0 : z_nop k_X9_sharp 0 = o_aload 0 := rfl
theorem c_X9_sharp_1 : z_nop k_X9_sharp 1 = o_getr 10 (fun w i => (9, 0, 0)) := rfl
theorem c_X9_sharp_2 : z_nop k_X9_sharp 2 = o_getr 9 (fun w i => (30, w, 0)) := rfl
theorem c_X9_sharp_3 : z_nop k_X9_sharp 3 = o_iload 1 := rfl
theorem c_X9_sharp_4 : z_nop k_X9_sharp 4 = o_call 68 2 := rfl
theorem c_X9_sharp_5 : z_nop k_X9_sharp 5 = o_iret := rfl

theorem w9_sharp {h : Nat} {M M2 : zMem} {a0 : Int32} {v : Int32} {K : zK} (hq : ∀ K2 : zK, K2 (some (.inl v)) M2 → z_call h 68 [.inr (.inr (30, 0, 0)), .inl a0] M K2) (q : K (some (.inl v)) M2) : z_call (h + 1) 148 [.inr (.inr (10, 0, 0)), .inl a0] M K := by
  refine e_X9_sharp rfl ?_
  refine z_wp_run (cut := [5]) 60 _ _ _ _ ?_
  simp (maxSteps := 1000000) (disch := omega) only [z_wp, Bool.false_eq_true, ↓reduceIte, z_e10, z_e01, eq_self, Int32.reduceLT, Int32.reduceLE, Int32.reduceGT, Int32.reduceGE, z_in, cond_true, cond_false, Nat.reduceAdd, Nat.reduceBEq, z_nth, z_set, z_clr, z_st1, z_st2, z_isL, z_opt, z_pop, z_cats, z_cat, c_X9_sharp_0, c_X9_sharp_1, c_X9_sharp_2, c_X9_sharp_3, c_X9_sharp_4, c_X9_sharp_5, o_aload, o_call, o_getr, o_iload, o_iret, z_len, z_elt, z_isI, z_isJ, Nat.reduceEqDiff, Nat.reduceLeDiff, Nat.reduceLT, Nat.reduceSub, Nat.reduceMul, not_false_eq_true, not_true_eq_false, true_and, and_true, true_or, or_true, false_or, or_false, true_implies, false_implies, implies_true, forall_const, and_self, ne_eq, Classical.not_not, z_up2, z_cp2, z_upL1, z_upL2, if_true, if_false, and_false, false_and, ge_iff_le, gt_iff_lt, nI_add, pk_mul, nI_1, zn_ltT, zn_ltF, zn_leT, zn_leF, zn_eqT, zn_eqF, zn_in, zn_cl, zn_sub, zn_upS, zn_upN, zn_upO, zn_z, zn_lt0, zn_le0, zn_0le, zn_m1, zn_in0, zn_in1, zn_cl0, zn_cl1, zn_g1, zn_1F, zn_1T, zn_zT, zn_1le, zn_lt1, zn_le1]
  refine hq _ ?_
  refine z_go (cut := []) 60 ?_
  simp (maxSteps := 1000000) (disch := omega) only [z_wp, Bool.false_eq_true, ↓reduceIte, z_e10, z_e01, eq_self, Int32.reduceLT, Int32.reduceLE, Int32.reduceGT, Int32.reduceGE, z_in, cond_true, cond_false, Nat.reduceAdd, Nat.reduceBEq, z_nth, z_set, z_clr, z_st1, z_st2, z_isL, z_opt, z_pop, z_cats, z_cat, c_X9_sharp_0, c_X9_sharp_1, c_X9_sharp_2, c_X9_sharp_3, c_X9_sharp_4, c_X9_sharp_5, o_aload, o_call, o_getr, o_iload, o_iret, z_len, z_elt, z_isI, z_isJ, Nat.reduceEqDiff, Nat.reduceLeDiff, Nat.reduceLT, Nat.reduceSub, Nat.reduceMul, not_false_eq_true, not_true_eq_false, true_and, and_true, true_or, or_true, false_or, or_false, true_implies, false_implies, implies_true, forall_const, and_self, ne_eq, Classical.not_not, z_up2, z_cp2, z_upL1, z_upL2, if_true, if_false, and_false, false_and, ge_iff_le, gt_iff_lt, nI_add, pk_mul, nI_1, zn_ltT, zn_ltF, zn_leT, zn_leF, zn_eqT, zn_eqF, zn_in, zn_cl, zn_sub, zn_upS, zn_upN, zn_upO, zn_z, zn_lt0, zn_le0, zn_0le, zn_m1, zn_in0, zn_in1, zn_cl0, zn_cl1, zn_g1, zn_1F, zn_1T, zn_zT, zn_1le, zn_lt1, zn_le1]
  exact q
theorem e_X9_open {h : Nat} {a0 : zId} {a1 : Int32} {a2 : Int32} {M : zMem} {K : zK} (ha0 : (a0.1 == 99) = false) (q : z_run (z_nop k_X9_open) (z_call h) K 0 [.inr (.inr a0), .inl a1, .inl a2] [] M) : z_call (h + 1) 152 [.inr (.inr a0), .inl a1, .inl a2] M K := ⟨by simp only [List.all_cons, List.all_nil, z_isU, ha0]; rfl, q⟩
theorem c_X9_open_0 : z_nop k_X9_open 0 = o_aload 0 := rfl
theorem c_X9_open_1 : z_nop k_X9_open 1 = o_getr 10 (fun w i => (9, 0, 0)) := rfl
theorem c_X9_open_2 : z_nop k_X9_open 2 = o_iload 1 := rfl
theorem c_X9_open_3 : z_nop k_X9_open 3 = o_iload 2 := rfl
theorem c_X9_open_4 : z_nop k_X9_open 4 = o_callv 9 110 3 := rfl
theorem c_X9_open_5 : z_nop k_X9_open 5 = o_iret := rfl

theorem w9_open {h : Nat} {M M2 : zMem} {a0 a1 : Int32} {v : Int32} {K : zK} (hq : ∀ K2 : zK, K2 (some (.inl v)) M2 → z_call h 110 [.inr (.inr (9, 0, 0)), .inl a0, .inl a1] M K2) (q : K (some (.inl v)) M2) : z_call (h + 1) 152 [.inr (.inr (10, 0, 0)), .inl a0, .inl a1] M K := by
  refine e_X9_open rfl ?_
  refine z_wp_run (cut := [5]) 60 _ _ _ _ ?_
  simp (maxSteps := 1000000) (disch := omega) only [z_wp, Bool.false_eq_true, ↓reduceIte, z_e10, z_e01, eq_self, Int32.reduceLT, Int32.reduceLE, Int32.reduceGT, Int32.reduceGE, z_in, cond_true, cond_false, Nat.reduceAdd, Nat.reduceBEq, z_nth, z_set, z_clr, z_st1, z_st2, z_isL, z_opt, z_pop, z_cats, z_cat, c_X9_open_0, c_X9_open_1, c_X9_open_2, c_X9_open_3, c_X9_open_4, c_X9_open_5, o_aload, o_callv, o_getr, o_iload, o_iret, z_len, z_elt, z_isI, z_isJ, Nat.reduceEqDiff, Nat.reduceLeDiff, Nat.reduceLT, Nat.reduceSub, Nat.reduceMul, not_false_eq_true, not_true_eq_false, true_and, and_true, true_or, or_true, false_or, or_false, true_implies, false_implies, implies_true, forall_const, and_self, ne_eq, Classical.not_not, z_up2, z_cp2, z_upL1, z_upL2, if_true, if_false, and_false, false_and, ge_iff_le, gt_iff_lt, nI_add, pk_mul, nI_1, zn_ltT, zn_ltF, zn_leT, zn_leF, zn_eqT, zn_eqF, zn_in, zn_cl, zn_sub, zn_upS, zn_upN, zn_upO, zn_z, zn_lt0, zn_le0, zn_0le, zn_m1, zn_in0, zn_in1, zn_cl0, zn_cl1, zn_g1, zn_1F, zn_1T, zn_zT, zn_1le, zn_lt1, zn_le1]
  refine hq _ ?_
  refine z_go (cut := []) 60 ?_
  simp (maxSteps := 1000000) (disch := omega) only [z_wp, Bool.false_eq_true, ↓reduceIte, z_e10, z_e01, eq_self, Int32.reduceLT, Int32.reduceLE, Int32.reduceGT, Int32.reduceGE, z_in, cond_true, cond_false, Nat.reduceAdd, Nat.reduceBEq, z_nth, z_set, z_clr, z_st1, z_st2, z_isL, z_opt, z_pop, z_cats, z_cat, c_X9_open_0, c_X9_open_1, c_X9_open_2, c_X9_open_3, c_X9_open_4, c_X9_open_5, o_aload, o_callv, o_getr, o_iload, o_iret, z_len, z_elt, z_isI, z_isJ, Nat.reduceEqDiff, Nat.reduceLeDiff, Nat.reduceLT, Nat.reduceSub, Nat.reduceMul, not_false_eq_true, not_true_eq_false, true_and, and_true, true_or, or_true, false_or, or_false, true_implies, false_implies, implies_true, forall_const, and_self, ne_eq, Classical.not_not, z_up2, z_cp2, z_upL1, z_upL2, if_true, if_false, and_false, false_and, ge_iff_le, gt_iff_lt, nI_add, pk_mul, nI_1, zn_ltT, zn_ltF, zn_leT, zn_leF, zn_eqT, zn_eqF, zn_in, zn_cl, zn_sub, zn_upS, zn_upN, zn_upO, zn_z, zn_lt0, zn_le0, zn_0le, zn_m1, zn_in0, zn_in1, zn_cl0, zn_cl1, zn_g1, zn_1F, zn_1T, zn_zT, zn_1le, zn_lt1, zn_le1]
  exact q
theorem e_X9_log {h : Nat} {a0 : zId} {a1 : Int32} {a2 : Int32} {M : zMem} {K : zK} (ha0 : (a0.1 == 99) = false) (q : z_run (z_nop k_X9_log) (z_call h) K 0 [.inr (.inr a0), .inl a1, .inl a2] [] M) : z_call (h + 1) 154 [.inr (.inr a0), .inl a1, .inl a2] M K := ⟨by simp only [List.all_cons, List.all_nil, z_isU, ha0]; rfl, q⟩
theorem c_X9_log_0 : z_nop k_X9_log 0 = o_aload 0 := rfl
theorem c_X9_log_1 : z_nop k_X9_log 1 = o_getr 10 (fun w i => (9, 0, 0)) := rfl
theorem c_X9_log_2 : z_nop k_X9_log 2 = o_getr 9 (fun w i => (2, w, 0)) := rfl
theorem c_X9_log_3 : z_nop k_X9_log 3 = o_iload 1 := rfl
theorem c_X9_log_4 : z_nop k_X9_log 4 = o_iload 2 := rfl
theorem c_X9_log_5 : z_nop k_X9_log 5 = o_callv 2 13 3 := rfl
theorem c_X9_log_6 : z_nop k_X9_log 6 = o_iret := rfl

theorem w9_log {h : Nat} {M M2 : zMem} {a0 a1 : Int32} {v : Int32} {K : zK} (hq : ∀ K2 : zK, K2 (some (.inl v)) M2 → z_call h 13 [.inr (.inr (2, 0, 0)), .inl a0, .inl a1] M K2) (q : K (some (.inl v)) M2) : z_call (h + 1) 154 [.inr (.inr (10, 0, 0)), .inl a0, .inl a1] M K := by
  refine e_X9_log rfl ?_
  refine z_wp_run (cut := [6]) 60 _ _ _ _ ?_
  simp (maxSteps := 1000000) (disch := omega) only [z_wp, Bool.false_eq_true, ↓reduceIte, z_e10, z_e01, eq_self, Int32.reduceLT, Int32.reduceLE, Int32.reduceGT, Int32.reduceGE, z_in, cond_true, cond_false, Nat.reduceAdd, Nat.reduceBEq, z_nth, z_set, z_clr, z_st1, z_st2, z_isL, z_opt, z_pop, z_cats, z_cat, c_X9_log_0, c_X9_log_1, c_X9_log_2, c_X9_log_3, c_X9_log_4, c_X9_log_5, c_X9_log_6, o_aload, o_callv, o_getr, o_iload, o_iret, z_len, z_elt, z_isI, z_isJ, Nat.reduceEqDiff, Nat.reduceLeDiff, Nat.reduceLT, Nat.reduceSub, Nat.reduceMul, not_false_eq_true, not_true_eq_false, true_and, and_true, true_or, or_true, false_or, or_false, true_implies, false_implies, implies_true, forall_const, and_self, ne_eq, Classical.not_not, z_up2, z_cp2, z_upL1, z_upL2, if_true, if_false, and_false, false_and, ge_iff_le, gt_iff_lt, nI_add, pk_mul, nI_1, zn_ltT, zn_ltF, zn_leT, zn_leF, zn_eqT, zn_eqF, zn_in, zn_cl, zn_sub, zn_upS, zn_upN, zn_upO, zn_z, zn_lt0, zn_le0, zn_0le, zn_m1, zn_in0, zn_in1, zn_cl0, zn_cl1, zn_g1, zn_1F, zn_1T, zn_zT, zn_1le, zn_lt1, zn_le1]
  refine hq _ ?_
  refine z_go (cut := []) 60 ?_
  simp (maxSteps := 1000000) (disch := omega) only [z_wp, Bool.false_eq_true, ↓reduceIte, z_e10, z_e01, eq_self, Int32.reduceLT, Int32.reduceLE, Int32.reduceGT, Int32.reduceGE, z_in, cond_true, cond_false, Nat.reduceAdd, Nat.reduceBEq, z_nth, z_set, z_clr, z_st1, z_st2, z_isL, z_opt, z_pop, z_cats, z_cat, c_X9_log_0, c_X9_log_1, c_X9_log_2, c_X9_log_3, c_X9_log_4, c_X9_log_5, c_X9_log_6, o_aload, o_callv, o_getr, o_iload, o_iret, z_len, z_elt, z_isI, z_isJ, Nat.reduceEqDiff, Nat.reduceLeDiff, Nat.reduceLT, Nat.reduceSub, Nat.reduceMul, not_false_eq_true, not_true_eq_false, true_and, and_true, true_or, or_true, false_or, or_false, true_implies, false_implies, implies_true, forall_const, and_self, ne_eq, Classical.not_not, z_up2, z_cp2, z_upL1, z_upL2, if_true, if_false, and_false, false_and, ge_iff_le, gt_iff_lt, nI_add, pk_mul, nI_1, zn_ltT, zn_ltF, zn_leT, zn_leF, zn_eqT, zn_eqF, zn_in, zn_cl, zn_sub, zn_upS, zn_upN, zn_upO, zn_z, zn_lt0, zn_le0, zn_0le, zn_m1, zn_in0, zn_in1, zn_cl0, zn_cl1, zn_g1, zn_1F, zn_1T, zn_zT, zn_1le, zn_lt1, zn_le1]
  exact q
theorem e_X9_look {h : Nat} {a0 : zId} {a1 : Int32} {M : zMem} {K : zK} (ha0 : (a0.1 == 99) = false) (q : z_run (z_nop k_X9_look) (z_call h) K 0 [.inr (.inr a0), .inl a1] [] M) : z_call (h + 1) 157 [.inr (.inr a0), .inl a1] M K := ⟨by simp only [List.all_cons, List.all_nil, z_isU, ha0]; rfl, q⟩
theorem c_X9_look_0 : z_nop k_X9_look 0 = o_aload 0 := rfl
theorem c_X9_look_1 : z_nop k_X9_look 1 = o_getr 10 (fun w i => (9, 0, 0)) := rfl
theorem c_X9_look_2 : z_nop k_X9_look 2 = o_iload 1 := rfl
theorem c_X9_look_3 : z_nop k_X9_look 3 = o_callv 9 117 2 := rfl
theorem c_X9_look_4 : z_nop k_X9_look 4 = o_iret := rfl

theorem w9_look {h : Nat} {M M2 : zMem} {a0 : Int32} {v : Int32} {K : zK} (hq : ∀ K2 : zK, K2 (some (.inl v)) M2 → z_call h 117 [.inr (.inr (9, 0, 0)), .inl a0] M K2) (q : K (some (.inl v)) M2) : z_call (h + 1) 157 [.inr (.inr (10, 0, 0)), .inl a0] M K := by
  refine e_X9_look rfl ?_
  refine z_wp_run (cut := [4]) 60 _ _ _ _ ?_
  simp (maxSteps := 1000000) (disch := omega) only [z_wp, Bool.false_eq_true, ↓reduceIte, z_e10, z_e01, eq_self, Int32.reduceLT, Int32.reduceLE, Int32.reduceGT, Int32.reduceGE, z_in, cond_true, cond_false, Nat.reduceAdd, Nat.reduceBEq, z_nth, z_set, z_clr, z_st1, z_st2, z_isL, z_opt, z_pop, z_cats, z_cat, c_X9_look_0, c_X9_look_1, c_X9_look_2, c_X9_look_3, c_X9_look_4, o_aload, o_callv, o_getr, o_iload, o_iret, z_len, z_elt, z_isI, z_isJ, Nat.reduceEqDiff, Nat.reduceLeDiff, Nat.reduceLT, Nat.reduceSub, Nat.reduceMul, not_false_eq_true, not_true_eq_false, true_and, and_true, true_or, or_true, false_or, or_false, true_implies, false_implies, implies_true, forall_const, and_self, ne_eq, Classical.not_not, z_up2, z_cp2, z_upL1, z_upL2, if_true, if_false, and_false, false_and, ge_iff_le, gt_iff_lt, nI_add, pk_mul, nI_1, zn_ltT, zn_ltF, zn_leT, zn_leF, zn_eqT, zn_eqF, zn_in, zn_cl, zn_sub, zn_upS, zn_upN, zn_upO, zn_z, zn_lt0, zn_le0, zn_0le, zn_m1, zn_in0, zn_in1, zn_cl0, zn_cl1, zn_g1, zn_1F, zn_1T, zn_zT, zn_1le, zn_lt1, zn_le1]
  refine hq _ ?_
  refine z_go (cut := []) 60 ?_
  simp (maxSteps := 1000000) (disch := omega) only [z_wp, Bool.false_eq_true, ↓reduceIte, z_e10, z_e01, eq_self, Int32.reduceLT, Int32.reduceLE, Int32.reduceGT, Int32.reduceGE, z_in, cond_true, cond_false, Nat.reduceAdd, Nat.reduceBEq, z_nth, z_set, z_clr, z_st1, z_st2, z_isL, z_opt, z_pop, z_cats, z_cat, c_X9_look_0, c_X9_look_1, c_X9_look_2, c_X9_look_3, c_X9_look_4, o_aload, o_callv, o_getr, o_iload, o_iret, z_len, z_elt, z_isI, z_isJ, Nat.reduceEqDiff, Nat.reduceLeDiff, Nat.reduceLT, Nat.reduceSub, Nat.reduceMul, not_false_eq_true, not_true_eq_false, true_and, and_true, true_or, or_true, false_or, or_false, true_implies, false_implies, implies_true, forall_const, and_self, ne_eq, Classical.not_not, z_up2, z_cp2, z_upL1, z_upL2, if_true, if_false, and_false, false_and, ge_iff_le, gt_iff_lt, nI_add, pk_mul, nI_1, zn_ltT, zn_ltF, zn_leT, zn_leF, zn_eqT, zn_eqF, zn_in, zn_cl, zn_sub, zn_upS, zn_upN, zn_upO, zn_z, zn_lt0, zn_le0, zn_0le, zn_m1, zn_in0, zn_in1, zn_cl0, zn_cl1, zn_g1, zn_1F, zn_1T, zn_zT, zn_1le, zn_lt1, zn_le1]
  exact q
