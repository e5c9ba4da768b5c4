/-! the reference: power, flags that fade, logs, copies -/
noncomputable def z_pb (p : Prop) : Int32 := @ite _ p (Classical.propDecidable p) 1 0
theorem z_pbT {p : Prop} (h : p) : z_pb p = 1 := if_pos h
theorem z_pbF {p : Prop} (h : ¬ p) : z_pb p = 0 := if_neg h
theorem z_pb0 {p : Prop} : z_pb p = 0 ↔ ¬ p := ⟨fun e hp => by rw [z_pbT hp] at e; exact absurd e (by decide), fun h => z_pbF h⟩
theorem z_pb1 {p : Prop} : z_pb p = 1 ↔ p := ⟨fun e => Classical.byContradiction fun hp => by rw [z_pbF hp] at e; exact absurd e (by decide), fun h => z_pbT h⟩
theorem z_pbc (p : Prop) : z_pb p = 0 ∨ z_pb p = 1 := by
  by_cases h : p
  · exact .inr (z_pbT h)
  · exact .inl (z_pbF h)
/-- a loop that looks for one that has P -/
theorem z_find (P R : Nat → Prop) (N : Nat) (hN : (∀ i, i < N → ¬ P i) → R N) (hs : ∀ n, n < N → (¬ P n → R (n + 1)) → (∀ i, i < n → ¬ P i) → R n) : R 0 :=
  z_loop (fun n => (∀ i, i < n → ¬ P i) → R n) N hN (fun n hn ih c => hs n hn (fun p => ih (fun i hi => by
    rcases Nat.lt_succ_iff_lt_or_eq.mp hi with h | h
    · exact c i h
    · exact h ▸ p)) c) 0 (Nat.zero_le _) (fun i hi => absurd hi (Nat.not_lt_zero i))
theorem e_X10_hasPower {h : Nat} {a0 : zId} {a1 : Int32} {M : zMem} {K : zK} (ha0 : (a0.1 == 99) = false) (q : z_run (z_nop k_X10_hasPower) (z_call h) K 0 [.inr (.inr a0), .inl a1, z_un] [] M) : z_call (h + 1) 173 [.inr (.inr a0), .inl a1] M K := ⟨by simp only [List.all_cons, List.all_nil, z_isU, ha0]; rfl, q⟩
theorem c_X10_hasPower_0 : z_nop k_X10_hasPower 0 = o_ic 0 := rfl
theorem c_X10_hasPower_1 : z_nop k_X10_hasPower 1 = o_istore 2 := rfl
theorem c_X10_hasPower_2 : z_nop k_X10_hasPower 2 = o_iload 2 := rfl
theorem c_X10_hasPower_3 : z_nop k_X10_hasPower 3 = o_ic (nI 4) := rfl
theorem c_X10_hasPower_4 : z_nop k_X10_hasPower 4 = o_icmp (fun x y => x ≥ y) 22 := rfl
theorem c_X10_hasPower_5 : z_nop k_X10_hasPower 5 = o_aload 0 := rfl
theorem c_X10_hasPower_6 : z_nop k_X10_hasPower 6 = o_getr 11 (fun w i => (24, 0, 0)) := rfl
theorem c_X10_hasPower_7 : z_nop k_X10_hasPower 7 = o_ic (nI 262) := rfl
theorem c_X10_hasPower_8 : z_nop k_X10_hasPower 8 = o_iload 2 := rfl
theorem c_X10_hasPower_9 : z_nop k_X10_hasPower 9 = o_bin (fun x y => x + y) := rfl
theorem c_X10_hasPower_10 : z_nop k_X10_hasPower 10 = o_iald := rfl
theorem c_X10_hasPower_11 : z_nop k_X10_hasPower 11 = o_ic 1 := rfl
theorem c_X10_hasPower_12 : z_nop k_X10_hasPower 12 = o_icmp (fun x y => x ≠ y) 20 := rfl
theorem c_X10_hasPower_13 : z_nop k_X10_hasPower 13 = o_aload 0 := rfl
theorem c_X10_hasPower_14 : z_nop k_X10_hasPower 14 = o_iload 2 := rfl
theorem c_X10_hasPower_15 : z_nop k_X10_hasPower 15 = o_iload 1 := rfl
theorem c_X10_hasPower_16 : z_nop k_X10_hasPower 16 = o_callv 11 172 3 := rfl
theorem c_X10_hasPower_17 : z_nop k_X10_hasPower 17 = o_if (fun x => x = 0) 20 := rfl
theorem c_X10_hasPower_18 : z_nop k_X10_hasPower 18 = o_ic 1 := rfl
theorem c_X10_hasPower_19 : z_nop k_X10_hasPower 19 = o_zret := rfl
theorem c_X10_hasPower_20 : z_nop k_X10_hasPower 20 = o_iinc 2 1 := rfl
theorem c_X10_hasPower_21 : z_nop k_X10_hasPower 21 = o_goto 2 := rfl
theorem c_X10_hasPower_22 : z_nop k_X10_hasPower 22 = o_ic 0 := rfl
theorem c_X10_hasPower_23 : z_nop k_X10_hasPower 23 = o_zret := rfl

def p_pw (M : zMem) (t r : Nat) : Prop := (M.1 24 0 0 (262 + r)) = 1 ∧ ¬ r_reaches M r t = 0
noncomputable def r_hasPw (M : zMem) (t : Nat) : Int32 := z_pb (∃ r, r < 4 ∧ p_pw M t r)
set_option maxRecDepth 100000 in
theorem s_hasPw {h t : Nat} {M : zMem} {K : zK} (ht : t < 24) (q : K (some (.inl (r_hasPw M t))) M) : z_call (h + 3) 173 [.inr (.inr (11, 0, 0)), .inl (nI t)] M K := by
  have q1 : (∃ r, r < 4 ∧ p_pw M t r) → K (some (.inl 1)) M := fun c => by rw [r_hasPw, z_pbT c] at q; exact q
  have q0 : (∀ r, r < 4 → ¬ p_pw M t r) → K (some (.inl 0)) M := fun c => by rw [r_hasPw, z_pbF (fun ⟨r, hr, p⟩ => c r hr p)] at q; exact q
  refine e_X10_hasPower rfl ?_
  refine z_wp_run (cut := [2]) 60 _ _ _ _ ?_
  simp (maxSteps := 1000000) (disch := omega) only [z_wp, Bool.false_eq_true, ↓reduceIte, z_e10, z_e01, eq_self, Int32.reduceLT, Int32.reduceLE, Int32.reduceGT, Int32.reduceGE, z_in, cond_true, cond_false, Nat.reduceAdd, Nat.reduceBEq, z_nth, z_set, z_clr, z_st1, z_st2, z_isL, z_opt, z_pop, z_cats, z_cat, c_X10_hasPower_0, c_X10_hasPower_1, c_X10_hasPower_2, c_X10_hasPower_3, c_X10_hasPower_4, c_X10_hasPower_5, c_X10_hasPower_6, c_X10_hasPower_7, c_X10_hasPower_8, c_X10_hasPower_9, c_X10_hasPower_10, c_X10_hasPower_11, c_X10_hasPower_12, c_X10_hasPower_13, c_X10_hasPower_14, c_X10_hasPower_15, c_X10_hasPower_16, c_X10_hasPower_17, c_X10_hasPower_18, c_X10_hasPower_19, c_X10_hasPower_20, c_X10_hasPower_21, c_X10_hasPower_22, c_X10_hasPower_23, o_aload, o_bin, o_callv, o_getr, o_goto, o_iald, o_ic, o_icmp, o_if, o_iinc, o_iload, o_istore, o_zret, z_len, z_elt, z_isI, z_isJ, Nat.reduceEqDiff, Nat.reduceLeDiff, Nat.reduceLT, Nat.reduceSub, Nat.reduceMul, not_false_eq_true, not_true_eq_false, true_and, and_true, true_or, or_true, false_or, or_false, true_implies, false_implies, implies_true, forall_const, and_self, ne_eq, Classical.not_not, z_up2, z_cp2, z_upL1, z_upL2, if_true, if_false, and_false, false_and, ge_iff_le, gt_iff_lt, nI_add, pk_mul, nI_1, zn_ltT, zn_ltF, zn_leT, zn_leF, zn_eqT, zn_eqF, zn_in, zn_cl, zn_sub, zn_upS, zn_upN, zn_upO, zn_z, zn_lt0, zn_le0, zn_0le, zn_m1, zn_in0, zn_in1, zn_cl0, zn_cl1, zn_g1, zn_1F, zn_1T, zn_zT, zn_1le, zn_lt1, zn_le1]
  refine z_find (p_pw M t) (fun n => z_run (z_nop k_X10_hasPower) (z_call (h + 2)) K 2 [.inr (.inr (11, 0, 0)), .inl (nI t), .inl (nI n)] [] M) 4 ?_ ?_
  · intro c
    refine z_go (cut := [17]) 26 ?_
    simp (maxSteps := 1000000) (disch := omega) only [z_wp, Bool.false_eq_true, ↓reduceIte, z_e10, z_e01, eq_self, Int32.reduceLT, Int32.reduceLE, Int32.reduceGT, Int32.reduceGE, z_in, cond_true, cond_false, Nat.reduceAdd, Nat.reduceBEq, z_nth, z_set, z_clr, z_st1, z_st2, z_isL, z_opt, z_pop, z_cats, z_cat, c_X10_hasPower_0, c_X10_hasPower_1, c_X10_hasPower_2, c_X10_hasPower_3, c_X10_hasPower_4, c_X10_hasPower_5, c_X10_hasPower_6, c_X10_hasPower_7, c_X10_hasPower_8, c_X10_hasPower_9, c_X10_hasPower_10, c_X10_hasPower_11, c_X10_hasPower_12, c_X10_hasPower_13, c_X10_hasPower_14, c_X10_hasPower_15, c_X10_hasPower_16, c_X10_hasPower_17, c_X10_hasPower_18, c_X10_hasPower_19, c_X10_hasPower_20, c_X10_hasPower_21, c_X10_hasPower_22, c_X10_hasPower_23, o_aload, o_bin, o_callv, o_getr, o_goto, o_iald, o_ic, o_icmp, o_if, o_iinc, o_iload, o_istore, o_zret, z_len, z_elt, z_isI, z_isJ, Nat.reduceEqDiff, Nat.reduceLeDiff, Nat.reduceLT, Nat.reduceSub, Nat.reduceMul, not_false_eq_true, not_true_eq_false, true_and, and_true, true_or, or_true, false_or, or_false, true_implies, false_implies, implies_true, forall_const, and_self, ne_eq, Classical.not_not, z_up2, z_cp2, z_upL1, z_upL2, if_true, if_false, and_false, false_and, ge_iff_le, gt_iff_lt, nI_add, pk_mul, nI_1, zn_ltT, zn_ltF, zn_leT, zn_leF, zn_eqT, zn_eqF, zn_in, zn_cl, zn_sub, zn_upS, zn_upN, zn_upO, zn_z, zn_lt0, zn_le0, zn_0le, zn_m1, zn_in0, zn_in1, zn_cl0, zn_cl1, zn_g1, zn_1F, zn_1T, zn_zT, zn_1le, zn_lt1, zn_le1]
    exact q0 c
  · intro n hn ih c
    refine z_go (cut := [2, 17]) 60 ?_
    simp (maxSteps := 1000000) (disch := omega) only [z_wp, Bool.false_eq_true, ↓reduceIte, z_e10, z_e01, eq_self, Int32.reduceLT, Int32.reduceLE, Int32.reduceGT, Int32.reduceGE, z_in, cond_true, cond_false, Nat.reduceAdd, Nat.reduceBEq, z_nth, z_set, z_clr, z_st1, z_st2, z_isL, z_opt, z_pop, z_cats, z_cat, c_X10_hasPower_0, c_X10_hasPower_1, c_X10_hasPower_2, c_X10_hasPower_3, c_X10_hasPower_4, c_X10_hasPower_5, c_X10_hasPower_6, c_X10_hasPower_7, c_X10_hasPower_8, c_X10_hasPower_9, c_X10_hasPower_10, c_X10_hasPower_11, c_X10_hasPower_12, c_X10_hasPower_13, c_X10_hasPower_14, c_X10_hasPower_15, c_X10_hasPower_16, c_X10_hasPower_17, c_X10_hasPower_18, c_X10_hasPower_19, c_X10_hasPower_20, c_X10_hasPower_21, c_X10_hasPower_22, c_X10_hasPower_23, o_aload, o_bin, o_callv, o_getr, o_goto, o_iald, o_ic, o_icmp, o_if, o_iinc, o_iload, o_istore, o_zret, z_len, z_elt, z_isI, z_isJ, Nat.reduceEqDiff, Nat.reduceLeDiff, Nat.reduceLT, Nat.reduceSub, Nat.reduceMul, not_false_eq_true, not_true_eq_false, true_and, and_true, true_or, or_true, false_or, or_false, true_implies, false_implies, implies_true, forall_const, and_self, ne_eq, Classical.not_not, z_up2, z_cp2, z_upL1, z_upL2, if_true, if_false, and_false, false_and, ge_iff_le, gt_iff_lt, nI_add, pk_mul, nI_1, zn_ltT, zn_ltF, zn_leT, zn_leF, zn_eqT, zn_eqF, zn_in, zn_cl, zn_sub, zn_upS, zn_upN, zn_upO, zn_z, zn_lt0, zn_le0, zn_0le, zn_m1, zn_in0, zn_in1, zn_cl0, zn_cl1, zn_g1, zn_1F, zn_1T, zn_zT, zn_1le, zn_lt1, zn_le1]
    refine ⟨fun c1 => ih (fun z => c1 z.1), fun c1 => s_reaches ht ?_⟩
    refine z_go (cut := [2]) 60 ?_
    simp (maxSteps := 1000000) (disch := omega) only [z_wp, Bool.false_eq_true, ↓reduceIte, z_e10, z_e01, eq_self, Int32.reduceLT, Int32.reduceLE, Int32.reduceGT, Int32.reduceGE, z_in, cond_true, cond_false, Nat.reduceAdd, Nat.reduceBEq, z_nth, z_set, z_clr, z_st1, z_st2, z_isL, z_opt, z_pop, z_cats, z_cat, c_X10_hasPower_0, c_X10_hasPower_1, c_X10_hasPower_2, c_X10_hasPower_3, c_X10_hasPower_4, c_X10_hasPower_5, c_X10_hasPower_6, c_X10_hasPower_7, c_X10_hasPower_8, c_X10_hasPower_9, c_X10_hasPower_10, c_X10_hasPower_11, c_X10_hasPower_12, c_X10_hasPower_13, c_X10_hasPower_14, c_X10_hasPower_15, c_X10_hasPower_16, c_X10_hasPower_17, c_X10_hasPower_18, c_X10_hasPower_19, c_X10_hasPower_20, c_X10_hasPower_21, c_X10_hasPower_22, c_X10_hasPower_23, o_aload, o_bin, o_callv, o_getr, o_goto, o_iald, o_ic, o_icmp, o_if, o_iinc, o_iload, o_istore, o_zret, z_len, z_elt, z_isI, z_isJ, Nat.reduceEqDiff, Nat.reduceLeDiff, Nat.reduceLT, Nat.reduceSub, Nat.reduceMul, not_false_eq_true, not_true_eq_false, true_and, and_true, true_or, or_true, false_or, or_false, true_implies, false_implies, implies_true, forall_const, and_self, ne_eq, Classical.not_not, z_up2, z_cp2, z_upL1, z_upL2, if_true, if_false, and_false, false_and, ge_iff_le, gt_iff_lt, nI_add, pk_mul, nI_1, zn_ltT, zn_ltF, zn_leT, zn_leF, zn_eqT, zn_eqF, zn_in, zn_cl, zn_sub, zn_upS, zn_upN, zn_upO, zn_z, zn_lt0, zn_le0, zn_0le, zn_m1, zn_in0, zn_in1, zn_cl0, zn_cl1, zn_g1, zn_1F, zn_1T, zn_zT, zn_1le, zn_lt1, zn_le1]
    refine ⟨fun c2 => ih (fun z => z.2 c2), fun c2 => q1 ⟨n, hn, c1, c2⟩⟩
theorem e_X10_isUnclean {h : Nat} {a0 : zId} {a1 : Int32} {M : zMem} {K : zK} (ha0 : (a0.1 == 99) = false) (q : z_run (z_nop k_X10_isUnclean) (z_call h) K 0 [.inr (.inr a0), .inl a1] [] M) : z_call (h + 1) 182 [.inr (.inr a0), .inl a1] M K := ⟨by simp only [List.all_cons, List.all_nil, z_isU, ha0]; rfl, q⟩
theorem c_X10_isUnclean_0 : z_nop k_X10_isUnclean 0 = o_aload 0 := rfl
theorem c_X10_isUnclean_1 : z_nop k_X10_isUnclean 1 = o_getr 11 (fun w i => (24, 0, 0)) := rfl
theorem c_X10_isUnclean_2 : z_nop k_X10_isUnclean 2 = o_ic (nI 550) := rfl
theorem c_X10_isUnclean_3 : z_nop k_X10_isUnclean 3 = o_iload 1 := rfl
theorem c_X10_isUnclean_4 : z_nop k_X10_isUnclean 4 = o_bin (fun x y => x + y) := rfl
theorem c_X10_isUnclean_5 : z_nop k_X10_isUnclean 5 = o_iald := rfl
theorem c_X10_isUnclean_6 : z_nop k_X10_isUnclean 6 = o_ic (-1) := rfl
theorem c_X10_isUnclean_7 : z_nop k_X10_isUnclean 7 = o_icmp (fun x y => x = y) 20 := rfl
theorem c_X10_isUnclean_8 : z_nop k_X10_isUnclean 8 = o_aload 0 := rfl
theorem c_X10_isUnclean_9 : z_nop k_X10_isUnclean 9 = o_getr 11 (fun w i => (24, 0, 0)) := rfl
theorem c_X10_isUnclean_10 : z_nop k_X10_isUnclean 10 = o_ic (nI 350) := rfl
theorem c_X10_isUnclean_11 : z_nop k_X10_isUnclean 11 = o_aload 0 := rfl
theorem c_X10_isUnclean_12 : z_nop k_X10_isUnclean 12 = o_getr 11 (fun w i => (24, 0, 0)) := rfl
theorem c_X10_isUnclean_13 : z_nop k_X10_isUnclean 13 = o_ic (nI 550) := rfl
theorem c_X10_isUnclean_14 : z_nop k_X10_isUnclean 14 = o_iload 1 := rfl
theorem c_X10_isUnclean_15 : z_nop k_X10_isUnclean 15 = o_bin (fun x y => x + y) := rfl
theorem c_X10_isUnclean_16 : z_nop k_X10_isUnclean 16 = o_iald := rfl
theorem c_X10_isUnclean_17 : z_nop k_X10_isUnclean 17 = o_bin (fun x y => x + y) := rfl
theorem c_X10_isUnclean_18 : z_nop k_X10_isUnclean 18 = o_ic 0 := rfl
theorem c_X10_isUnclean_19 : z_nop k_X10_isUnclean 19 = o_iast := rfl
theorem c_X10_isUnclean_20 : z_nop k_X10_isUnclean 20 = o_ret := rfl

def n_unclean (M : zMem) (t : Nat) : zMem := if (M.1 24 0 0 (550 + t)) = -1 then M else z_up M 24 0 0 (350 + (M.1 24 0 0 (550 + t)).toNatClampNeg) 0
set_option maxRecDepth 100000 in
theorem s_unclean {h t : Nat} {M : zMem} {K : zK} (ht : t < 24) (hb : (M.1 24 0 0 (550 + t)) = -1 ∨ ∃ r, r < 4 ∧ (M.1 24 0 0 (550 + t)) = nI r) (q : K none (n_unclean M t)) : z_call (h + 1) 182 [.inr (.inr (11, 0, 0)), .inl (nI t)] M K := by
  unfold n_unclean at q
  rcases hb with hb | ⟨r, hr, hb⟩
  · refine e_X10_isUnclean rfl ?_
    refine z_wp_run (cut := [20]) 23 _ _ _ _ ?_
    repeat' (first | (with_reducible refine And.intro ?_ ?_) | (with_reducible intro _) | (with_reducible refine z_go (i := 20) (cut := [20]) 23 ?_) | (simp (maxSteps := 1000000) (disch := omega) only [z_wp, Bool.false_eq_true, ↓reduceIte, z_e10, z_e01, eq_self, Int32.reduceLT, Int32.reduceLE, Int32.reduceGT, Int32.reduceGE, z_in, cond_true, cond_false, Nat.reduceAdd, Nat.reduceBEq, z_nth, z_set, z_clr, z_st1, z_st2, z_isL, z_opt, z_pop, z_cats, z_cat, c_X10_isUnclean_0, c_X10_isUnclean_1, c_X10_isUnclean_2, c_X10_isUnclean_3, c_X10_isUnclean_4, c_X10_isUnclean_5, c_X10_isUnclean_6, c_X10_isUnclean_7, c_X10_isUnclean_8, c_X10_isUnclean_9, c_X10_isUnclean_10, c_X10_isUnclean_11, c_X10_isUnclean_12, c_X10_isUnclean_13, c_X10_isUnclean_14, c_X10_isUnclean_15, c_X10_isUnclean_16, c_X10_isUnclean_17, c_X10_isUnclean_18, c_X10_isUnclean_19, c_X10_isUnclean_20, o_aload, o_bin, o_getr, o_iald, o_iast, o_ic, o_icmp, o_iload, o_ret, z_len, z_elt, z_isI, z_isJ, Nat.reduceEqDiff, Nat.reduceLeDiff, Nat.reduceLT, Nat.reduceSub, Nat.reduceMul, not_false_eq_true, not_true_eq_false, true_and, and_true, true_or, or_true, false_or, or_false, true_implies, false_implies, implies_true, forall_const, and_self, ne_eq, Classical.not_not, z_up2, z_cp2, z_upL1, z_upL2, if_true, if_false, and_false, false_and, ge_iff_le, gt_iff_lt, nI_add, pk_mul, nI_1, zn_ltT, zn_ltF, zn_leT, zn_leF, zn_eqT, zn_eqF, zn_in, zn_cl, zn_sub, zn_upS, zn_upN, zn_upO, zn_z, zn_lt0, zn_le0, zn_0le, zn_m1, zn_in0, zn_in1, zn_cl0, zn_cl1, zn_g1, zn_1F, zn_1T, zn_zT, zn_1le, zn_lt1, zn_le1, hb]))
    all_goals (first | (with_reducible exact q) | omega | ((try simp only [ge_iff_le, gt_iff_lt, ← Int32.not_lt, Classical.not_not] at *); (first | (with_reducible rfl) | ((try simp only [ge_iff_le, gt_iff_lt, ← Int32.not_lt, Classical.not_not] at q); (try simp (disch := omega) only [*, zn_upS, zn_upN, zn_upO, if_true, if_false, ite_self, true_or, or_true, false_or, or_false, true_and, and_true, false_and, and_false, not_true_eq_false, not_false_eq_true, cond_true, cond_false, decide_true, decide_false, Bool.true_and, Bool.and_true, Bool.false_and, Bool.and_false, Bool.true_or, Bool.or_true, Bool.false_or, Bool.or_false, Bool.not_true, Bool.not_false, ne_eq, Nat.reduceEqDiff] at q); first | (with_reducible exact q) | omega))) | assumption | (unfold r_isIn; split <;> simp; done) | (unfold r_has; split <;> simp; done) | ((repeat' (first | (with_reducible exact q) | split at q)); all_goals (first | (exfalso; omega) | (exfalso; simp_all; done))) | exact q)
  · rw [hb, nI_clamp (by omega), if_neg (fun e => absurd (e ▸ nI_pos (show r < 2 ^ 31 by omega)) (by decide))] at q
    refine e_X10_isUnclean rfl ?_
    refine z_wp_run (cut := [20]) 23 _ _ _ _ ?_
    repeat' (first | (with_reducible refine And.intro ?_ ?_) | (with_reducible intro _) | (with_reducible refine z_go (i := 20) (cut := [20]) 23 ?_) | (simp (maxSteps := 1000000) (disch := omega) only [z_wp, Bool.false_eq_true, ↓reduceIte, z_e10, z_e01, eq_self, Int32.reduceLT, Int32.reduceLE, Int32.reduceGT, Int32.reduceGE, z_in, cond_true, cond_false, Nat.reduceAdd, Nat.reduceBEq, z_nth, z_set, z_clr, z_st1, z_st2, z_isL, z_opt, z_pop, z_cats, z_cat, c_X10_isUnclean_0, c_X10_isUnclean_1, c_X10_isUnclean_2, c_X10_isUnclean_3, c_X10_isUnclean_4, c_X10_isUnclean_5, c_X10_isUnclean_6, c_X10_isUnclean_7, c_X10_isUnclean_8, c_X10_isUnclean_9, c_X10_isUnclean_10, c_X10_isUnclean_11, c_X10_isUnclean_12, c_X10_isUnclean_13, c_X10_isUnclean_14, c_X10_isUnclean_15, c_X10_isUnclean_16, c_X10_isUnclean_17, c_X10_isUnclean_18, c_X10_isUnclean_19, c_X10_isUnclean_20, o_aload, o_bin, o_getr, o_iald, o_iast, o_ic, o_icmp, o_iload, o_ret, z_len, z_elt, z_isI, z_isJ, Nat.reduceEqDiff, Nat.reduceLeDiff, Nat.reduceLT, Nat.reduceSub, Nat.reduceMul, not_false_eq_true, not_true_eq_false, true_and, and_true, true_or, or_true, false_or, or_false, true_implies, false_implies, implies_true, forall_const, and_self, ne_eq, Classical.not_not, z_up2, z_cp2, z_upL1, z_upL2, if_true, if_false, and_false, false_and, ge_iff_le, gt_iff_lt, nI_add, pk_mul, nI_1, zn_ltT, zn_ltF, zn_leT, zn_leF, zn_eqT, zn_eqF, zn_in, zn_cl, zn_sub, zn_upS, zn_upN, zn_upO, zn_z, zn_lt0, zn_le0, zn_0le, zn_m1, zn_in0, zn_in1, zn_cl0, zn_cl1, zn_g1, zn_1F, zn_1T, zn_zT, zn_1le, zn_lt1, zn_le1, hb]))
    all_goals (first | (with_reducible exact q) | omega | ((try simp only [ge_iff_le, gt_iff_lt, ← Int32.not_lt, Classical.not_not] at *); (first | (with_reducible rfl) | ((try simp only [ge_iff_le, gt_iff_lt, ← Int32.not_lt, Classical.not_not] at q); (try simp (disch := omega) only [*, zn_upS, zn_upN, zn_upO, if_true, if_false, ite_self, true_or, or_true, false_or, or_false, true_and, and_true, false_and, and_false, not_true_eq_false, not_false_eq_true, cond_true, cond_false, decide_true, decide_false, Bool.true_and, Bool.and_true, Bool.false_and, Bool.and_false, Bool.true_or, Bool.or_true, Bool.false_or, Bool.or_false, Bool.not_true, Bool.not_false, ne_eq, Nat.reduceEqDiff] at q); first | (with_reducible exact q) | omega))) | assumption | (unfold r_isIn; split <;> simp; done) | (unfold r_has; split <;> simp; done) | ((repeat' (first | (with_reducible exact q) | split at q)); all_goals (first | (exfalso; omega) | (exfalso; simp_all; done))) | exact q)
theorem e_X10_ofIt {h : Nat} {a0 : zId} {a1 : Int32} {M : zMem} {K : zK} (ha0 : (a0.1 == 99) = false) (q : z_run (z_nop k_X10_ofIt) (z_call h) K 0 [.inr (.inr a0), .inl a1, z_un, z_un] [] M) : z_call (h + 1) 187 [.inr (.inr a0), .inl a1] M K := ⟨by simp only [List.all_cons, List.all_nil, z_isU, ha0]; rfl, q⟩
theorem c_X10_ofIt_0 : z_nop k_X10_ofIt 0 = o_ic 0 := rfl
theorem c_X10_ofIt_1 : z_nop k_X10_ofIt 1 = o_istore 2 := rfl
theorem c_X10_ofIt_2 : z_nop k_X10_ofIt 2 = o_ic 0 := rfl
theorem c_X10_ofIt_3 : z_nop k_X10_ofIt 3 = o_istore 3 := rfl
theorem c_X10_ofIt_4 : z_nop k_X10_ofIt 4 = o_iload 3 := rfl
theorem c_X10_ofIt_5 : z_nop k_X10_ofIt 5 = o_ic (nI 24) := rfl
theorem c_X10_ofIt_6 : z_nop k_X10_ofIt 6 = o_icmp (fun x y => x ≥ y) 23 := rfl
theorem c_X10_ofIt_7 : z_nop k_X10_ofIt 7 = o_iload 2 := rfl
theorem c_X10_ofIt_8 : z_nop k_X10_ofIt 8 = o_aload 0 := rfl
theorem c_X10_ofIt_9 : z_nop k_X10_ofIt 9 = o_getr 11 (fun w i => (24, 0, 0)) := rfl
theorem c_X10_ofIt_10 : z_nop k_X10_ofIt 10 = o_ic (nI 550) := rfl
theorem c_X10_ofIt_11 : z_nop k_X10_ofIt 11 = o_iload 3 := rfl
theorem c_X10_ofIt_12 : z_nop k_X10_ofIt 12 = o_bin (fun x y => x + y) := rfl
theorem c_X10_ofIt_13 : z_nop k_X10_ofIt 13 = o_iald := rfl
theorem c_X10_ofIt_14 : z_nop k_X10_ofIt 14 = o_iload 1 := rfl
theorem c_X10_ofIt_15 : z_nop k_X10_ofIt 15 = o_icmp (fun x y => x ≠ y) 18 := rfl
theorem c_X10_ofIt_16 : z_nop k_X10_ofIt 16 = o_ic 1 := rfl
theorem c_X10_ofIt_17 : z_nop k_X10_ofIt 17 = o_goto 19 := rfl
theorem c_X10_ofIt_18 : z_nop k_X10_ofIt 18 = o_ic 0 := rfl
theorem c_X10_ofIt_19 : z_nop k_X10_ofIt 19 = o_bin (fun x y => x + y) := rfl
theorem c_X10_ofIt_20 : z_nop k_X10_ofIt 20 = o_istore 2 := rfl
theorem c_X10_ofIt_21 : z_nop k_X10_ofIt 21 = o_iinc 3 1 := rfl
theorem c_X10_ofIt_22 : z_nop k_X10_ofIt 22 = o_goto 4 := rfl
theorem c_X10_ofIt_23 : z_nop k_X10_ofIt 23 = o_iload 2 := rfl
theorem c_X10_ofIt_24 : z_nop k_X10_ofIt 24 = o_iret := rfl

def r_ofIt (M : zMem) (x : Int32) : Nat → Int32
  | 0 => 0
  | n + 1 => r_ofIt M x n + (if (M.1 24 0 0 (550 + n)) = x then 1 else 0)
set_option maxRecDepth 100000 in
theorem s_ofIt {h : Nat} {M : zMem} {x : Int32} {K : zK} (q : K (some (.inl (r_ofIt M x 24))) M) : z_call (h + 1) 187 [.inr (.inr (11, 0, 0)), .inl x] M K := by
  refine e_X10_ofIt rfl ?_
  refine z_wp_run (cut := [4, 18, 23]) 27 _ _ _ _ ?_
  repeat' (first | (with_reducible refine And.intro ?_ ?_) | (with_reducible intro _) | (with_reducible refine z_go (i := 18) (cut := [4, 18, 23]) 27 ?_) | (with_reducible refine z_go (i := 23) (cut := [4, 18, 23]) 27 ?_) | (simp (maxSteps := 1000000) (disch := omega) only [z_wp, Bool.false_eq_true, ↓reduceIte, z_e10, z_e01, eq_self, Int32.reduceLT, Int32.reduceLE, Int32.reduceGT, Int32.reduceGE, z_in, cond_true, cond_false, Nat.reduceAdd, Nat.reduceBEq, z_nth, z_set, z_clr, z_st1, z_st2, z_isL, z_opt, z_pop, z_cats, z_cat, c_X10_ofIt_0, c_X10_ofIt_1, c_X10_ofIt_2, c_X10_ofIt_3, c_X10_ofIt_4, c_X10_ofIt_5, c_X10_ofIt_6, c_X10_ofIt_7, c_X10_ofIt_8, c_X10_ofIt_9, c_X10_ofIt_10, c_X10_ofIt_11, c_X10_ofIt_12, c_X10_ofIt_13, c_X10_ofIt_14, c_X10_ofIt_15, c_X10_ofIt_16, c_X10_ofIt_17, c_X10_ofIt_18, c_X10_ofIt_19, c_X10_ofIt_20, c_X10_ofIt_21, c_X10_ofIt_22, c_X10_ofIt_23, c_X10_ofIt_24, o_aload, o_bin, o_getr, o_goto, o_iald, o_ic, o_icmp, o_iinc, o_iload, o_iret, o_istore, z_len, z_elt, z_isI, z_isJ, Nat.reduceEqDiff, Nat.reduceLeDiff, Nat.reduceLT, Nat.reduceSub, Nat.reduceMul, not_false_eq_true, not_true_eq_false, true_and, and_true, true_or, or_true, false_or, or_false, true_implies, false_implies, implies_true, forall_const, and_self, ne_eq, Classical.not_not, z_up2, z_cp2, z_upL1, z_upL2, if_true, if_false, and_false, false_and, ge_iff_le, gt_iff_lt, nI_add, pk_mul, nI_1, zn_ltT, zn_ltF, zn_leT, zn_leF, zn_eqT, zn_eqF, zn_in, zn_cl, zn_sub, zn_upS, zn_upN, zn_upO, zn_z, zn_lt0, zn_le0, zn_0le, zn_m1, zn_in0, zn_in1, zn_cl0, zn_cl1, zn_g1, zn_1F, zn_1T, zn_zT, zn_1le, zn_lt1, zn_le1]))
  have key := z_loop (fun n => z_run (z_nop k_X10_ofIt) (z_call (h)) K 4 [.inr (.inr (11, 0, 0)), .inl x, .inl (r_ofIt M x n), .inl (nI n)] [] (M)) (24) ?_ ?_ 0 (by omega)
  · exact key
  · skip
    refine z_go (cut := [4, 18, 23]) 27 ?_
    repeat' (first | (with_reducible refine And.intro ?_ ?_) | (with_reducible intro _) | (with_reducible refine z_go (i := 18) (cut := [4, 18, 23]) 27 ?_) | (with_reducible refine z_go (i := 23) (cut := [4, 18, 23]) 27 ?_) | (simp (maxSteps := 1000000) (disch := omega) only [z_wp, Bool.false_eq_true, ↓reduceIte, z_e10, z_e01, eq_self, Int32.reduceLT, Int32.reduceLE, Int32.reduceGT, Int32.reduceGE, z_in, cond_true, cond_false, Nat.reduceAdd, Nat.reduceBEq, z_nth, z_set, z_clr, z_st1, z_st2, z_isL, z_opt, z_pop, z_cats, z_cat, c_X10_ofIt_0, c_X10_ofIt_1, c_X10_ofIt_2, c_X10_ofIt_3, c_X10_ofIt_4, c_X10_ofIt_5, c_X10_ofIt_6, c_X10_ofIt_7, c_X10_ofIt_8, c_X10_ofIt_9, c_X10_ofIt_10, c_X10_ofIt_11, c_X10_ofIt_12, c_X10_ofIt_13, c_X10_ofIt_14, c_X10_ofIt_15, c_X10_ofIt_16, c_X10_ofIt_17, c_X10_ofIt_18, c_X10_ofIt_19, c_X10_ofIt_20, c_X10_ofIt_21, c_X10_ofIt_22, c_X10_ofIt_23, c_X10_ofIt_24, o_aload, o_bin, o_getr, o_goto, o_iald, o_ic, o_icmp, o_iinc, o_iload, o_iret, o_istore, z_len, z_elt, z_isI, z_isJ, Nat.reduceEqDiff, Nat.reduceLeDiff, Nat.reduceLT, Nat.reduceSub, Nat.reduceMul, not_false_eq_true, not_true_eq_false, true_and, and_true, true_or, or_true, false_or, or_false, true_implies, false_implies, implies_true, forall_const, and_self, ne_eq, Classical.not_not, z_up2, z_cp2, z_upL1, z_upL2, if_true, if_false, and_false, false_and, ge_iff_le, gt_iff_lt, nI_add, pk_mul, nI_1, zn_ltT, zn_ltF, zn_leT, zn_leF, zn_eqT, zn_eqF, zn_in, zn_cl, zn_sub, zn_upS, zn_upN, zn_upO, zn_z, zn_lt0, zn_le0, zn_0le, zn_m1, zn_in0, zn_in1, zn_cl0, zn_cl1, zn_g1, zn_1F, zn_1T, zn_zT, zn_1le, zn_lt1, zn_le1]))
    all_goals (first | (with_reducible exact q) | omega | ((try simp only [ge_iff_le, gt_iff_lt, ← Int32.not_lt, Classical.not_not] at *); (first | (with_reducible rfl) | ((try simp only [r_ofIt] at q); (try simp only [ge_iff_le, gt_iff_lt, ← Int32.not_lt, Classical.not_not] at q); (try simp (disch := omega) only [*, zn_upS, zn_upN, zn_upO, if_true, if_false, ite_self, true_or, or_true, false_or, or_false, true_and, and_true, false_and, and_false, not_true_eq_false, not_false_eq_true, cond_true, cond_false, decide_true, decide_false, Bool.true_and, Bool.and_true, Bool.false_and, Bool.and_false, Bool.true_or, Bool.or_true, Bool.false_or, Bool.or_false, Bool.not_true, Bool.not_false, ne_eq, Nat.reduceEqDiff] at q); first | (with_reducible exact q) | omega))) | assumption | (unfold r_isIn; split <;> simp; done) | (unfold r_has; split <;> simp; done) | ((try simp only [r_ofIt] at q); (repeat' (first | (with_reducible exact q) | split at q)); all_goals (first | (exfalso; omega) | (exfalso; simp_all; done))) | exact q)
  · intro n hn ih
    refine z_go (cut := [4, 18, 23]) 27 ?_
    repeat' (first | (with_reducible refine And.intro ?_ ?_) | (with_reducible intro _) | (with_reducible refine z_go (i := 18) (cut := [4, 18, 23]) 27 ?_) | (with_reducible refine z_go (i := 23) (cut := [4, 18, 23]) 27 ?_) | (simp (maxSteps := 1000000) (disch := omega) only [z_wp, Bool.false_eq_true, ↓reduceIte, z_e10, z_e01, eq_self, Int32.reduceLT, Int32.reduceLE, Int32.reduceGT, Int32.reduceGE, z_in, cond_true, cond_false, Nat.reduceAdd, Nat.reduceBEq, z_nth, z_set, z_clr, z_st1, z_st2, z_isL, z_opt, z_pop, z_cats, z_cat, c_X10_ofIt_0, c_X10_ofIt_1, c_X10_ofIt_2, c_X10_ofIt_3, c_X10_ofIt_4, c_X10_ofIt_5, c_X10_ofIt_6, c_X10_ofIt_7, c_X10_ofIt_8, c_X10_ofIt_9, c_X10_ofIt_10, c_X10_ofIt_11, c_X10_ofIt_12, c_X10_ofIt_13, c_X10_ofIt_14, c_X10_ofIt_15, c_X10_ofIt_16, c_X10_ofIt_17, c_X10_ofIt_18, c_X10_ofIt_19, c_X10_ofIt_20, c_X10_ofIt_21, c_X10_ofIt_22, c_X10_ofIt_23, c_X10_ofIt_24, o_aload, o_bin, o_getr, o_goto, o_iald, o_ic, o_icmp, o_iinc, o_iload, o_iret, o_istore, z_len, z_elt, z_isI, z_isJ, Nat.reduceEqDiff, Nat.reduceLeDiff, Nat.reduceLT, Nat.reduceSub, Nat.reduceMul, not_false_eq_true, not_true_eq_false, true_and, and_true, true_or, or_true, false_or, or_false, true_implies, false_implies, implies_true, forall_const, and_self, ne_eq, Classical.not_not, z_up2, z_cp2, z_upL1, z_upL2, if_true, if_false, and_false, false_and, ge_iff_le, gt_iff_lt, nI_add, pk_mul, nI_1, zn_ltT, zn_ltF, zn_leT, zn_leF, zn_eqT, zn_eqF, zn_in, zn_cl, zn_sub, zn_upS, zn_upN, zn_upO, zn_z, zn_lt0, zn_le0, zn_0le, zn_m1, zn_in0, zn_in1, zn_cl0, zn_cl1, zn_g1, zn_1F, zn_1T, zn_zT, zn_1le, zn_lt1, zn_le1]))
    all_goals (first | (with_reducible exact ih) | omega | ((try simp only [ge_iff_le, gt_iff_lt, ← Int32.not_lt, Classical.not_not] at *); (first | (with_reducible rfl) | ((try simp only [r_ofIt] at ih); (try simp only [ge_iff_le, gt_iff_lt, ← Int32.not_lt, Classical.not_not] at ih); (try simp (disch := omega) only [*, zn_upS, zn_upN, zn_upO, if_true, if_false, ite_self, true_or, or_true, false_or, or_false, true_and, and_true, false_and, and_false, not_true_eq_false, not_false_eq_true, cond_true, cond_false, decide_true, decide_false, Bool.true_and, Bool.and_true, Bool.false_and, Bool.and_false, Bool.true_or, Bool.or_true, Bool.false_or, Bool.or_false, Bool.not_true, Bool.not_false, ne_eq, Nat.reduceEqDiff] at ih); first | (with_reducible exact ih) | omega))) | assumption | (unfold r_isIn; split <;> simp; done) | (unfold r_has; split <;> simp; done) | ((try simp only [r_ofIt] at ih); (repeat' (first | (with_reducible exact ih) | split at ih)); all_goals (first | (exfalso; omega) | (exfalso; simp_all; done))) | exact ih)
theorem e_X10_frees {h : Nat} {a0 : zId} {a1 : Int32} {M : zMem} {K : zK} (ha0 : (a0.1 == 99) = false) (q : z_run (z_nop k_X10_frees) (z_call h) K 0 [.inr (.inr a0), .inl a1, z_un] [] M) : z_call (h + 1) 188 [.inr (.inr a0), .inl a1] M K := ⟨by simp only [List.all_cons, List.all_nil, z_isU, ha0]; rfl, q⟩
theorem c_X10_frees_0 : z_nop k_X10_frees 0 = o_ic 0 := rfl
theorem c_X10_frees_1 : z_nop k_X10_frees 1 = o_istore 2 := rfl
theorem c_X10_frees_2 : z_nop k_X10_frees 2 = o_iload 2 := rfl
theorem c_X10_frees_3 : z_nop k_X10_frees 3 = o_ic (nI 24) := rfl
theorem c_X10_frees_4 : z_nop k_X10_frees 4 = o_icmp (fun x y => x ≥ y) 18 := rfl
theorem c_X10_frees_5 : z_nop k_X10_frees 5 = o_aload 0 := rfl
theorem c_X10_frees_6 : z_nop k_X10_frees 6 = o_getr 11 (fun w i => (24, 0, 0)) := rfl
theorem c_X10_frees_7 : z_nop k_X10_frees 7 = o_ic (nI 550) := rfl
theorem c_X10_frees_8 : z_nop k_X10_frees 8 = o_iload 2 := rfl
theorem c_X10_frees_9 : z_nop k_X10_frees 9 = o_bin (fun x y => x + y) := rfl
theorem c_X10_frees_10 : z_nop k_X10_frees 10 = o_iald := rfl
theorem c_X10_frees_11 : z_nop k_X10_frees 11 = o_iload 1 := rfl
theorem c_X10_frees_12 : z_nop k_X10_frees 12 = o_icmp (fun x y => x ≠ y) 16 := rfl
theorem c_X10_frees_13 : z_nop k_X10_frees 13 = o_aload 0 := rfl
theorem c_X10_frees_14 : z_nop k_X10_frees 14 = o_iload 2 := rfl
theorem c_X10_frees_15 : z_nop k_X10_frees 15 = o_callv 11 185 2 := rfl
theorem c_X10_frees_16 : z_nop k_X10_frees 16 = o_iinc 2 1 := rfl
theorem c_X10_frees_17 : z_nop k_X10_frees 17 = o_goto 2 := rfl
theorem c_X10_frees_18 : z_nop k_X10_frees 18 = o_aload 0 := rfl
theorem c_X10_frees_19 : z_nop k_X10_frees 19 = o_getr 11 (fun w i => (24, 0, 0)) := rfl
theorem c_X10_frees_20 : z_nop k_X10_frees 20 = o_ic (nI 278) := rfl
theorem c_X10_frees_21 : z_nop k_X10_frees 21 = o_iload 1 := rfl
theorem c_X10_frees_22 : z_nop k_X10_frees 22 = o_bin (fun x y => x + y) := rfl
theorem c_X10_frees_23 : z_nop k_X10_frees 23 = o_ic 0 := rfl
theorem c_X10_frees_24 : z_nop k_X10_frees 24 = o_iast := rfl
theorem c_X10_frees_25 : z_nop k_X10_frees 25 = o_ret := rfl

def f_mFrees (x : Int32) (n : Nat) (M : zMem) : zMem := if (M.1 24 0 0 (550 + n)) = x then n_isFree M n else M
def n_frees (M : zMem) (r : Nat) : zMem := z_up (z_it (f_mFrees (nI r)) 24 M) 24 0 0 (278 + r) 0
set_option maxRecDepth 100000 in
theorem s_frees {h r : Nat} {M : zMem} {K : zK} (hr : r < 4) (q : K none (n_frees M r)) : z_call (h + 2) 188 [.inr (.inr (11, 0, 0)), .inl (nI r)] M K := by
  unfold n_frees at q
  refine e_X10_frees rfl ?_
  refine z_wp_run (cut := [2, 16, 18]) 28 _ _ _ _ ?_
  repeat' (first | (with_reducible refine And.intro ?_ ?_) | (with_reducible intro _) | (with_reducible refine z_go (i := 16) (cut := [2, 16, 18]) 28 ?_) | (with_reducible refine z_go (i := 18) (cut := [2, 16, 18]) 28 ?_) | (simp (maxSteps := 1000000) (disch := omega) only [z_wp, Bool.false_eq_true, ↓reduceIte, z_e10, z_e01, eq_self, Int32.reduceLT, Int32.reduceLE, Int32.reduceGT, Int32.reduceGE, z_in, cond_true, cond_false, Nat.reduceAdd, Nat.reduceBEq, z_nth, z_set, z_clr, z_st1, z_st2, z_isL, z_opt, z_pop, z_cats, z_cat, c_X10_frees_0, c_X10_frees_1, c_X10_frees_2, c_X10_frees_3, c_X10_frees_4, c_X10_frees_5, c_X10_frees_6, c_X10_frees_7, c_X10_frees_8, c_X10_frees_9, c_X10_frees_10, c_X10_frees_11, c_X10_frees_12, c_X10_frees_13, c_X10_frees_14, c_X10_frees_15, c_X10_frees_16, c_X10_frees_17, c_X10_frees_18, c_X10_frees_19, c_X10_frees_20, c_X10_frees_21, c_X10_frees_22, c_X10_frees_23, c_X10_frees_24, c_X10_frees_25, o_aload, o_bin, o_callv, o_getr, o_goto, o_iald, o_iast, o_ic, o_icmp, o_iinc, o_iload, o_istore, o_ret, z_len, z_elt, z_isI, z_isJ, Nat.reduceEqDiff, Nat.reduceLeDiff, Nat.reduceLT, Nat.reduceSub, Nat.reduceMul, not_false_eq_true, not_true_eq_false, true_and, and_true, true_or, or_true, false_or, or_false, true_implies, false_implies, implies_true, forall_const, and_self, ne_eq, Classical.not_not, z_up2, z_cp2, z_upL1, z_upL2, if_true, if_false, and_false, false_and, ge_iff_le, gt_iff_lt, nI_add, pk_mul, nI_1, zn_ltT, zn_ltF, zn_leT, zn_leF, zn_eqT, zn_eqF, zn_in, zn_cl, zn_sub, zn_upS, zn_upN, zn_upO, zn_z, zn_lt0, zn_le0, zn_0le, zn_m1, zn_in0, zn_in1, zn_cl0, zn_cl1, zn_g1, zn_1F, zn_1T, zn_zT, zn_1le, zn_lt1, zn_le1]))
  have key := z_loop (fun n => z_run (z_nop k_X10_frees) (z_call (h+ 1)) K 2 [.inr (.inr (11, 0, 0)), .inl (nI r), .inl (nI n)] [] (z_it (f_mFrees (nI r)) n M)) (24) ?_ ?_ 0 (by omega)
  · exact key
  · skip
    refine z_go (cut := [2, 16, 18]) 28 ?_
    repeat' (first | (with_reducible refine And.intro ?_ ?_) | (with_reducible intro _) | (refine (s_mIsFree hn) ?_) | (with_reducible refine z_go (i := 16) (cut := [2, 16, 18]) 28 ?_) | (with_reducible refine z_go (i := 18) (cut := [2, 16, 18]) 28 ?_) | (simp (maxSteps := 1000000) (disch := omega) only [z_wp, Bool.false_eq_true, ↓reduceIte, z_e10, z_e01, eq_self, Int32.reduceLT, Int32.reduceLE, Int32.reduceGT, Int32.reduceGE, z_in, cond_true, cond_false, Nat.reduceAdd, Nat.reduceBEq, z_nth, z_set, z_clr, z_st1, z_st2, z_isL, z_opt, z_pop, z_cats, z_cat, c_X10_frees_0, c_X10_frees_1, c_X10_frees_2, c_X10_frees_3, c_X10_frees_4, c_X10_frees_5, c_X10_frees_6, c_X10_frees_7, c_X10_frees_8, c_X10_frees_9, c_X10_frees_10, c_X10_frees_11, c_X10_frees_12, c_X10_frees_13, c_X10_frees_14, c_X10_frees_15, c_X10_frees_16, c_X10_frees_17, c_X10_frees_18, c_X10_frees_19, c_X10_frees_20, c_X10_frees_21, c_X10_frees_22, c_X10_frees_23, c_X10_frees_24, c_X10_frees_25, o_aload, o_bin, o_callv, o_getr, o_goto, o_iald, o_iast, o_ic, o_icmp, o_iinc, o_iload, o_istore, o_ret, z_len, z_elt, z_isI, z_isJ, Nat.reduceEqDiff, Nat.reduceLeDiff, Nat.reduceLT, Nat.reduceSub, Nat.reduceMul, not_false_eq_true, not_true_eq_false, true_and, and_true, true_or, or_true, false_or, or_false, true_implies, false_implies, implies_true, forall_const, and_self, ne_eq, Classical.not_not, z_up2, z_cp2, z_upL1, z_upL2, if_true, if_false, and_false, false_and, ge_iff_le, gt_iff_lt, nI_add, pk_mul, nI_1, zn_ltT, zn_ltF, zn_leT, zn_leF, zn_eqT, zn_eqF, zn_in, zn_cl, zn_sub, zn_upS, zn_upN, zn_upO, zn_z, zn_lt0, zn_le0, zn_0le, zn_m1, zn_in0, zn_in1, zn_cl0, zn_cl1, zn_g1, zn_1F, zn_1T, zn_zT, zn_1le, zn_lt1, zn_le1]))
    all_goals (first | (with_reducible exact q) | omega | ((try simp only [ge_iff_le, gt_iff_lt, ← Int32.not_lt, Classical.not_not] at *); (first | (with_reducible rfl) | ((try simp only [z_it, f_mFrees] at q); (try simp only [ge_iff_le, gt_iff_lt, ← Int32.not_lt, Classical.not_not] at q); (try simp (disch := omega) only [*, zn_upS, zn_upN, zn_upO, if_true, if_false, ite_self, true_or, or_true, false_or, or_false, true_and, and_true, false_and, and_false, not_true_eq_false, not_false_eq_true, cond_true, cond_false, decide_true, decide_false, Bool.true_and, Bool.and_true, Bool.false_and, Bool.and_false, Bool.true_or, Bool.or_true, Bool.false_or, Bool.or_false, Bool.not_true, Bool.not_false, ne_eq, Nat.reduceEqDiff] at q); first | (with_reducible exact q) | omega))) | assumption | (unfold r_isIn; split <;> simp; done) | (unfold r_has; split <;> simp; done) | ((try simp only [z_it, f_mFrees] at q); (repeat' (first | (with_reducible exact q) | split at q)); all_goals (first | (exfalso; omega) | (exfalso; simp_all; done))) | exact q)
  · intro n hn ih
    refine z_go (cut := [2, 16, 18]) 28 ?_
    repeat' (first | (with_reducible refine And.intro ?_ ?_) | (with_reducible intro _) | (refine (s_mIsFree hn) ?_) | (with_reducible refine z_go (i := 16) (cut := [2, 16, 18]) 28 ?_) | (with_reducible refine z_go (i := 18) (cut := [2, 16, 18]) 28 ?_) | (simp (maxSteps := 1000000) (disch := omega) only [z_wp, Bool.false_eq_true, ↓reduceIte, z_e10, z_e01, eq_self, Int32.reduceLT, Int32.reduceLE, Int32.reduceGT, Int32.reduceGE, z_in, cond_true, cond_false, Nat.reduceAdd, Nat.reduceBEq, z_nth, z_set, z_clr, z_st1, z_st2, z_isL, z_opt, z_pop, z_cats, z_cat, c_X10_frees_0, c_X10_frees_1, c_X10_frees_2, c_X10_frees_3, c_X10_frees_4, c_X10_frees_5, c_X10_frees_6, c_X10_frees_7, c_X10_frees_8, c_X10_frees_9, c_X10_frees_10, c_X10_frees_11, c_X10_frees_12, c_X10_frees_13, c_X10_frees_14, c_X10_frees_15, c_X10_frees_16, c_X10_frees_17, c_X10_frees_18, c_X10_frees_19, c_X10_frees_20, c_X10_frees_21, c_X10_frees_22, c_X10_frees_23, c_X10_frees_24, c_X10_frees_25, o_aload, o_bin, o_callv, o_getr, o_goto, o_iald, o_iast, o_ic, o_icmp, o_iinc, o_iload, o_istore, o_ret, z_len, z_elt, z_isI, z_isJ, Nat.reduceEqDiff, Nat.reduceLeDiff, Nat.reduceLT, Nat.reduceSub, Nat.reduceMul, not_false_eq_true, not_true_eq_false, true_and, and_true, true_or, or_true, false_or, or_false, true_implies, false_implies, implies_true, forall_const, and_self, ne_eq, Classical.not_not, z_up2, z_cp2, z_upL1, z_upL2, if_true, if_false, and_false, false_and, ge_iff_le, gt_iff_lt, nI_add, pk_mul, nI_1, zn_ltT, zn_ltF, zn_leT, zn_leF, zn_eqT, zn_eqF, zn_in, zn_cl, zn_sub, zn_upS, zn_upN, zn_upO, zn_z, zn_lt0, zn_le0, zn_0le, zn_m1, zn_in0, zn_in1, zn_cl0, zn_cl1, zn_g1, zn_1F, zn_1T, zn_zT, zn_1le, zn_lt1, zn_le1]))
    all_goals (first | (with_reducible exact ih) | omega | ((try simp only [ge_iff_le, gt_iff_lt, ← Int32.not_lt, Classical.not_not] at *); (first | (with_reducible rfl) | ((try simp only [z_it, f_mFrees] at ih); (try simp only [ge_iff_le, gt_iff_lt, ← Int32.not_lt, Classical.not_not] at ih); (try simp (disch := omega) only [*, zn_upS, zn_upN, zn_upO, if_true, if_false, ite_self, true_or, or_true, false_or, or_false, true_and, and_true, false_and, and_false, not_true_eq_false, not_false_eq_true, cond_true, cond_false, decide_true, decide_false, Bool.true_and, Bool.and_true, Bool.false_and, Bool.and_false, Bool.true_or, Bool.or_true, Bool.false_or, Bool.or_false, Bool.not_true, Bool.not_false, ne_eq, Nat.reduceEqDiff] at ih); first | (with_reducible exact ih) | omega))) | assumption | (unfold r_isIn; split <;> simp; done) | (unfold r_has; split <;> simp; done) | ((try simp only [z_it, f_mFrees] at ih); (repeat' (first | (with_reducible exact ih) | split at ih)); all_goals (first | (exfalso; omega) | (exfalso; simp_all; done))) | exact ih)
theorem e_X10_clears {h : Nat} {a0 : zId} {a1 : Int32} {M : zMem} {K : zK} (ha0 : (a0.1 == 99) = false) (q : z_run (z_nop k_X10_clears) (z_call h) K 0 [.inr (.inr a0), .inl a1, z_un] [] M) : z_call (h + 1) 165 [.inr (.inr a0), .inl a1] M K := ⟨by simp only [List.all_cons, List.all_nil, z_isU, ha0]; rfl, q⟩
theorem c_X10_clears_0 : z_nop k_X10_clears 0 = o_ic (nI 454) := rfl
theorem c_X10_clears_1 : z_nop k_X10_clears 1 = o_istore 2 := rfl
theorem c_X10_clears_2 : z_nop k_X10_clears 2 = o_iload 2 := rfl
theorem c_X10_clears_3 : z_nop k_X10_clears 3 = o_ic (nI 718) := rfl
theorem c_X10_clears_4 : z_nop k_X10_clears 4 = o_icmp (fun x y => x ≥ y) 14 := rfl
theorem c_X10_clears_5 : z_nop k_X10_clears 5 = o_aload 0 := rfl
theorem c_X10_clears_6 : z_nop k_X10_clears 6 = o_getr 11 (fun w i => (24, 0, 0)) := rfl
theorem c_X10_clears_7 : z_nop k_X10_clears 7 = o_iload 2 := rfl
theorem c_X10_clears_8 : z_nop k_X10_clears 8 = o_iload 1 := rfl
theorem c_X10_clears_9 : z_nop k_X10_clears 9 = o_bin (fun x y => x + y) := rfl
theorem c_X10_clears_10 : z_nop k_X10_clears 10 = o_ic 0 := rfl
theorem c_X10_clears_11 : z_nop k_X10_clears 11 = o_iast := rfl
theorem c_X10_clears_12 : z_nop k_X10_clears 12 = o_iinc 2 (nI 24) := rfl
theorem c_X10_clears_13 : z_nop k_X10_clears 13 = o_goto 2 := rfl
theorem c_X10_clears_14 : z_nop k_X10_clears 14 = o_ic 0 := rfl
theorem c_X10_clears_15 : z_nop k_X10_clears 15 = o_istore 2 := rfl
theorem c_X10_clears_16 : z_nop k_X10_clears 16 = o_iload 2 := rfl
theorem c_X10_clears_17 : z_nop k_X10_clears 17 = o_ic (nI 4) := rfl
theorem c_X10_clears_18 : z_nop k_X10_clears 18 = o_icmp (fun x y => x ≥ y) 32 := rfl
theorem c_X10_clears_19 : z_nop k_X10_clears 19 = o_aload 0 := rfl
theorem c_X10_clears_20 : z_nop k_X10_clears 20 = o_getr 11 (fun w i => (24, 0, 0)) := rfl
theorem c_X10_clears_21 : z_nop k_X10_clears 21 = o_ic (nI 718) := rfl
theorem c_X10_clears_22 : z_nop k_X10_clears 22 = o_ic (nI 4) := rfl
theorem c_X10_clears_23 : z_nop k_X10_clears 23 = o_iload 1 := rfl
theorem c_X10_clears_24 : z_nop k_X10_clears 24 = o_bin (fun x y => x * y) := rfl
theorem c_X10_clears_25 : z_nop k_X10_clears 25 = o_bin (fun x y => x + y) := rfl
theorem c_X10_clears_26 : z_nop k_X10_clears 26 = o_iload 2 := rfl
theorem c_X10_clears_27 : z_nop k_X10_clears 27 = o_bin (fun x y => x + y) := rfl
theorem c_X10_clears_28 : z_nop k_X10_clears 28 = o_ic 0 := rfl
theorem c_X10_clears_29 : z_nop k_X10_clears 29 = o_iast := rfl
theorem c_X10_clears_30 : z_nop k_X10_clears 30 = o_iinc 2 1 := rfl
theorem c_X10_clears_31 : z_nop k_X10_clears 31 = o_goto 16 := rfl
theorem c_X10_clears_32 : z_nop k_X10_clears 32 = o_aload 0 := rfl
theorem c_X10_clears_33 : z_nop k_X10_clears 33 = o_getr 11 (fun w i => (24, 0, 0)) := rfl
theorem c_X10_clears_34 : z_nop k_X10_clears 34 = o_ic (nI 550) := rfl
theorem c_X10_clears_35 : z_nop k_X10_clears 35 = o_iload 1 := rfl
theorem c_X10_clears_36 : z_nop k_X10_clears 36 = o_bin (fun x y => x + y) := rfl
theorem c_X10_clears_37 : z_nop k_X10_clears 37 = o_ic (-1) := rfl
theorem c_X10_clears_38 : z_nop k_X10_clears 38 = o_iast := rfl
theorem c_X10_clears_39 : z_nop k_X10_clears 39 = o_aload 0 := rfl
theorem c_X10_clears_40 : z_nop k_X10_clears 40 = o_getr 11 (fun w i => (24, 0, 0)) := rfl
theorem c_X10_clears_41 : z_nop k_X10_clears 41 = o_ic (nI 574) := rfl
theorem c_X10_clears_42 : z_nop k_X10_clears 42 = o_iload 1 := rfl
theorem c_X10_clears_43 : z_nop k_X10_clears 43 = o_bin (fun x y => x + y) := rfl
theorem c_X10_clears_44 : z_nop k_X10_clears 44 = o_ic (-1) := rfl
theorem c_X10_clears_45 : z_nop k_X10_clears 45 = o_iast := rfl
theorem c_X10_clears_46 : z_nop k_X10_clears 46 = o_aload 0 := rfl
theorem c_X10_clears_47 : z_nop k_X10_clears 47 = o_getr 11 (fun w i => (24, 0, 0)) := rfl
theorem c_X10_clears_48 : z_nop k_X10_clears 48 = o_ic (nI 622) := rfl
theorem c_X10_clears_49 : z_nop k_X10_clears 49 = o_iload 1 := rfl
theorem c_X10_clears_50 : z_nop k_X10_clears 50 = o_bin (fun x y => x + y) := rfl
theorem c_X10_clears_51 : z_nop k_X10_clears 51 = o_ic (-1) := rfl
theorem c_X10_clears_52 : z_nop k_X10_clears 52 = o_iast := rfl
theorem c_X10_clears_53 : z_nop k_X10_clears 53 = o_aload 0 := rfl
theorem c_X10_clears_54 : z_nop k_X10_clears 54 = o_getr 11 (fun w i => (24, 0, 0)) := rfl
theorem c_X10_clears_55 : z_nop k_X10_clears 55 = o_ic (nI 670) := rfl
theorem c_X10_clears_56 : z_nop k_X10_clears 56 = o_iload 1 := rfl
theorem c_X10_clears_57 : z_nop k_X10_clears 57 = o_bin (fun x y => x + y) := rfl
theorem c_X10_clears_58 : z_nop k_X10_clears 58 = o_ic (-1) := rfl
theorem c_X10_clears_59 : z_nop k_X10_clears 59 = o_iast := rfl
theorem c_X10_clears_60 : z_nop k_X10_clears 60 = o_ret := rfl

def f_cl1 (t n : Nat) (M : zMem) : zMem := z_up M 24 0 0 (454 + 24 * n + t) 0
def f_cl2 (t n : Nat) (M : zMem) : zMem := z_up M 24 0 0 (718 + 4 * t + n) 0
def n_clears0 (M : zMem) (t : Nat) : zMem := z_it (f_cl2 t) 4 (z_it (f_cl1 t) 11 M)
def n_clears (M : zMem) (t : Nat) : zMem := z_up (z_up (z_up (z_up (n_clears0 M t) 24 0 0 (550 + t) (-1)) 24 0 0 (574 + t) (-1)) 24 0 0 (622 + t) (-1)) 24 0 0 (670 + t) (-1)
set_option maxRecDepth 100000 in
theorem s_clears {h t : Nat} {M : zMem} {K : zK} (ht : t < 24) (q : K none (n_clears M t)) : z_call (h + 1) 165 [.inr (.inr (11, 0, 0)), .inl (nI t)] M K := by
  unfold n_clears n_clears0 at q
  refine e_X10_clears rfl ?_
  refine z_wp_run (cut := [2]) 60 _ _ _ _ ?_
  simp (maxSteps := 1000000) (disch := omega) only [z_wp, Bool.false_eq_true, ↓reduceIte, z_e10, z_e01, eq_self, Int32.reduceLT, Int32.reduceLE, Int32.reduceGT, Int32.reduceGE, z_in, cond_true, cond_false, Nat.reduceAdd, Nat.reduceBEq, z_nth, z_set, z_clr, z_st1, z_st2, z_isL, z_opt, z_pop, z_cats, z_cat, c_X10_clears_0, c_X10_clears_1, c_X10_clears_2, c_X10_clears_3, c_X10_clears_4, c_X10_clears_5, c_X10_clears_6, c_X10_clears_7, c_X10_clears_8, c_X10_clears_9, c_X10_clears_10, c_X10_clears_11, c_X10_clears_12, c_X10_clears_13, c_X10_clears_14, c_X10_clears_15, c_X10_clears_16, c_X10_clears_17, c_X10_clears_18, c_X10_clears_19, c_X10_clears_20, c_X10_clears_21, c_X10_clears_22, c_X10_clears_23, c_X10_clears_24, c_X10_clears_25, c_X10_clears_26, c_X10_clears_27, c_X10_clears_28, c_X10_clears_29, c_X10_clears_30, c_X10_clears_31, c_X10_clears_32, c_X10_clears_33, c_X10_clears_34, c_X10_clears_35, c_X10_clears_36, c_X10_clears_37, c_X10_clears_38, c_X10_clears_39, c_X10_clears_40, c_X10_clears_41, c_X10_clears_42, c_X10_clears_43, c_X10_clears_44, c_X10_clears_45, c_X10_clears_46, c_X10_clears_47, c_X10_clears_48, c_X10_clears_49, c_X10_clears_50, c_X10_clears_51, c_X10_clears_52, c_X10_clears_53, c_X10_clears_54, c_X10_clears_55, c_X10_clears_56, c_X10_clears_57, c_X10_clears_58, c_X10_clears_59, c_X10_clears_60, o_aload, o_bin, o_getr, o_goto, o_iast, o_ic, o_icmp, o_iinc, o_iload, o_istore, o_ret, z_len, z_elt, z_isI, z_isJ, Nat.reduceEqDiff, Nat.reduceLeDiff, Nat.reduceLT, Nat.reduceSub, Nat.reduceMul, not_false_eq_true, not_true_eq_false, true_and, and_true, true_or, or_true, false_or, or_false, true_implies, false_implies, implies_true, forall_const, and_self, ne_eq, Classical.not_not, z_up2, z_cp2, z_upL1, z_upL2, if_true, if_false, and_false, false_and, ge_iff_le, gt_iff_lt, nI_add, pk_mul, nI_1, zn_ltT, zn_ltF, zn_leT, zn_leF, zn_eqT, zn_eqF, zn_in, zn_cl, zn_sub, zn_upS, zn_upN, zn_upO, zn_z, zn_lt0, zn_le0, zn_0le, zn_m1, zn_in0, zn_in1, zn_cl0, zn_cl1, zn_g1, zn_1F, zn_1T, zn_zT, zn_1le, zn_lt1, zn_le1]
  refine z_loop (fun n => z_run (z_nop k_X10_clears) (z_call (h)) K 2 [.inr (.inr (11, 0, 0)), .inl (nI t), .inl (nI (454 + 24 * n))] [] (z_it (f_cl1 t) n M)) 11 ?_ ?_ 0 (by omega)
  · refine z_go (cut := [16]) 60 ?_
    simp (maxSteps := 1000000) (disch := omega) only [z_wp, Bool.false_eq_true, ↓reduceIte, z_e10, z_e01, eq_self, Int32.reduceLT, Int32.reduceLE, Int32.reduceGT, Int32.reduceGE, z_in, cond_true, cond_false, Nat.reduceAdd, Nat.reduceBEq, z_nth, z_set, z_clr, z_st1, z_st2, z_isL, z_opt, z_pop, z_cats, z_cat, c_X10_clears_0, c_X10_clears_1, c_X10_clears_2, c_X10_clears_3, c_X10_clears_4, c_X10_clears_5, c_X10_clears_6, c_X10_clears_7, c_X10_clears_8, c_X10_clears_9, c_X10_clears_10, c_X10_clears_11, c_X10_clears_12, c_X10_clears_13, c_X10_clears_14, c_X10_clears_15, c_X10_clears_16, c_X10_clears_17, c_X10_clears_18, c_X10_clears_19, c_X10_clears_20, c_X10_clears_21, c_X10_clears_22, c_X10_clears_23, c_X10_clears_24, c_X10_clears_25, c_X10_clears_26, c_X10_clears_27, c_X10_clears_28, c_X10_clears_29, c_X10_clears_30, c_X10_clears_31, c_X10_clears_32, c_X10_clears_33, c_X10_clears_34, c_X10_clears_35, c_X10_clears_36, c_X10_clears_37, c_X10_clears_38, c_X10_clears_39, c_X10_clears_40, c_X10_clears_41, c_X10_clears_42, c_X10_clears_43, c_X10_clears_44, c_X10_clears_45, c_X10_clears_46, c_X10_clears_47, c_X10_clears_48, c_X10_clears_49, c_X10_clears_50, c_X10_clears_51, c_X10_clears_52, c_X10_clears_53, c_X10_clears_54, c_X10_clears_55, c_X10_clears_56, c_X10_clears_57, c_X10_clears_58, c_X10_clears_59, c_X10_clears_60, o_aload, o_bin, o_getr, o_goto, o_iast, o_ic, o_icmp, o_iinc, o_iload, o_istore, o_ret, z_len, z_elt, z_isI, z_isJ, Nat.reduceEqDiff, Nat.reduceLeDiff, Nat.reduceLT, Nat.reduceSub, Nat.reduceMul, not_false_eq_true, not_true_eq_false, true_and, and_true, true_or, or_true, false_or, or_false, true_implies, false_implies, implies_true, forall_const, and_self, ne_eq, Classical.not_not, z_up2, z_cp2, z_upL1, z_upL2, if_true, if_false, and_false, false_and, ge_iff_le, gt_iff_lt, nI_add, pk_mul, nI_1, zn_ltT, zn_ltF, zn_leT, zn_leF, zn_eqT, zn_eqF, zn_in, zn_cl, zn_sub, zn_upS, zn_upN, zn_upO, zn_z, zn_lt0, zn_le0, zn_0le, zn_m1, zn_in0, zn_in1, zn_cl0, zn_cl1, zn_g1, zn_1F, zn_1T, zn_zT, zn_1le, zn_lt1, zn_le1]
    generalize z_it (f_cl1 t) 11 M = M1 at q
    have key := z_loop (fun n => z_run (z_nop k_X10_clears) (z_call (h)) K 16 [.inr (.inr (11, 0, 0)), .inl (nI t), .inl (nI n)] [] (z_it (f_cl2 t) n M1)) (4) ?_ ?_ 0 (by omega)
    · exact key
    · skip
      refine z_go (cut := [14, 16, 32]) 63 ?_
      repeat' (first | (with_reducible refine And.intro ?_ ?_) | (with_reducible intro _) | (with_reducible refine z_go (i := 14) (cut := [14, 16, 32]) 63 ?_) | (with_reducible refine z_go (i := 32) (cut := [14, 16, 32]) 63 ?_) | (simp (maxSteps := 1000000) (disch := omega) only [z_wp, Bool.false_eq_true, ↓reduceIte, z_e10, z_e01, eq_self, Int32.reduceLT, Int32.reduceLE, Int32.reduceGT, Int32.reduceGE, z_in, cond_true, cond_false, Nat.reduceAdd, Nat.reduceBEq, z_nth, z_set, z_clr, z_st1, z_st2, z_isL, z_opt, z_pop, z_cats, z_cat, c_X10_clears_0, c_X10_clears_1, c_X10_clears_2, c_X10_clears_3, c_X10_clears_4, c_X10_clears_5, c_X10_clears_6, c_X10_clears_7, c_X10_clears_8, c_X10_clears_9, c_X10_clears_10, c_X10_clears_11, c_X10_clears_12, c_X10_clears_13, c_X10_clears_14, c_X10_clears_15, c_X10_clears_16, c_X10_clears_17, c_X10_clears_18, c_X10_clears_19, c_X10_clears_20, c_X10_clears_21, c_X10_clears_22, c_X10_clears_23, c_X10_clears_24, c_X10_clears_25, c_X10_clears_26, c_X10_clears_27, c_X10_clears_28, c_X10_clears_29, c_X10_clears_30, c_X10_clears_31, c_X10_clears_32, c_X10_clears_33, c_X10_clears_34, c_X10_clears_35, c_X10_clears_36, c_X10_clears_37, c_X10_clears_38, c_X10_clears_39, c_X10_clears_40, c_X10_clears_41, c_X10_clears_42, c_X10_clears_43, c_X10_clears_44, c_X10_clears_45, c_X10_clears_46, c_X10_clears_47, c_X10_clears_48, c_X10_clears_49, c_X10_clears_50, c_X10_clears_51, c_X10_clears_52, c_X10_clears_53, c_X10_clears_54, c_X10_clears_55, c_X10_clears_56, c_X10_clears_57, c_X10_clears_58, c_X10_clears_59, c_X10_clears_60, o_aload, o_bin, o_getr, o_goto, o_iast, o_ic, o_icmp, o_iinc, o_iload, o_istore, o_ret, z_len, z_elt, z_isI, z_isJ, Nat.reduceEqDiff, Nat.reduceLeDiff, Nat.reduceLT, Nat.reduceSub, Nat.reduceMul, not_false_eq_true, not_true_eq_false, true_and, and_true, true_or, or_true, false_or, or_false, true_implies, false_implies, implies_true, forall_const, and_self, ne_eq, Classical.not_not, z_up2, z_cp2, z_upL1, z_upL2, if_true, if_false, and_false, false_and, ge_iff_le, gt_iff_lt, nI_add, pk_mul, nI_1, zn_ltT, zn_ltF, zn_leT, zn_leF, zn_eqT, zn_eqF, zn_in, zn_cl, zn_sub, zn_upS, zn_upN, zn_upO, zn_z, zn_lt0, zn_le0, zn_0le, zn_m1, zn_in0, zn_in1, zn_cl0, zn_cl1, zn_g1, zn_1F, zn_1T, zn_zT, zn_1le, zn_lt1, zn_le1]))
      all_goals (first | (with_reducible exact q) | omega | ((try simp only [ge_iff_le, gt_iff_lt, ← Int32.not_lt, Classical.not_not] at *); (first | (with_reducible rfl) | ((try simp only [z_it, f_cl2] at q); (try simp only [ge_iff_le, gt_iff_lt, ← Int32.not_lt, Classical.not_not] at q); (try simp (disch := omega) only [*, zn_upS, zn_upN, zn_upO, if_true, if_false, ite_self, true_or, or_true, false_or, or_false, true_and, and_true, false_and, and_false, not_true_eq_false, not_false_eq_true, cond_true, cond_false, decide_true, decide_false, Bool.true_and, Bool.and_true, Bool.false_and, Bool.and_false, Bool.true_or, Bool.or_true, Bool.false_or, Bool.or_false, Bool.not_true, Bool.not_false, ne_eq, Nat.reduceEqDiff] at q); first | (with_reducible exact q) | omega))) | assumption | (unfold r_isIn; split <;> simp; done) | (unfold r_has; split <;> simp; done) | ((try simp only [z_it, f_cl2] at q); (repeat' (first | (with_reducible exact q) | split at q)); all_goals (first | (exfalso; omega) | (exfalso; simp_all; done))) | exact q)
    · intro n hn ih
      refine z_go (cut := [14, 16, 32]) 63 ?_
      repeat' (first | (with_reducible refine And.intro ?_ ?_) | (with_reducible intro _) | (with_reducible refine z_go (i := 14) (cut := [14, 16, 32]) 63 ?_) | (with_reducible refine z_go (i := 32) (cut := [14, 16, 32]) 63 ?_) | (simp (maxSteps := 1000000) (disch := omega) only [z_wp, Bool.false_eq_true, ↓reduceIte, z_e10, z_e01, eq_self, Int32.reduceLT, Int32.reduceLE, Int32.reduceGT, Int32.reduceGE, z_in, cond_true, cond_false, Nat.reduceAdd, Nat.reduceBEq, z_nth, z_set, z_clr, z_st1, z_st2, z_isL, z_opt, z_pop, z_cats, z_cat, c_X10_clears_0, c_X10_clears_1, c_X10_clears_2, c_X10_clears_3, c_X10_clears_4, c_X10_clears_5, c_X10_clears_6, c_X10_clears_7, c_X10_clears_8, c_X10_clears_9, c_X10_clears_10, c_X10_clears_11, c_X10_clears_12, c_X10_clears_13, c_X10_clears_14, c_X10_clears_15, c_X10_clears_16, c_X10_clears_17, c_X10_clears_18, c_X10_clears_19, c_X10_clears_20, c_X10_clears_21, c_X10_clears_22, c_X10_clears_23, c_X10_clears_24, c_X10_clears_25, c_X10_clears_26, c_X10_clears_27, c_X10_clears_28, c_X10_clears_29, c_X10_clears_30, c_X10_clears_31, c_X10_clears_32, c_X10_clears_33, c_X10_clears_34, c_X10_clears_35, c_X10_clears_36, c_X10_clears_37, c_X10_clears_38, c_X10_clears_39, c_X10_clears_40, c_X10_clears_41, c_X10_clears_42, c_X10_clears_43, c_X10_clears_44, c_X10_clears_45, c_X10_clears_46, c_X10_clears_47, c_X10_clears_48, c_X10_clears_49, c_X10_clears_50, c_X10_clears_51, c_X10_clears_52, c_X10_clears_53, c_X10_clears_54, c_X10_clears_55, c_X10_clears_56, c_X10_clears_57, c_X10_clears_58, c_X10_clears_59, c_X10_clears_60, o_aload, o_bin, o_getr, o_goto, o_iast, o_ic, o_icmp, o_iinc, o_iload, o_istore, o_ret, z_len, z_elt, z_isI, z_isJ, Nat.reduceEqDiff, Nat.reduceLeDiff, Nat.reduceLT, Nat.reduceSub, Nat.reduceMul, not_false_eq_true, not_true_eq_false, true_and, and_true, true_or, or_true, false_or, or_false, true_implies, false_implies, implies_true, forall_const, and_self, ne_eq, Classical.not_not, z_up2, z_cp2, z_upL1, z_upL2, if_true, if_false, and_false, false_and, ge_iff_le, gt_iff_lt, nI_add, pk_mul, nI_1, zn_ltT, zn_ltF, zn_leT, zn_leF, zn_eqT, zn_eqF, zn_in, zn_cl, zn_sub, zn_upS, zn_upN, zn_upO, zn_z, zn_lt0, zn_le0, zn_0le, zn_m1, zn_in0, zn_in1, zn_cl0, zn_cl1, zn_g1, zn_1F, zn_1T, zn_zT, zn_1le, zn_lt1, zn_le1]))
      all_goals (first | (with_reducible exact ih) | omega | ((try simp only [ge_iff_le, gt_iff_lt, ← Int32.not_lt, Classical.not_not] at *); (first | (with_reducible rfl) | ((try simp only [z_it, f_cl2] at ih); (try simp only [ge_iff_le, gt_iff_lt, ← Int32.not_lt, Classical.not_not] at ih); (try simp (disch := omega) only [*, zn_upS, zn_upN, zn_upO, if_true, if_false, ite_self, true_or, or_true, false_or, or_false, true_and, and_true, false_and, and_false, not_true_eq_false, not_false_eq_true, cond_true, cond_false, decide_true, decide_false, Bool.true_and, Bool.and_true, Bool.false_and, Bool.and_false, Bool.true_or, Bool.or_true, Bool.false_or, Bool.or_false, Bool.not_true, Bool.not_false, ne_eq, Nat.reduceEqDiff] at ih); first | (with_reducible exact ih) | omega))) | assumption | (unfold r_isIn; split <;> simp; done) | (unfold r_has; split <;> simp; done) | ((try simp only [z_it, f_cl2] at ih); (repeat' (first | (with_reducible exact ih) | split at ih)); all_goals (first | (exfalso; omega) | (exfalso; simp_all; done))) | exact ih)
  · intro n hn ih
    refine z_go (cut := [2]) 60 ?_
    simp (maxSteps := 1000000) (disch := omega) only [z_wp, Bool.false_eq_true, ↓reduceIte, z_e10, z_e01, eq_self, Int32.reduceLT, Int32.reduceLE, Int32.reduceGT, Int32.reduceGE, z_in, cond_true, cond_false, Nat.reduceAdd, Nat.reduceBEq, z_nth, z_set, z_clr, z_st1, z_st2, z_isL, z_opt, z_pop, z_cats, z_cat, c_X10_clears_0, c_X10_clears_1, c_X10_clears_2, c_X10_clears_3, c_X10_clears_4, c_X10_clears_5, c_X10_clears_6, c_X10_clears_7, c_X10_clears_8, c_X10_clears_9, c_X10_clears_10, c_X10_clears_11, c_X10_clears_12, c_X10_clears_13, c_X10_clears_14, c_X10_clears_15, c_X10_clears_16, c_X10_clears_17, c_X10_clears_18, c_X10_clears_19, c_X10_clears_20, c_X10_clears_21, c_X10_clears_22, c_X10_clears_23, c_X10_clears_24, c_X10_clears_25, c_X10_clears_26, c_X10_clears_27, c_X10_clears_28, c_X10_clears_29, c_X10_clears_30, c_X10_clears_31, c_X10_clears_32, c_X10_clears_33, c_X10_clears_34, c_X10_clears_35, c_X10_clears_36, c_X10_clears_37, c_X10_clears_38, c_X10_clears_39, c_X10_clears_40, c_X10_clears_41, c_X10_clears_42, c_X10_clears_43, c_X10_clears_44, c_X10_clears_45, c_X10_clears_46, c_X10_clears_47, c_X10_clears_48, c_X10_clears_49, c_X10_clears_50, c_X10_clears_51, c_X10_clears_52, c_X10_clears_53, c_X10_clears_54, c_X10_clears_55, c_X10_clears_56, c_X10_clears_57, c_X10_clears_58, c_X10_clears_59, c_X10_clears_60, o_aload, o_bin, o_getr, o_goto, o_iast, o_ic, o_icmp, o_iinc, o_iload, o_istore, o_ret, z_len, z_elt, z_isI, z_isJ, Nat.reduceEqDiff, Nat.reduceLeDiff, Nat.reduceLT, Nat.reduceSub, Nat.reduceMul, not_false_eq_true, not_true_eq_false, true_and, and_true, true_or, or_true, false_or, or_false, true_implies, false_implies, implies_true, forall_const, and_self, ne_eq, Classical.not_not, z_up2, z_cp2, z_upL1, z_upL2, if_true, if_false, and_false, false_and, ge_iff_le, gt_iff_lt, nI_add, pk_mul, nI_1, zn_ltT, zn_ltF, zn_leT, zn_leF, zn_eqT, zn_eqF, zn_in, zn_cl, zn_sub, zn_upS, zn_upN, zn_upO, zn_z, zn_lt0, zn_le0, zn_0le, zn_m1, zn_in0, zn_in1, zn_cl0, zn_cl1, zn_g1, zn_1F, zn_1T, zn_zT, zn_1le, zn_lt1, zn_le1]
    rw [z_itS, f_cl1, show 454 + 24 * (n + 1) = 454 + 24 * n + 24 by omega] at ih
    exact ih
theorem e_X10_copies {h : Nat} {a0 : zId} {a1 : zId} {M : zMem} {K : zK} (ha0 : (a0.1 == 99) = false) (ha1 : (a1.1 == 99) = false) (q : z_run (z_nop k_X10_copies) (z_call h) K 0 [.inr (.inr a0), .inr (.inr a1), z_un] [] M) : z_call (h + 1) 164 [.inr (.inr a0), .inr (.inr a1)] M K := ⟨by simp only [List.all_cons, List.all_nil, z_isU, ha0, ha1]; rfl, q⟩
theorem c_X10_copies_0 : z_nop k_X10_copies 0 = o_ic 0 := rfl
theorem c_X10_copies_1 : z_nop k_X10_copies 1 = o_istore 2 := rfl
theorem c_X10_copies_2 : z_nop k_X10_copies 2 = o_iload 2 := rfl
theorem c_X10_copies_3 : z_nop k_X10_copies 3 = o_ic (nI 33214) := rfl
theorem c_X10_copies_4 : z_nop k_X10_copies 4 = o_icmp (fun x y => x ≥ y) 13 := rfl
theorem c_X10_copies_5 : z_nop k_X10_copies 5 = o_aload 1 := rfl
theorem c_X10_copies_6 : z_nop k_X10_copies 6 = o_iload 2 := rfl
theorem c_X10_copies_7 : z_nop k_X10_copies 7 = o_aload 0 := rfl
theorem c_X10_copies_8 : z_nop k_X10_copies 8 = o_iload 2 := rfl
theorem c_X10_copies_9 : z_nop k_X10_copies 9 = o_iald := rfl
theorem c_X10_copies_10 : z_nop k_X10_copies 10 = o_iast := rfl
theorem c_X10_copies_11 : z_nop k_X10_copies 11 = o_iinc 2 1 := rfl
theorem c_X10_copies_12 : z_nop k_X10_copies 12 = o_goto 2 := rfl
theorem c_X10_copies_13 : z_nop k_X10_copies 13 = o_ret := rfl

def z_cpN (M : zMem) (a b n : Nat) : zMem := z_cp M 24 0 b (fun k => if k < n then M.1 24 0 a k else M.1 24 0 b k)
theorem z_cp0 {M : zMem} {a b : Nat} : z_cpN M a b 0 = M := by
  unfold z_cpN z_cp
  refine Prod.ext ?_ rfl
  funext x y z k
  simp only [Nat.not_lt_zero, if_false]
  split
  · rename_i c
    obtain ⟨rfl, rfl, rfl⟩ := c
    rfl
  · rfl
theorem z_cpS {M : zMem} {a b n : Nat} (hab : ¬ a = b) : z_up (z_cpN M a b n) 24 0 b n ((z_cpN M a b n).1 24 0 a n) = z_cpN M a b (n + 1) := by
  unfold z_cpN z_cp z_up
  refine Prod.ext ?_ rfl
  funext x y z k
  simp only [hab, and_false, if_false]
  by_cases c : x = 24 ∧ y = 0 ∧ z = b
  · obtain ⟨rfl, rfl, rfl⟩ := c
    by_cases c2 : k = n
    · subst c2
      simp
    · simp only [true_and, c2, if_false, and_self, if_true]
      by_cases c3 : k < n
      · rw [if_pos c3, if_pos (by omega)]
      · rw [if_neg c3, if_neg (by omega)]
  · rw [if_neg (fun e => c ⟨e.1, e.2.1, e.2.2.1⟩), if_neg c, if_neg c]
set_option maxRecDepth 100000 in
theorem s_copies {h a b : Nat} {M : zMem} {K : zK} (hab : ¬ a = b) (q : K none (z_cpN M a b 33214)) : z_call (h + 1) 164 [.inr (.inr (24, 0, a)), .inr (.inr (24, 0, b))] M K := by
  refine e_X10_copies rfl rfl ?_
  refine z_wp_run (cut := [2]) 60 _ _ _ _ ?_
  simp (maxSteps := 1000000) (disch := omega) only [z_wp, Bool.false_eq_true, ↓reduceIte, z_e10, z_e01, eq_self, Int32.reduceLT, Int32.reduceLE, Int32.reduceGT, Int32.reduceGE, z_in, cond_true, cond_false, Nat.reduceAdd, Nat.reduceBEq, z_nth, z_set, z_clr, z_st1, z_st2, z_isL, z_opt, z_pop, z_cats, z_cat, c_X10_copies_0, c_X10_copies_1, c_X10_copies_2, c_X10_copies_3, c_X10_copies_4, c_X10_copies_5, c_X10_copies_6, c_X10_copies_7, c_X10_copies_8, c_X10_copies_9, c_X10_copies_10, c_X10_copies_11, c_X10_copies_12, c_X10_copies_13, o_aload, o_goto, o_iald, o_iast, o_ic, o_icmp, o_iinc, o_iload, o_istore, o_ret, z_len, z_elt, z_isI, z_isJ, Nat.reduceEqDiff, Nat.reduceLeDiff, Nat.reduceLT, Nat.reduceSub, Nat.reduceMul, not_false_eq_true, not_true_eq_false, true_and, and_true, true_or, or_true, false_or, or_false, true_implies, false_implies, implies_true, forall_const, and_self, ne_eq, Classical.not_not, z_up2, z_cp2, z_upL1, z_upL2, if_true, if_false, and_false, false_and, ge_iff_le, gt_iff_lt, nI_add, pk_mul, nI_1, zn_ltT, zn_ltF, zn_leT, zn_leF, zn_eqT, zn_eqF, zn_in, zn_cl, zn_sub, zn_upS, zn_upN, zn_upO, zn_z, zn_lt0, zn_le0, zn_0le, zn_m1, zn_in0, zn_in1, zn_cl0, zn_cl1, zn_g1, zn_1F, zn_1T, zn_zT, zn_1le, zn_lt1, zn_le1]
  have key := z_loop (fun n => z_run (z_nop k_X10_copies) (z_call (h)) K 2 [.inr (.inr (24, 0, a)), .inr (.inr (24, 0, b)), .inl (nI n)] [] (z_cpN M a b n)) 33214 ?_ ?_ 0 (by omega)
  · rw [z_cp0] at key
    exact key
  · refine z_go (cut := []) 60 ?_
    simp (maxSteps := 1000000) (disch := omega) only [z_wp, Bool.false_eq_true, ↓reduceIte, z_e10, z_e01, eq_self, Int32.reduceLT, Int32.reduceLE, Int32.reduceGT, Int32.reduceGE, z_in, cond_true, cond_false, Nat.reduceAdd, Nat.reduceBEq, z_nth, z_set, z_clr, z_st1, z_st2, z_isL, z_opt, z_pop, z_cats, z_cat, c_X10_copies_0, c_X10_copies_1, c_X10_copies_2, c_X10_copies_3, c_X10_copies_4, c_X10_copies_5, c_X10_copies_6, c_X10_copies_7, c_X10_copies_8, c_X10_copies_9, c_X10_copies_10, c_X10_copies_11, c_X10_copies_12, c_X10_copies_13, o_aload, o_goto, o_iald, o_iast, o_ic, o_icmp, o_iinc, o_iload, o_istore, o_ret, z_len, z_elt, z_isI, z_isJ, Nat.reduceEqDiff, Nat.reduceLeDiff, Nat.reduceLT, Nat.reduceSub, Nat.reduceMul, not_false_eq_true, not_true_eq_false, true_and, and_true, true_or, or_true, false_or, or_false, true_implies, false_implies, implies_true, forall_const, and_self, ne_eq, Classical.not_not, z_up2, z_cp2, z_upL1, z_upL2, if_true, if_false, and_false, false_and, ge_iff_le, gt_iff_lt, nI_add, pk_mul, nI_1, zn_ltT, zn_ltF, zn_leT, zn_leF, zn_eqT, zn_eqF, zn_in, zn_cl, zn_sub, zn_upS, zn_upN, zn_upO, zn_z, zn_lt0, zn_le0, zn_0le, zn_m1, zn_in0, zn_in1, zn_cl0, zn_cl1, zn_g1, zn_1F, zn_1T, zn_zT, zn_1le, zn_lt1, zn_le1]
    exact q
  · intro n hn ih
    refine z_go (cut := [2]) 60 ?_
    simp (maxSteps := 1000000) (disch := omega) only [z_wp, Bool.false_eq_true, ↓reduceIte, z_e10, z_e01, eq_self, Int32.reduceLT, Int32.reduceLE, Int32.reduceGT, Int32.reduceGE, z_in, cond_true, cond_false, Nat.reduceAdd, Nat.reduceBEq, z_nth, z_set, z_clr, z_st1, z_st2, z_isL, z_opt, z_pop, z_cats, z_cat, c_X10_copies_0, c_X10_copies_1, c_X10_copies_2, c_X10_copies_3, c_X10_copies_4, c_X10_copies_5, c_X10_copies_6, c_X10_copies_7, c_X10_copies_8, c_X10_copies_9, c_X10_copies_10, c_X10_copies_11, c_X10_copies_12, c_X10_copies_13, o_aload, o_goto, o_iald, o_iast, o_ic, o_icmp, o_iinc, o_iload, o_istore, o_ret, z_len, z_elt, z_isI, z_isJ, Nat.reduceEqDiff, Nat.reduceLeDiff, Nat.reduceLT, Nat.reduceSub, Nat.reduceMul, not_false_eq_true, not_true_eq_false, true_and, and_true, true_or, or_true, false_or, or_false, true_implies, false_implies, implies_true, forall_const, and_self, ne_eq, Classical.not_not, z_up2, z_cp2, z_upL1, z_upL2, if_true, if_false, and_false, false_and, ge_iff_le, gt_iff_lt, nI_add, pk_mul, nI_1, zn_ltT, zn_ltF, zn_leT, zn_leF, zn_eqT, zn_eqF, zn_in, zn_cl, zn_sub, zn_upS, zn_upN, zn_upO, zn_z, zn_lt0, zn_le0, zn_0le, zn_m1, zn_in0, zn_in1, zn_cl0, zn_cl1, zn_g1, zn_1F, zn_1T, zn_zT, zn_1le, zn_lt1, zn_le1]
    rw [z_cpS hab]
    exact ih
