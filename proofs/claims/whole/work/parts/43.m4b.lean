/-! the reference: who is meant -/
theorem e_X10_wouldBe {h : Nat} {a0 : zId} {a1 : Int32} {a2 : Int32} {a3 : Int32} {a4 : Int32} {a5 : Int32} {M : zMem} {K : zK} (ha0 : (a0.1 == 99) = false) (q : z_run (z_nop k_X10_wouldBe) (z_call h) K 0 [.inr (.inr a0), .inl a1, .inl a2, .inl a3, .inl a4, .inl a5] [] M) : z_call (h + 1) 199 [.inr (.inr a0), .inl a1, .inl a2, .inl a3, .inl a4, .inl a5] M K := ⟨by simp only [List.all_cons, List.all_nil, z_isU, ha0]; rfl, q⟩
theorem c_X10_wouldBe_0 : z_nop k_X10_wouldBe 0 = o_aload 0 := rfl
theorem c_X10_wouldBe_1 : z_nop k_X10_wouldBe 1 = o_getr 11 (fun w i => (24, 0, 0)) := rfl
theorem c_X10_wouldBe_2 : z_nop k_X10_wouldBe 2 = o_ic (nI 454) := rfl
theorem c_X10_wouldBe_3 : z_nop k_X10_wouldBe 3 = o_iload 5 := rfl
theorem c_X10_wouldBe_4 : z_nop k_X10_wouldBe 4 = o_bin (fun x y => x + y) := rfl
theorem c_X10_wouldBe_5 : z_nop k_X10_wouldBe 5 = o_iald := rfl
theorem c_X10_wouldBe_6 : z_nop k_X10_wouldBe 6 = o_if (fun x => x = 0) 26 := rfl
theorem c_X10_wouldBe_7 : z_nop k_X10_wouldBe 7 = o_aload 0 := rfl
theorem c_X10_wouldBe_8 : z_nop k_X10_wouldBe 8 = o_getr 11 (fun w i => (24, 0, 0)) := rfl
theorem c_X10_wouldBe_9 : z_nop k_X10_wouldBe 9 = o_ic (nI 550) := rfl
theorem c_X10_wouldBe_10 : z_nop k_X10_wouldBe 10 = o_iload 5 := rfl
theorem c_X10_wouldBe_11 : z_nop k_X10_wouldBe 11 = o_bin (fun x y => x + y) := rfl
theorem c_X10_wouldBe_12 : z_nop k_X10_wouldBe 12 = o_iald := rfl
theorem c_X10_wouldBe_13 : z_nop k_X10_wouldBe 13 = o_ic (-1) := rfl
theorem c_X10_wouldBe_14 : z_nop k_X10_wouldBe 14 = o_icmp (fun x y => x ≠ y) 26 := rfl
theorem c_X10_wouldBe_15 : z_nop k_X10_wouldBe 15 = o_aload 0 := rfl
theorem c_X10_wouldBe_16 : z_nop k_X10_wouldBe 16 = o_iload 1 := rfl
theorem c_X10_wouldBe_17 : z_nop k_X10_wouldBe 17 = o_iload 5 := rfl
theorem c_X10_wouldBe_18 : z_nop k_X10_wouldBe 18 = o_callv 11 172 3 := rfl
theorem c_X10_wouldBe_19 : z_nop k_X10_wouldBe 19 = o_if (fun x => x = 0) 26 := rfl
theorem c_X10_wouldBe_20 : z_nop k_X10_wouldBe 20 = o_aload 0 := rfl
theorem c_X10_wouldBe_21 : z_nop k_X10_wouldBe 21 = o_iload 5 := rfl
theorem c_X10_wouldBe_22 : z_nop k_X10_wouldBe 22 = o_iload 2 := rfl
theorem c_X10_wouldBe_23 : z_nop k_X10_wouldBe 23 = o_callv 11 174 3 := rfl
theorem c_X10_wouldBe_24 : z_nop k_X10_wouldBe 24 = o_iload 3 := rfl
theorem c_X10_wouldBe_25 : z_nop k_X10_wouldBe 25 = o_icmp (fun x y => x = y) 28 := rfl
theorem c_X10_wouldBe_26 : z_nop k_X10_wouldBe 26 = o_ic 0 := rfl
theorem c_X10_wouldBe_27 : z_nop k_X10_wouldBe 27 = o_zret := rfl
theorem c_X10_wouldBe_28 : z_nop k_X10_wouldBe 28 = o_iload 4 := rfl
theorem c_X10_wouldBe_29 : z_nop k_X10_wouldBe 29 = o_if (fun x => x = 0) 46 := rfl
theorem c_X10_wouldBe_30 : z_nop k_X10_wouldBe 30 = o_iload 4 := rfl
theorem c_X10_wouldBe_31 : z_nop k_X10_wouldBe 31 = o_ic 1 := rfl
theorem c_X10_wouldBe_32 : z_nop k_X10_wouldBe 32 = o_icmp (fun x y => x ≠ y) 35 := rfl
theorem c_X10_wouldBe_33 : z_nop k_X10_wouldBe 33 = o_ic 1 := rfl
theorem c_X10_wouldBe_34 : z_nop k_X10_wouldBe 34 = o_goto 36 := rfl
theorem c_X10_wouldBe_35 : z_nop k_X10_wouldBe 35 = o_ic 0 := rfl
theorem c_X10_wouldBe_36 : z_nop k_X10_wouldBe 36 = o_aload 0 := rfl
theorem c_X10_wouldBe_37 : z_nop k_X10_wouldBe 37 = o_iload 5 := rfl
theorem c_X10_wouldBe_38 : z_nop k_X10_wouldBe 38 = o_ic (nI 4) := rfl
theorem c_X10_wouldBe_39 : z_nop k_X10_wouldBe 39 = o_callv 11 174 3 := rfl
theorem c_X10_wouldBe_40 : z_nop k_X10_wouldBe 40 = o_ic 1 := rfl
theorem c_X10_wouldBe_41 : z_nop k_X10_wouldBe 41 = o_icmp (fun x y => x ≠ y) 44 := rfl
theorem c_X10_wouldBe_42 : z_nop k_X10_wouldBe 42 = o_ic 1 := rfl
theorem c_X10_wouldBe_43 : z_nop k_X10_wouldBe 43 = o_goto 45 := rfl
theorem c_X10_wouldBe_44 : z_nop k_X10_wouldBe 44 = o_ic 0 := rfl
theorem c_X10_wouldBe_45 : z_nop k_X10_wouldBe 45 = o_icmp (fun x y => x ≠ y) 48 := rfl
theorem c_X10_wouldBe_46 : z_nop k_X10_wouldBe 46 = o_ic 1 := rfl
theorem c_X10_wouldBe_47 : z_nop k_X10_wouldBe 47 = o_goto 49 := rfl
theorem c_X10_wouldBe_48 : z_nop k_X10_wouldBe 48 = o_ic 0 := rfl
theorem c_X10_wouldBe_49 : z_nop k_X10_wouldBe 49 = o_zret := rfl

def c_would (M : zMem) (r s : Nat) (ta so : Int32) (t : Nat) : Prop := ¬ (M.1 24 0 0 (454 + t)) = 0 ∧ (M.1 24 0 0 (550 + t)) = -1 ∧ ¬ r_reaches M r t = 0 ∧ r_fl M t s = ta ∧ (so = 0 ∨ (so = 1 ↔ r_fl M t 4 = 1))
noncomputable def r_would (M : zMem) (r s : Nat) (ta so : Int32) (t : Nat) : Int32 := z_pb (c_would M r s ta so t)
set_option maxRecDepth 100000 in
theorem s_would {h r s t : Nat} {M : zMem} {ta so : Int32} {K : zK} (hr : r < 4) (hs : s < 5) (ht : t < 24) (q : K (some (.inl (r_would M r s ta so t))) M) : z_call (h + 3) 199 [.inr (.inr (11, 0, 0)), .inl (nI r), .inl (nI s), .inl ta, .inl so, .inl (nI t)] M K := by
  have q1 : c_would M r s ta so t → K (some (.inl 1)) M := fun c => by rw [r_would, z_pbT c] at q; exact q
  have q0 : ¬ c_would M r s ta so t → K (some (.inl 0)) M := fun c => by rw [r_would, z_pbF c] at q; exact q
  refine e_X10_wouldBe rfl ?_
  refine z_wp_run (cut := [19, 24, 26, 28, 35, 40, 44, 46, 48]) 52 _ _ _ _ ?_
  repeat' (first | (with_reducible refine And.intro ?_ ?_) | (with_reducible intro _) | (refine (s_reaches ht) ?_) | (refine (s_fl ht hs) ?_) | (refine (s_fl (f := 4) ht (by decide)) ?_) | (with_reducible refine z_go (i := 19) (cut := [19, 24, 26, 28, 35, 40, 44, 46, 48]) 52 ?_) | (with_reducible refine z_go (i := 24) (cut := [19, 24, 26, 28, 35, 40, 44, 46, 48]) 52 ?_) | (with_reducible refine z_go (i := 26) (cut := [19, 24, 26, 28, 35, 40, 44, 46, 48]) 52 ?_) | (with_reducible refine z_go (i := 28) (cut := [19, 24, 26, 28, 35, 40, 44, 46, 48]) 52 ?_) | (with_reducible refine z_go (i := 35) (cut := [19, 24, 26, 28, 35, 40, 44, 46, 48]) 52 ?_) | (with_reducible refine z_go (i := 40) (cut := [19, 24, 26, 28, 35, 40, 44, 46, 48]) 52 ?_) | (with_reducible refine z_go (i := 44) (cut := [19, 24, 26, 28, 35, 40, 44, 46, 48]) 52 ?_) | (with_reducible refine z_go (i := 46) (cut := [19, 24, 26, 28, 35, 40, 44, 46, 48]) 52 ?_) | (with_reducible refine z_go (i := 48) (cut := [19, 24, 26, 28, 35, 40, 44, 46, 48]) 52 ?_) | (simp (maxSteps := 1000000) (disch := omega) only [z_wp, Bool.false_eq_true, ↓reduceIte, z_e10, z_e01, eq_self, Int32.reduceLT, Int32.reduceLE, Int32.reduceGT, Int32.reduceGE, z_in, cond_true, cond_false, Nat.reduceAdd, Nat.reduceBEq, z_nth, z_set, z_clr, z_st1, z_st2, z_isL, z_opt, z_pop, z_cats, z_cat, c_X10_wouldBe_0, c_X10_wouldBe_1, c_X10_wouldBe_2, c_X10_wouldBe_3, c_X10_wouldBe_4, c_X10_wouldBe_5, c_X10_wouldBe_6, c_X10_wouldBe_7, c_X10_wouldBe_8, c_X10_wouldBe_9, c_X10_wouldBe_10, c_X10_wouldBe_11, c_X10_wouldBe_12, c_X10_wouldBe_13, c_X10_wouldBe_14, c_X10_wouldBe_15, c_X10_wouldBe_16, c_X10_wouldBe_17, c_X10_wouldBe_18, c_X10_wouldBe_19, c_X10_wouldBe_20, c_X10_wouldBe_21, c_X10_wouldBe_22, c_X10_wouldBe_23, c_X10_wouldBe_24, c_X10_wouldBe_25, c_X10_wouldBe_26, c_X10_wouldBe_27, c_X10_wouldBe_28, c_X10_wouldBe_29, c_X10_wouldBe_30, c_X10_wouldBe_31, c_X10_wouldBe_32, c_X10_wouldBe_33, c_X10_wouldBe_34, c_X10_wouldBe_35, c_X10_wouldBe_36, c_X10_wouldBe_37, c_X10_wouldBe_38, c_X10_wouldBe_39, c_X10_wouldBe_40, c_X10_wouldBe_41, c_X10_wouldBe_42, c_X10_wouldBe_43, c_X10_wouldBe_44, c_X10_wouldBe_45, c_X10_wouldBe_46, c_X10_wouldBe_47, c_X10_wouldBe_48, c_X10_wouldBe_49, o_aload, o_bin, o_callv, o_getr, o_goto, o_iald, o_ic, o_icmp, o_if, o_iload, o_zret, z_len, z_elt, z_isI, z_isJ, Nat.reduceEqDiff, Nat.reduceLeDiff, Nat.reduceLT, Nat.reduceSub, Nat.reduceMul, not_false_eq_true, not_true_eq_false, true_and, and_true, true_or, or_true, false_or, or_false, true_implies, false_implies, implies_true, forall_const, and_self, ne_eq, Classical.not_not, z_up2, z_cp2, z_upL1, z_upL2, if_true, if_false, and_false, false_and, ge_iff_le, gt_iff_lt, nI_add, pk_mul, nI_1, zn_ltT, zn_ltF, zn_leT, zn_leF, zn_eqT, zn_eqF, zn_in, zn_cl, zn_sub, zn_upS, zn_upN, zn_upO, zn_z, zn_lt0, zn_le0, zn_0le, zn_m1, zn_in0, zn_in1, zn_cl0, zn_cl1, zn_g1, zn_1F, zn_1T, zn_zT, zn_1le, zn_lt1, zn_le1]))
  all_goals (first | (refine q0 ?_; unfold c_would; simp_all; done) | (refine q1 ?_; unfold c_would; simp_all; done))
theorem e_X10_canAsk {h : Nat} {a0 : Int32} {a1 : Int32} {a2 : Int32} {a3 : Int32} {M : zMem} {K : zK} (q : z_run (z_nop k_X10_canAsk) (z_call h) K 0 [.inl a0, .inl a1, .inl a2, .inl a3] [] M) : z_call (h + 1) 200 [.inl a0, .inl a1, .inl a2, .inl a3] M K := ⟨by simp only [List.all_cons, List.all_nil, z_isU]; rfl, q⟩
theorem c_X10_canAsk_0 : z_nop k_X10_canAsk 0 = o_iload 0 := rfl
theorem c_X10_canAsk_1 : z_nop k_X10_canAsk 1 = o_call 166 1 := rfl
theorem c_X10_canAsk_2 : z_nop k_X10_canAsk 2 = o_if (fun x => x = 0) 20 := rfl
theorem c_X10_canAsk_3 : z_nop k_X10_canAsk 3 = o_iload 1 := rfl
theorem c_X10_canAsk_4 : z_nop k_X10_canAsk 4 = o_ic 0 := rfl
theorem c_X10_canAsk_5 : z_nop k_X10_canAsk 5 = o_ic (nI 3) := rfl
theorem c_X10_canAsk_6 : z_nop k_X10_canAsk 6 = o_call 162 3 := rfl
theorem c_X10_canAsk_7 : z_nop k_X10_canAsk 7 = o_if (fun x => x = 0) 20 := rfl
theorem c_X10_canAsk_8 : z_nop k_X10_canAsk 8 = o_iload 2 := rfl
theorem c_X10_canAsk_9 : z_nop k_X10_canAsk 9 = o_ic 0 := rfl
theorem c_X10_canAsk_10 : z_nop k_X10_canAsk 10 = o_ic 1 := rfl
theorem c_X10_canAsk_11 : z_nop k_X10_canAsk 11 = o_call 162 3 := rfl
theorem c_X10_canAsk_12 : z_nop k_X10_canAsk 12 = o_if (fun x => x = 0) 20 := rfl
theorem c_X10_canAsk_13 : z_nop k_X10_canAsk 13 = o_iload 3 := rfl
theorem c_X10_canAsk_14 : z_nop k_X10_canAsk 14 = o_ic 0 := rfl
theorem c_X10_canAsk_15 : z_nop k_X10_canAsk 15 = o_ic (nI 2) := rfl
theorem c_X10_canAsk_16 : z_nop k_X10_canAsk 16 = o_call 162 3 := rfl
theorem c_X10_canAsk_17 : z_nop k_X10_canAsk 17 = o_if (fun x => x = 0) 20 := rfl
theorem c_X10_canAsk_18 : z_nop k_X10_canAsk 18 = o_ic 1 := rfl
theorem c_X10_canAsk_19 : z_nop k_X10_canAsk 19 = o_goto 21 := rfl
theorem c_X10_canAsk_20 : z_nop k_X10_canAsk 20 = o_ic 0 := rfl
theorem c_X10_canAsk_21 : z_nop k_X10_canAsk 21 = o_zret := rfl

def c_canAsk (r se ta so : Int32) : Prop := ¬ r_isIn r 0 3 = 0 ∧ ¬ r_isIn se 0 3 = 0 ∧ ¬ r_isIn ta 0 1 = 0 ∧ ¬ r_isIn so 0 2 = 0
noncomputable def r_canAsk (r se ta so : Int32) : Int32 := z_pb (c_canAsk r se ta so)
set_option maxRecDepth 100000 in
theorem s_canAsk {h : Nat} {M : zMem} {r se ta so : Int32} {K : zK} (q : K (some (.inl (r_canAsk r se ta so))) M) : z_call (h + 3) 200 [.inl r, .inl se, .inl ta, .inl so] M K := by
  have q1 : c_canAsk r se ta so → K (some (.inl 1)) M := fun c => by rw [r_canAsk, z_pbT c] at q; exact q
  have q0 : ¬ c_canAsk r se ta so → K (some (.inl 0)) M := fun c => by rw [r_canAsk, z_pbF c] at q; exact q
  refine e_X10_canAsk  ?_
  refine z_wp_run (cut := [2, 7, 12, 17, 20]) 24 _ _ _ _ ?_
  repeat' (first | (with_reducible refine And.intro ?_ ?_) | (with_reducible intro _) | (refine s_isReader ?_) | (refine s_isIn ?_) | (with_reducible refine z_go (i := 2) (cut := [2, 7, 12, 17, 20]) 24 ?_) | (with_reducible refine z_go (i := 7) (cut := [2, 7, 12, 17, 20]) 24 ?_) | (with_reducible refine z_go (i := 12) (cut := [2, 7, 12, 17, 20]) 24 ?_) | (with_reducible refine z_go (i := 17) (cut := [2, 7, 12, 17, 20]) 24 ?_) | (with_reducible refine z_go (i := 20) (cut := [2, 7, 12, 17, 20]) 24 ?_) | (simp (maxSteps := 1000000) (disch := omega) only [z_wp, Bool.false_eq_true, ↓reduceIte, z_e10, z_e01, eq_self, Int32.reduceLT, Int32.reduceLE, Int32.reduceGT, Int32.reduceGE, z_in, cond_true, cond_false, Nat.reduceAdd, Nat.reduceBEq, z_nth, z_set, z_clr, z_st1, z_st2, z_isL, z_opt, z_pop, z_cats, z_cat, c_X10_canAsk_0, c_X10_canAsk_1, c_X10_canAsk_2, c_X10_canAsk_3, c_X10_canAsk_4, c_X10_canAsk_5, c_X10_canAsk_6, c_X10_canAsk_7, c_X10_canAsk_8, c_X10_canAsk_9, c_X10_canAsk_10, c_X10_canAsk_11, c_X10_canAsk_12, c_X10_canAsk_13, c_X10_canAsk_14, c_X10_canAsk_15, c_X10_canAsk_16, c_X10_canAsk_17, c_X10_canAsk_18, c_X10_canAsk_19, c_X10_canAsk_20, c_X10_canAsk_21, o_call, o_goto, o_ic, o_if, o_iload, o_zret, z_len, z_elt, z_isI, z_isJ, Nat.reduceEqDiff, Nat.reduceLeDiff, Nat.reduceLT, Nat.reduceSub, Nat.reduceMul, not_false_eq_true, not_true_eq_false, true_and, and_true, true_or, or_true, false_or, or_false, true_implies, false_implies, implies_true, forall_const, and_self, ne_eq, Classical.not_not, z_up2, z_cp2, z_upL1, z_upL2, if_true, if_false, and_false, false_and, ge_iff_le, gt_iff_lt, nI_add, pk_mul, nI_1, zn_ltT, zn_ltF, zn_leT, zn_leF, zn_eqT, zn_eqF, zn_in, zn_cl, zn_sub, zn_upS, zn_upN, zn_upO, zn_z, zn_lt0, zn_le0, zn_0le, zn_m1, zn_in0, zn_in1, zn_cl0, zn_cl1, zn_g1, zn_1F, zn_1T, zn_zT, zn_1le, zn_lt1, zn_le1]))
  all_goals (first | exact q1 ⟨by assumption, by assumption, by assumption, by assumption⟩ | exact q0 (fun z => z.1 (by assumption)) | exact q0 (fun z => z.2.1 (by assumption)) | exact q0 (fun z => z.2.2.1 (by assumption)) | exact q0 (fun z => z.2.2.2 (by assumption)))
theorem e_X10_means {h : Nat} {a0 : zId} {a1 : Int32} {a2 : Int32} {a3 : Int32} {a4 : Int32} {M : zMem} {K : zK} (ha0 : (a0.1 == 99) = false) (q : z_run (z_nop k_X10_means) (z_call h) K 0 [.inr (.inr a0), .inl a1, .inl a2, .inl a3, .inl a4, z_un, z_un] [] M) : z_call (h + 1) 201 [.inr (.inr a0), .inl a1, .inl a2, .inl a3, .inl a4] M K := ⟨by simp only [List.all_cons, List.all_nil, z_isU, ha0]; rfl, q⟩
theorem c_X10_means_0 : z_nop k_X10_means 0 = o_ic 0 := rfl
theorem c_X10_means_1 : z_nop k_X10_means 1 = o_istore 5 := rfl
theorem c_X10_means_2 : z_nop k_X10_means 2 = o_ic 0 := rfl
theorem c_X10_means_3 : z_nop k_X10_means 3 = o_istore 6 := rfl
theorem c_X10_means_4 : z_nop k_X10_means 4 = o_iload 6 := rfl
theorem c_X10_means_5 : z_nop k_X10_means 5 = o_ic (nI 24) := rfl
theorem c_X10_means_6 : z_nop k_X10_means 6 = o_icmp (fun x y => x ≥ y) 31 := rfl
theorem c_X10_means_7 : z_nop k_X10_means 7 = o_aload 0 := rfl
theorem c_X10_means_8 : z_nop k_X10_means 8 = o_getr 11 (fun w i => (40, 0, 0)) := rfl
theorem c_X10_means_9 : z_nop k_X10_means 9 = o_iload 6 := rfl
theorem c_X10_means_10 : z_nop k_X10_means 10 = o_aload 0 := rfl
theorem c_X10_means_11 : z_nop k_X10_means 11 = o_iload 1 := rfl
theorem c_X10_means_12 : z_nop k_X10_means 12 = o_iload 2 := rfl
theorem c_X10_means_13 : z_nop k_X10_means 13 = o_iload 3 := rfl
theorem c_X10_means_14 : z_nop k_X10_means 14 = o_iload 4 := rfl
theorem c_X10_means_15 : z_nop k_X10_means 15 = o_iload 6 := rfl
theorem c_X10_means_16 : z_nop k_X10_means 16 = o_callv 11 199 6 := rfl
theorem c_X10_means_17 : z_nop k_X10_means 17 = o_zast := rfl
theorem c_X10_means_18 : z_nop k_X10_means 18 = o_iload 5 := rfl
theorem c_X10_means_19 : z_nop k_X10_means 19 = o_aload 0 := rfl
theorem c_X10_means_20 : z_nop k_X10_means 20 = o_getr 11 (fun w i => (40, 0, 0)) := rfl
theorem c_X10_means_21 : z_nop k_X10_means 21 = o_iload 6 := rfl
theorem c_X10_means_22 : z_nop k_X10_means 22 = o_zald := rfl
theorem c_X10_means_23 : z_nop k_X10_means 23 = o_if (fun x => x = 0) 26 := rfl
theorem c_X10_means_24 : z_nop k_X10_means 24 = o_ic 1 := rfl
theorem c_X10_means_25 : z_nop k_X10_means 25 = o_goto 27 := rfl
theorem c_X10_means_26 : z_nop k_X10_means 26 = o_ic 0 := rfl
theorem c_X10_means_27 : z_nop k_X10_means 27 = o_bin (fun x y => x + y) := rfl
theorem c_X10_means_28 : z_nop k_X10_means 28 = o_istore 5 := rfl
theorem c_X10_means_29 : z_nop k_X10_means 29 = o_iinc 6 1 := rfl
theorem c_X10_means_30 : z_nop k_X10_means 30 = o_goto 4 := rfl
theorem c_X10_means_31 : z_nop k_X10_means 31 = o_iload 5 := rfl
theorem c_X10_means_32 : z_nop k_X10_means 32 = o_iret := rfl

noncomputable def f_mean (M0 : zMem) (r s : Nat) (ta so : Int32) (n : Nat) (M : zMem) : zMem := z_up M 40 0 0 n (r_would M0 r s ta so n)
noncomputable def n_means (M : zMem) (r s : Nat) (ta so : Int32) : zMem := z_it (f_mean M r s ta so) 24 M
noncomputable def r_means (M : zMem) (r s : Nat) (ta so : Int32) : Nat → Int32
  | 0 => 0
  | n + 1 => r_means M r s ta so n + (if r_would M r s ta so n = 0 then 0 else 1)
theorem zf_mean {M M0 : zMem} {r s n a b c d : Nat} {ta so : Int32} (h : ¬ a = 40) : (z_it (f_mean M0 r s ta so) n M).1 a b c d = M.1 a b c d := by
  induction n with
  | zero => rfl
  | succ n ih => rw [z_itS, f_mean, zn_upO h, ih]
theorem z_wouldC {M M2 : zMem} {r s : Nat} {ta so : Int32} {t : Nat} (e : ∀ k, M2.1 24 0 0 k = M.1 24 0 0 k) : r_would M2 r s ta so t = r_would M r s ta so t := by
  unfold r_would c_would r_reaches r_fl
  simp only [e]
set_option maxRecDepth 100000 in
theorem s_means {h r s : Nat} {M : zMem} {ta so : Int32} {K : zK} (hr : r < 4) (hs : s < 5) (q : K (some (.inl (r_means M r s ta so 24))) (n_means M r s ta so)) : z_call (h + 4) 201 [.inr (.inr (11, 0, 0)), .inl (nI r), .inl (nI s), .inl ta, .inl so] M K := by
  unfold n_means at q
  refine e_X10_means rfl ?_
  refine z_wp_run (cut := [4]) 60 _ _ _ _ ?_
  simp (maxSteps := 1000000) (disch := omega) only [z_wp, Bool.false_eq_true, ↓reduceIte, z_e10, z_e01, eq_self, Int32.reduceLT, Int32.reduceLE, Int32.reduceGT, Int32.reduceGE, z_in, cond_true, cond_false, Nat.reduceAdd, Nat.reduceBEq, z_nth, z_set, z_clr, z_st1, z_st2, z_isL, z_opt, z_pop, z_cats, z_cat, c_X10_means_0, c_X10_means_1, c_X10_means_2, c_X10_means_3, c_X10_means_4, c_X10_means_5, c_X10_means_6, c_X10_means_7, c_X10_means_8, c_X10_means_9, c_X10_means_10, c_X10_means_11, c_X10_means_12, c_X10_means_13, c_X10_means_14, c_X10_means_15, c_X10_means_16, c_X10_means_17, c_X10_means_18, c_X10_means_19, c_X10_means_20, c_X10_means_21, c_X10_means_22, c_X10_means_23, c_X10_means_24, c_X10_means_25, c_X10_means_26, c_X10_means_27, c_X10_means_28, c_X10_means_29, c_X10_means_30, c_X10_means_31, c_X10_means_32, o_aload, o_bin, o_callv, o_getr, o_goto, o_ic, o_icmp, o_if, o_iinc, o_iload, o_iret, o_istore, o_zald, o_zast, z_len, z_elt, z_isI, z_isJ, Nat.reduceEqDiff, Nat.reduceLeDiff, Nat.reduceLT, Nat.reduceSub, Nat.reduceMul, not_false_eq_true, not_true_eq_false, true_and, and_true, true_or, or_true, false_or, or_false, true_implies, false_implies, implies_true, forall_const, and_self, ne_eq, Classical.not_not, z_up2, z_cp2, z_upL1, z_upL2, if_true, if_false, and_false, false_and, ge_iff_le, gt_iff_lt, nI_add, pk_mul, nI_1, zn_ltT, zn_ltF, zn_leT, zn_leF, zn_eqT, zn_eqF, zn_in, zn_cl, zn_sub, zn_upS, zn_upN, zn_upO, zn_z, zn_lt0, zn_le0, zn_0le, zn_m1, zn_in0, zn_in1, zn_cl0, zn_cl1, zn_g1, zn_1F, zn_1T, zn_zT, zn_1le, zn_lt1, zn_le1]
  refine z_loop (fun n => z_run (z_nop k_X10_means) (z_call (h + 3)) K 4 [.inr (.inr (11, 0, 0)), .inl (nI r), .inl (nI s), .inl ta, .inl so, .inl (r_means M r s ta so n), .inl (nI n)] [] (z_it (f_mean M r s ta so) n M)) 24 ?_ ?_ 0 (by omega)
  · refine z_go (cut := [7]) 60 ?_
    simp (maxSteps := 1000000) (disch := omega) only [z_wp, Bool.false_eq_true, ↓reduceIte, z_e10, z_e01, eq_self, Int32.reduceLT, Int32.reduceLE, Int32.reduceGT, Int32.reduceGE, z_in, cond_true, cond_false, Nat.reduceAdd, Nat.reduceBEq, z_nth, z_set, z_clr, z_st1, z_st2, z_isL, z_opt, z_pop, z_cats, z_cat, c_X10_means_0, c_X10_means_1, c_X10_means_2, c_X10_means_3, c_X10_means_4, c_X10_means_5, c_X10_means_6, c_X10_means_7, c_X10_means_8, c_X10_means_9, c_X10_means_10, c_X10_means_11, c_X10_means_12, c_X10_means_13, c_X10_means_14, c_X10_means_15, c_X10_means_16, c_X10_means_17, c_X10_means_18, c_X10_means_19, c_X10_means_20, c_X10_means_21, c_X10_means_22, c_X10_means_23, c_X10_means_24, c_X10_means_25, c_X10_means_26, c_X10_means_27, c_X10_means_28, c_X10_means_29, c_X10_means_30, c_X10_means_31, c_X10_means_32, o_aload, o_bin, o_callv, o_getr, o_goto, o_ic, o_icmp, o_if, o_iinc, o_iload, o_iret, o_istore, o_zald, o_zast, z_len, z_elt, z_isI, z_isJ, Nat.reduceEqDiff, Nat.reduceLeDiff, Nat.reduceLT, Nat.reduceSub, Nat.reduceMul, not_false_eq_true, not_true_eq_false, true_and, and_true, true_or, or_true, false_or, or_false, true_implies, false_implies, implies_true, forall_const, and_self, ne_eq, Classical.not_not, z_up2, z_cp2, z_upL1, z_upL2, if_true, if_false, and_false, false_and, ge_iff_le, gt_iff_lt, nI_add, pk_mul, nI_1, zn_ltT, zn_ltF, zn_leT, zn_leF, zn_eqT, zn_eqF, zn_in, zn_cl, zn_sub, zn_upS, zn_upN, zn_upO, zn_z, zn_lt0, zn_le0, zn_0le, zn_m1, zn_in0, zn_in1, zn_cl0, zn_cl1, zn_g1, zn_1F, zn_1T, zn_zT, zn_1le, zn_lt1, zn_le1]
    exact q
  · intro n hn ih
    rw [z_itS, f_mean, r_means] at ih
    refine z_go (cut := [17, 31]) 60 ?_
    simp (maxSteps := 1000000) (disch := omega) only [z_wp, Bool.false_eq_true, ↓reduceIte, z_e10, z_e01, eq_self, Int32.reduceLT, Int32.reduceLE, Int32.reduceGT, Int32.reduceGE, z_in, cond_true, cond_false, Nat.reduceAdd, Nat.reduceBEq, z_nth, z_set, z_clr, z_st1, z_st2, z_isL, z_opt, z_pop, z_cats, z_cat, c_X10_means_0, c_X10_means_1, c_X10_means_2, c_X10_means_3, c_X10_means_4, c_X10_means_5, c_X10_means_6, c_X10_means_7, c_X10_means_8, c_X10_means_9, c_X10_means_10, c_X10_means_11, c_X10_means_12, c_X10_means_13, c_X10_means_14, c_X10_means_15, c_X10_means_16, c_X10_means_17, c_X10_means_18, c_X10_means_19, c_X10_means_20, c_X10_means_21, c_X10_means_22, c_X10_means_23, c_X10_means_24, c_X10_means_25, c_X10_means_26, c_X10_means_27, c_X10_means_28, c_X10_means_29, c_X10_means_30, c_X10_means_31, c_X10_means_32, o_aload, o_bin, o_callv, o_getr, o_goto, o_ic, o_icmp, o_if, o_iinc, o_iload, o_iret, o_istore, o_zald, o_zast, z_len, z_elt, z_isI, z_isJ, Nat.reduceEqDiff, Nat.reduceLeDiff, Nat.reduceLT, Nat.reduceSub, Nat.reduceMul, not_false_eq_true, not_true_eq_false, true_and, and_true, true_or, or_true, false_or, or_false, true_implies, false_implies, implies_true, forall_const, and_self, ne_eq, Classical.not_not, z_up2, z_cp2, z_upL1, z_upL2, if_true, if_false, and_false, false_and, ge_iff_le, gt_iff_lt, nI_add, pk_mul, nI_1, zn_ltT, zn_ltF, zn_leT, zn_leF, zn_eqT, zn_eqF, zn_in, zn_cl, zn_sub, zn_upS, zn_upN, zn_upO, zn_z, zn_lt0, zn_le0, zn_0le, zn_m1, zn_in0, zn_in1, zn_cl0, zn_cl1, zn_g1, zn_1F, zn_1T, zn_zT, zn_1le, zn_lt1, zn_le1]
    refine s_would hr hs hn ?_
    rw [z_wouldC (M := M) (fun k => zf_mean (by decide))]
    refine z_go (cut := [4, 26]) 60 ?_
    simp (maxSteps := 1000000) (disch := omega) only [z_wp, Bool.false_eq_true, ↓reduceIte, z_e10, z_e01, eq_self, Int32.reduceLT, Int32.reduceLE, Int32.reduceGT, Int32.reduceGE, z_in, cond_true, cond_false, Nat.reduceAdd, Nat.reduceBEq, z_nth, z_set, z_clr, z_st1, z_st2, z_isL, z_opt, z_pop, z_cats, z_cat, c_X10_means_0, c_X10_means_1, c_X10_means_2, c_X10_means_3, c_X10_means_4, c_X10_means_5, c_X10_means_6, c_X10_means_7, c_X10_means_8, c_X10_means_9, c_X10_means_10, c_X10_means_11, c_X10_means_12, c_X10_means_13, c_X10_means_14, c_X10_means_15, c_X10_means_16, c_X10_means_17, c_X10_means_18, c_X10_means_19, c_X10_means_20, c_X10_means_21, c_X10_means_22, c_X10_means_23, c_X10_means_24, c_X10_means_25, c_X10_means_26, c_X10_means_27, c_X10_means_28, c_X10_means_29, c_X10_means_30, c_X10_means_31, c_X10_means_32, o_aload, o_bin, o_callv, o_getr, o_goto, o_ic, o_icmp, o_if, o_iinc, o_iload, o_iret, o_istore, o_zald, o_zast, z_len, z_elt, z_isI, z_isJ, Nat.reduceEqDiff, Nat.reduceLeDiff, Nat.reduceLT, Nat.reduceSub, Nat.reduceMul, not_false_eq_true, not_true_eq_false, true_and, and_true, true_or, or_true, false_or, or_false, true_implies, false_implies, implies_true, forall_const, and_self, ne_eq, Classical.not_not, z_up2, z_cp2, z_upL1, z_upL2, if_true, if_false, and_false, false_and, ge_iff_le, gt_iff_lt, nI_add, pk_mul, nI_1, zn_ltT, zn_ltF, zn_leT, zn_leF, zn_eqT, zn_eqF, zn_in, zn_cl, zn_sub, zn_upS, zn_upN, zn_upO, zn_z, zn_lt0, zn_le0, zn_0le, zn_m1, zn_in0, zn_in1, zn_cl0, zn_cl1, zn_g1, zn_1F, zn_1T, zn_zT, zn_1le, zn_lt1, zn_le1]
    refine ⟨z_pbc _, fun c => ?_, fun c => ?_⟩
    · rw [if_pos c] at ih
      refine z_go (cut := [4]) 60 ?_
      simp (maxSteps := 1000000) (disch := omega) only [z_wp, Bool.false_eq_true, ↓reduceIte, z_e10, z_e01, eq_self, Int32.reduceLT, Int32.reduceLE, Int32.reduceGT, Int32.reduceGE, z_in, cond_true, cond_false, Nat.reduceAdd, Nat.reduceBEq, z_nth, z_set, z_clr, z_st1, z_st2, z_isL, z_opt, z_pop, z_cats, z_cat, c_X10_means_0, c_X10_means_1, c_X10_means_2, c_X10_means_3, c_X10_means_4, c_X10_means_5, c_X10_means_6, c_X10_means_7, c_X10_means_8, c_X10_means_9, c_X10_means_10, c_X10_means_11, c_X10_means_12, c_X10_means_13, c_X10_means_14, c_X10_means_15, c_X10_means_16, c_X10_means_17, c_X10_means_18, c_X10_means_19, c_X10_means_20, c_X10_means_21, c_X10_means_22, c_X10_means_23, c_X10_means_24, c_X10_means_25, c_X10_means_26, c_X10_means_27, c_X10_means_28, c_X10_means_29, c_X10_means_30, c_X10_means_31, c_X10_means_32, o_aload, o_bin, o_callv, o_getr, o_goto, o_ic, o_icmp, o_if, o_iinc, o_iload, o_iret, o_istore, o_zald, o_zast, z_len, z_elt, z_isI, z_isJ, Nat.reduceEqDiff, Nat.reduceLeDiff, Nat.reduceLT, Nat.reduceSub, Nat.reduceMul, not_false_eq_true, not_true_eq_false, true_and, and_true, true_or, or_true, false_or, or_false, true_implies, false_implies, implies_true, forall_const, and_self, ne_eq, Classical.not_not, z_up2, z_cp2, z_upL1, z_upL2, if_true, if_false, and_false, false_and, ge_iff_le, gt_iff_lt, nI_add, pk_mul, nI_1, zn_ltT, zn_ltF, zn_leT, zn_leF, zn_eqT, zn_eqF, zn_in, zn_cl, zn_sub, zn_upS, zn_upN, zn_upO, zn_z, zn_lt0, zn_le0, zn_0le, zn_m1, zn_in0, zn_in1, zn_cl0, zn_cl1, zn_g1, zn_1F, zn_1T, zn_zT, zn_1le, zn_lt1, zn_le1]
      exact ih
    · rw [if_neg c] at ih
      exact ih
