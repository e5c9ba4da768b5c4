/-! Prefixes: rows as wholes; Journal; Reader -/
theorem e_X2_backwardsFrom {h : Nat} {a0 : zId} {a1 : zId} {M : zMem} {K : zK} (ha0 : (a0.1 == 99) = false) (ha1 : (a1.1 == 99) = false) (q : z_run (z_nop k_X2_backwardsFrom) (z_call h) K 0 [.inr (.inr a0), .inr (.inr a1), z_un] [] M) : z_call (h + 1) 24 [.inr (.inr a0), .inr (.inr a1)] M K := ⟨by simp only [List.all_cons, List.all_nil, z_isU, ha0, ha1]; rfl, q⟩
theorem c_X2_backwardsFrom_0 : z_nop k_X2_backwardsFrom 0 = o_aload 0 := rfl
theorem c_X2_backwardsFrom_1 : z_nop k_X2_backwardsFrom 1 = o_callv 3 19 1 := rfl
theorem c_X2_backwardsFrom_2 : z_nop k_X2_backwardsFrom 2 = o_aload 1 := rfl
theorem c_X2_backwardsFrom_3 : z_nop k_X2_backwardsFrom 3 = o_get 3 1 := rfl
theorem c_X2_backwardsFrom_4 : z_nop k_X2_backwardsFrom 4 = o_ic 1 := rfl
theorem c_X2_backwardsFrom_5 : z_nop k_X2_backwardsFrom 5 = o_bin (fun x y => x - y) := rfl
theorem c_X2_backwardsFrom_6 : z_nop k_X2_backwardsFrom 6 = o_istore 2 := rfl
theorem c_X2_backwardsFrom_7 : z_nop k_X2_backwardsFrom 7 = o_iload 2 := rfl
theorem c_X2_backwardsFrom_8 : z_nop k_X2_backwardsFrom 8 = o_if (fun x => x < 0) 18 := rfl
theorem c_X2_backwardsFrom_9 : z_nop k_X2_backwardsFrom 9 = o_aload 0 := rfl
theorem c_X2_backwardsFrom_10 : z_nop k_X2_backwardsFrom 10 = o_aload 1 := rfl
theorem c_X2_backwardsFrom_11 : z_nop k_X2_backwardsFrom 11 = o_iload 2 := rfl
theorem c_X2_backwardsFrom_12 : z_nop k_X2_backwardsFrom 12 = o_callv 3 22 2 := rfl
theorem c_X2_backwardsFrom_13 : z_nop k_X2_backwardsFrom 13 = o_ic (-16777217) := rfl
theorem c_X2_backwardsFrom_14 : z_nop k_X2_backwardsFrom 14 = o_bin (fun x y => x &&& y) := rfl
theorem c_X2_backwardsFrom_15 : z_nop k_X2_backwardsFrom 15 = o_callv 3 20 2 := rfl
theorem c_X2_backwardsFrom_16 : z_nop k_X2_backwardsFrom 16 = o_iinc 2 (-1) := rfl
theorem c_X2_backwardsFrom_17 : z_nop k_X2_backwardsFrom 17 = o_goto 7 := rfl
theorem c_X2_backwardsFrom_18 : z_nop k_X2_backwardsFrom 18 = o_ret := rfl

def m_pfxBack (M : zMem) (w i j n : Nat) : zMem := z_it (fun k M => m_pfxAdd M w i (r_pfxAt M w j (nI (n - 1 - k)) &&& -16777217)) n (m_pfxClear M w i)
theorem e_X1_add {h : Nat} {a0 : zId} {a1 : Int32} {a2 : Int32} {a3 : Int32} {a4 : Int32} {M : zMem} {K : zK} (ha0 : (a0.1 == 99) = false) (q : z_run (z_nop k_X1_add) (z_call h) K 0 [.inr (.inr a0), .inl a1, .inl a2, .inl a3, .inl a4, z_un] [] M) : z_call (h + 1) 12 [.inr (.inr a0), .inl a1, .inl a2, .inl a3, .inl a4] M K := ⟨by simp only [List.all_cons, List.all_nil, z_isU, ha0]; rfl, q⟩
theorem c_X1_add_0 : z_nop k_X1_add 0 = o_aload 0 := rfl
theorem c_X1_add_1 : z_nop k_X1_add 1 = o_get 2 1 := rfl
theorem c_X1_add_2 : z_nop k_X1_add 2 = o_ic 60 := rfl
theorem c_X1_add_3 : z_nop k_X1_add 3 = o_call 275 2 := rfl
theorem c_X1_add_4 : z_nop k_X1_add 4 = o_ic 4 := rfl
theorem c_X1_add_5 : z_nop k_X1_add 5 = o_bin (fun x y => x * y) := rfl
theorem c_X1_add_6 : z_nop k_X1_add 6 = o_istore 5 := rfl
theorem c_X1_add_7 : z_nop k_X1_add 7 = o_aload 0 := rfl
theorem c_X1_add_8 : z_nop k_X1_add 8 = o_getr 2 (fun w i => (21, w, 0)) := rfl
theorem c_X1_add_9 : z_nop k_X1_add 9 = o_iload 5 := rfl
theorem c_X1_add_10 : z_nop k_X1_add 10 = o_iload 1 := rfl
theorem c_X1_add_11 : z_nop k_X1_add 11 = o_iast := rfl
theorem c_X1_add_12 : z_nop k_X1_add 12 = o_aload 0 := rfl
theorem c_X1_add_13 : z_nop k_X1_add 13 = o_getr 2 (fun w i => (21, w, 0)) := rfl
theorem c_X1_add_14 : z_nop k_X1_add 14 = o_iload 5 := rfl
theorem c_X1_add_15 : z_nop k_X1_add 15 = o_ic 1 := rfl
theorem c_X1_add_16 : z_nop k_X1_add 16 = o_bin (fun x y => x + y) := rfl
theorem c_X1_add_17 : z_nop k_X1_add 17 = o_iload 2 := rfl
theorem c_X1_add_18 : z_nop k_X1_add 18 = o_iast := rfl
theorem c_X1_add_19 : z_nop k_X1_add 19 = o_aload 0 := rfl
theorem c_X1_add_20 : z_nop k_X1_add 20 = o_getr 2 (fun w i => (21, w, 0)) := rfl
theorem c_X1_add_21 : z_nop k_X1_add 21 = o_iload 5 := rfl
theorem c_X1_add_22 : z_nop k_X1_add 22 = o_ic 2 := rfl
theorem c_X1_add_23 : z_nop k_X1_add 23 = o_bin (fun x y => x + y) := rfl
theorem c_X1_add_24 : z_nop k_X1_add 24 = o_iload 3 := rfl
theorem c_X1_add_25 : z_nop k_X1_add 25 = o_iast := rfl
theorem c_X1_add_26 : z_nop k_X1_add 26 = o_aload 0 := rfl
theorem c_X1_add_27 : z_nop k_X1_add 27 = o_getr 2 (fun w i => (21, w, 0)) := rfl
theorem c_X1_add_28 : z_nop k_X1_add 28 = o_iload 5 := rfl
theorem c_X1_add_29 : z_nop k_X1_add 29 = o_ic 3 := rfl
theorem c_X1_add_30 : z_nop k_X1_add 30 = o_bin (fun x y => x + y) := rfl
theorem c_X1_add_31 : z_nop k_X1_add 31 = o_iload 4 := rfl
theorem c_X1_add_32 : z_nop k_X1_add 32 = o_iast := rfl
theorem c_X1_add_33 : z_nop k_X1_add 33 = o_aload 0 := rfl
theorem c_X1_add_34 : z_nop k_X1_add 34 = o_dup := rfl
theorem c_X1_add_35 : z_nop k_X1_add 35 = o_get 2 1 := rfl
theorem c_X1_add_36 : z_nop k_X1_add 36 = o_ic 1 := rfl
theorem c_X1_add_37 : z_nop k_X1_add 37 = o_bin (fun x y => x + y) := rfl
theorem c_X1_add_38 : z_nop k_X1_add 38 = o_put 2 1 := rfl
theorem c_X1_add_39 : z_nop k_X1_add 39 = o_ret := rfl

def m_jAdd (M : zMem) (w : Nat) (t r k n : Int32) : zMem :=
  let a := r_floorMod (M.1 2 w 0 1) 60 * 4
  z_up (z_up (z_up (z_up (z_up M 21 w 0 a.toNatClampNeg t) 21 w 0 (a + 1).toNatClampNeg r) 21 w 0 (a + 2).toNatClampNeg k) 21 w 0 (a + 3).toNatClampNeg n) 2 w 0 1 (M.1 2 w 0 1 + 1)
theorem e_X1_tells {h : Nat} {a0 : zId} {a1 : Int32} {a2 : Int32} {M : zMem} {K : zK} (ha0 : (a0.1 == 99) = false) (q : z_run (z_nop k_X1_tells) (z_call h) K 0 [.inr (.inr a0), .inl a1, .inl a2] [] M) : z_call (h + 1) 13 [.inr (.inr a0), .inl a1, .inl a2] M K := ⟨by simp only [List.all_cons, List.all_nil, z_isU, ha0]; rfl, q⟩
theorem c_X1_tells_0 : z_nop k_X1_tells 0 = o_iload 1 := rfl
theorem c_X1_tells_1 : z_nop k_X1_tells 1 = o_if (fun x => x < 0) 14 := rfl
theorem c_X1_tells_2 : z_nop k_X1_tells 2 = o_iload 1 := rfl
theorem c_X1_tells_3 : z_nop k_X1_tells 3 = o_ic 60 := rfl
theorem c_X1_tells_4 : z_nop k_X1_tells 4 = o_icmp (fun x y => x ≥ y) 14 := rfl
theorem c_X1_tells_5 : z_nop k_X1_tells 5 = o_iload 1 := rfl
theorem c_X1_tells_6 : z_nop k_X1_tells 6 = o_aload 0 := rfl
theorem c_X1_tells_7 : z_nop k_X1_tells 7 = o_get 2 1 := rfl
theorem c_X1_tells_8 : z_nop k_X1_tells 8 = o_icmp (fun x y => x ≥ y) 14 := rfl
theorem c_X1_tells_9 : z_nop k_X1_tells 9 = o_iload 2 := rfl
theorem c_X1_tells_10 : z_nop k_X1_tells 10 = o_if (fun x => x < 0) 14 := rfl
theorem c_X1_tells_11 : z_nop k_X1_tells 11 = o_iload 2 := rfl
theorem c_X1_tells_12 : z_nop k_X1_tells 12 = o_ic 4 := rfl
theorem c_X1_tells_13 : z_nop k_X1_tells 13 = o_icmp (fun x y => x < y) 16 := rfl
theorem c_X1_tells_14 : z_nop k_X1_tells 14 = o_ic (-1) := rfl
theorem c_X1_tells_15 : z_nop k_X1_tells 15 = o_iret := rfl
theorem c_X1_tells_16 : z_nop k_X1_tells 16 = o_aload 0 := rfl
theorem c_X1_tells_17 : z_nop k_X1_tells 17 = o_getr 2 (fun w i => (21, w, 0)) := rfl
theorem c_X1_tells_18 : z_nop k_X1_tells 18 = o_aload 0 := rfl
theorem c_X1_tells_19 : z_nop k_X1_tells 19 = o_get 2 1 := rfl
theorem c_X1_tells_20 : z_nop k_X1_tells 20 = o_ic 1 := rfl
theorem c_X1_tells_21 : z_nop k_X1_tells 21 = o_bin (fun x y => x - y) := rfl
theorem c_X1_tells_22 : z_nop k_X1_tells 22 = o_iload 1 := rfl
theorem c_X1_tells_23 : z_nop k_X1_tells 23 = o_bin (fun x y => x - y) := rfl
theorem c_X1_tells_24 : z_nop k_X1_tells 24 = o_ic 60 := rfl
theorem c_X1_tells_25 : z_nop k_X1_tells 25 = o_call 275 2 := rfl
theorem c_X1_tells_26 : z_nop k_X1_tells 26 = o_ic 4 := rfl
theorem c_X1_tells_27 : z_nop k_X1_tells 27 = o_bin (fun x y => x * y) := rfl
theorem c_X1_tells_28 : z_nop k_X1_tells 28 = o_iload 2 := rfl
theorem c_X1_tells_29 : z_nop k_X1_tells 29 = o_bin (fun x y => x + y) := rfl
theorem c_X1_tells_30 : z_nop k_X1_tells 30 = o_iald := rfl
theorem c_X1_tells_31 : z_nop k_X1_tells 31 = o_iret := rfl

def r_jTells (M : zMem) (w : Nat) (i k : Int32) : Int32 :=
  if i < 0 ∨ i ≥ 60 ∨ i ≥ M.1 2 w 0 1 ∨ k < 0 ∨ ¬ k < 4 then -1 else M.1 21 w 0 (r_floorMod (M.1 2 w 0 1 - 1 - i) 60 * 4 + k).toNatClampNeg
theorem e_X1_copyFrom {h : Nat} {a0 : zId} {a1 : zId} {M : zMem} {K : zK} (ha0 : (a0.1 == 99) = false) (ha1 : (a1.1 == 99) = false) (q : z_run (z_nop k_X1_copyFrom) (z_call h) K 0 [.inr (.inr a0), .inr (.inr a1)] [] M) : z_call (h + 1) 14 [.inr (.inr a0), .inr (.inr a1)] M K := ⟨by simp only [List.all_cons, List.all_nil, z_isU, ha0, ha1]; rfl, q⟩
theorem c_X1_copyFrom_0 : z_nop k_X1_copyFrom 0 = o_aload 0 := rfl
theorem c_X1_copyFrom_1 : z_nop k_X1_copyFrom 1 = o_aload 1 := rfl
theorem c_X1_copyFrom_2 : z_nop k_X1_copyFrom 2 = o_get 2 1 := rfl
theorem c_X1_copyFrom_3 : z_nop k_X1_copyFrom 3 = o_put 2 1 := rfl
theorem c_X1_copyFrom_4 : z_nop k_X1_copyFrom 4 = o_aload 1 := rfl
theorem c_X1_copyFrom_5 : z_nop k_X1_copyFrom 5 = o_getr 2 (fun w i => (21, w, 0)) := rfl
theorem c_X1_copyFrom_6 : z_nop k_X1_copyFrom 6 = o_ic 0 := rfl
theorem c_X1_copyFrom_7 : z_nop k_X1_copyFrom 7 = o_aload 0 := rfl
theorem c_X1_copyFrom_8 : z_nop k_X1_copyFrom 8 = o_getr 2 (fun w i => (21, w, 0)) := rfl
theorem c_X1_copyFrom_9 : z_nop k_X1_copyFrom 9 = o_ic 0 := rfl
theorem c_X1_copyFrom_10 : z_nop k_X1_copyFrom 10 = o_ic 240 := rfl
theorem c_X1_copyFrom_11 : z_nop k_X1_copyFrom 11 = o_copy 21 240 := rfl
theorem c_X1_copyFrom_12 : z_nop k_X1_copyFrom 12 = o_ret := rfl

def m_jCopy (M : zMem) (w w2 : Nat) : zMem := z_cp (z_up M 2 w 0 1 (M.1 2 w2 0 1)) 21 w 0 (fun j => if j < 240 then M.1 21 w2 0 j else M.1 21 w 0 j)
set_option maxRecDepth 100000 in
theorem s_jCopy {h w w2 : Nat} {M : zMem} {K : zK} (q : K none (m_jCopy M w w2)) : z_call (h + 1) 14 [.inr (.inr (2, w, 0)), .inr (.inr (2, w2, 0))] M K := by
  refine e_X1_copyFrom rfl rfl ?_
  refine z_wp_run (cut := []) 15 _ _ _ _ ?_
  repeat' (first | (simp only [z_wp, Bool.false_eq_true, ↓reduceIte, z_e10, z_e01, eq_self, Int32.reduceLT, Int32.reduceLE, Int32.reduceGT, Int32.reduceGE, z_in, cond_true, cond_false, Nat.reduceAdd, Nat.reduceBEq, z_nth, z_set, z_clr, z_st1, z_st2, z_isL, z_opt, z_pop, z_cats, z_cat, c_X1_copyFrom_0, c_X1_copyFrom_1, c_X1_copyFrom_2, c_X1_copyFrom_3, c_X1_copyFrom_4, c_X1_copyFrom_5, c_X1_copyFrom_6, c_X1_copyFrom_7, c_X1_copyFrom_8, c_X1_copyFrom_9, c_X1_copyFrom_10, c_X1_copyFrom_11, c_X1_copyFrom_12, o_aload, o_copy, o_get, o_getr, o_ic, o_put, o_ret, z_cv0, z_cl0, z_cv1, z_cl1, z_cv2, z_cl2, z_cv3, z_cl3, z_cv4, z_cl4, z_cv5, z_cl5, z_cv6, z_cl6, z_cv7, z_cl7, z_cv8, z_cl8, z_cv9, z_cl9, z_cv10, z_cl10, z_cv11, z_cl11, z_cv12, z_cl12, z_cv13, z_cl13, z_len, z_elt, z_isI, z_isJ, Nat.reduceEqDiff, Nat.reduceLeDiff, Nat.reduceLT, Nat.reduceSub, Nat.reduceMul, not_false_eq_true, not_true_eq_false, true_and, and_true, true_or, or_true, false_or, or_false, true_implies, false_implies, implies_true, forall_const, and_self, ne_eq, Classical.not_not, z_up1, z_up2, z_cp1, z_cp2, z_upL1, z_upL2, if_true, if_false, and_false, false_and]) | (with_reducible refine And.intro ?_ ?_) | (with_reducible intro _))
  all_goals (first | (with_reducible exact q) | ((try simp only [ge_iff_le, gt_iff_lt, ← Int32.not_lt, Classical.not_not] at *); (first | (with_reducible rfl) | rfl | (with_reducible exact z_vi_24 (by assumption) (by assumption)) | (with_reducible exact z_vi_4 (by assumption) (by assumption)) | (with_reducible exact z_vi_512 (by assumption) (by assumption)) | (with_reducible exact z_vi_14 (by assumption) (by assumption)) | (with_reducible exact z_vi_8 (by assumption) (by assumption)) | (with_reducible exact z_vinN (by assumption) (by assumption) (by decide)) | (with_reducible exact z_vin1 (by assumption) (by assumption) (by decide)) | ((try simp only [m_jCopy] at q); (try simp only [ge_iff_le, gt_iff_lt, ← Int32.not_lt, Classical.not_not] at q); (try simp only [*, if_true, if_false, ite_self, true_or, or_true, false_or, or_false, true_and, and_true, false_and, and_false, not_true_eq_false, not_false_eq_true, cond_true, cond_false, decide_true, decide_false, Bool.true_and, Bool.and_true, Bool.false_and, Bool.and_false, Bool.true_or, Bool.or_true, Bool.false_or, Bool.or_false, Bool.not_true, Bool.not_false, ne_eq, Nat.reduceEqDiff] at q); with_reducible exact q))) | (simp_all [m_jCopy]; done))
theorem e_X3_isFree {h : Nat} {a0 : zId} {M : zMem} {K : zK} (ha0 : (a0.1 == 99) = false) (q : z_run (z_nop k_X3_isFree) (z_call h) K 0 [.inr (.inr a0)] [] M) : z_call (h + 1) 28 [.inr (.inr a0)] M K := ⟨by simp only [List.all_cons, List.all_nil, z_isU, ha0]; rfl, q⟩
theorem c_X3_isFree_0 : z_nop k_X3_isFree 0 = o_aload 0 := rfl
theorem c_X3_isFree_1 : z_nop k_X3_isFree 1 = o_get 4 0 := rfl
theorem c_X3_isFree_2 : z_nop k_X3_isFree 2 = o_if (fun x => x = 0) 8 := rfl
theorem c_X3_isFree_3 : z_nop k_X3_isFree 3 = o_aload 0 := rfl
theorem c_X3_isFree_4 : z_nop k_X3_isFree 4 = o_get 4 1 := rfl
theorem c_X3_isFree_5 : z_nop k_X3_isFree 5 = o_if (fun x => x ≠ 0) 8 := rfl
theorem c_X3_isFree_6 : z_nop k_X3_isFree 6 = o_ic 1 := rfl
theorem c_X3_isFree_7 : z_nop k_X3_isFree 7 = o_goto 9 := rfl
theorem c_X3_isFree_8 : z_nop k_X3_isFree 8 = o_ic 0 := rfl
theorem c_X3_isFree_9 : z_nop k_X3_isFree 9 = o_zret := rfl

def r_isFree (M : zMem) (w r : Nat) : Int32 := if ¬ M.1 4 w r 0 = 0 ∧ M.1 4 w r 1 = 0 then 1 else 0
set_option maxRecDepth 100000 in
theorem s_isFree {h w r : Nat} {M : zMem} {K : zK} (q : K (some (.inl (r_isFree M w r))) M) : z_call (h + 1) 28 [.inr (.inr (4, w, r))] M K := by
  refine e_X3_isFree rfl ?_
  refine z_wp_run (cut := []) 12 _ _ _ _ ?_
  repeat' (first | (simp only [z_wp, Bool.false_eq_true, ↓reduceIte, z_e10, z_e01, eq_self, Int32.reduceLT, Int32.reduceLE, Int32.reduceGT, Int32.reduceGE, z_in, cond_true, cond_false, Nat.reduceAdd, Nat.reduceBEq, z_nth, z_set, z_clr, z_st1, z_st2, z_isL, z_opt, z_pop, z_cats, z_cat, c_X3_isFree_0, c_X3_isFree_1, c_X3_isFree_2, c_X3_isFree_3, c_X3_isFree_4, c_X3_isFree_5, c_X3_isFree_6, c_X3_isFree_7, c_X3_isFree_8, c_X3_isFree_9, o_aload, o_get, o_goto, o_ic, o_if, o_zret, z_cv0, z_cl0, z_cv1, z_cl1, z_cv2, z_cl2, z_cv3, z_cl3, z_cv4, z_cl4, z_cv5, z_cl5, z_cv6, z_cl6, z_cv7, z_cl7, z_cv8, z_cl8, z_cv9, z_cl9, z_cv10, z_cl10, z_cv11, z_cl11, z_cv12, z_cl12, z_cv13, z_cl13, z_len, z_elt, z_isI, z_isJ, Nat.reduceEqDiff, Nat.reduceLeDiff, Nat.reduceLT, Nat.reduceSub, Nat.reduceMul, not_false_eq_true, not_true_eq_false, true_and, and_true, true_or, or_true, false_or, or_false, true_implies, false_implies, implies_true, forall_const, and_self, ne_eq, Classical.not_not, z_up1, z_up2, z_cp1, z_cp2, z_upL1, z_upL2, if_true, if_false, and_false, false_and]) | (with_reducible refine And.intro ?_ ?_) | (with_reducible intro _))
  all_goals (first | (with_reducible exact q) | ((try simp only [ge_iff_le, gt_iff_lt, ← Int32.not_lt, Classical.not_not] at *); (first | (with_reducible rfl) | rfl | (with_reducible exact z_vi_24 (by assumption) (by assumption)) | (with_reducible exact z_vi_4 (by assumption) (by assumption)) | (with_reducible exact z_vi_512 (by assumption) (by assumption)) | (with_reducible exact z_vi_14 (by assumption) (by assumption)) | (with_reducible exact z_vi_8 (by assumption) (by assumption)) | (with_reducible exact z_vinN (by assumption) (by assumption) (by decide)) | (with_reducible exact z_vin1 (by assumption) (by assumption) (by decide)) | ((try simp only [r_isFree] at q); (try simp only [ge_iff_le, gt_iff_lt, ← Int32.not_lt, Classical.not_not] at q); (try simp only [*, if_true, if_false, ite_self, true_or, or_true, false_or, or_false, true_and, and_true, false_and, and_false, not_true_eq_false, not_false_eq_true, cond_true, cond_false, decide_true, decide_false, Bool.true_and, Bool.and_true, Bool.false_and, Bool.and_false, Bool.true_or, Bool.or_true, Bool.false_or, Bool.or_false, Bool.not_true, Bool.not_false, ne_eq, Nat.reduceEqDiff] at q); with_reducible exact q))) | (simp_all [r_isFree]; done))
theorem e_X3_hasSlots {h : Nat} {a0 : zId} {M : zMem} {K : zK} (ha0 : (a0.1 == 99) = false) (q : z_run (z_nop k_X3_hasSlots) (z_call h) K 0 [.inr (.inr a0)] [] M) : z_call (h + 1) 29 [.inr (.inr a0)] M K := ⟨by simp only [List.all_cons, List.all_nil, z_isU, ha0]; rfl, q⟩
theorem c_X3_hasSlots_0 : z_nop k_X3_hasSlots 0 = o_aload 0 := rfl
theorem c_X3_hasSlots_1 : z_nop k_X3_hasSlots 1 = o_get 4 8 := rfl
theorem c_X3_hasSlots_2 : z_nop k_X3_hasSlots 2 = o_if (fun x => x = 0) 7 := rfl
theorem c_X3_hasSlots_3 : z_nop k_X3_hasSlots 3 = o_aload 0 := rfl
theorem c_X3_hasSlots_4 : z_nop k_X3_hasSlots 4 = o_get 4 8 := rfl
theorem c_X3_hasSlots_5 : z_nop k_X3_hasSlots 5 = o_ic 2 := rfl
theorem c_X3_hasSlots_6 : z_nop k_X3_hasSlots 6 = o_icmp (fun x y => x ≠ y) 9 := rfl
theorem c_X3_hasSlots_7 : z_nop k_X3_hasSlots 7 = o_ic 1 := rfl
theorem c_X3_hasSlots_8 : z_nop k_X3_hasSlots 8 = o_goto 10 := rfl
theorem c_X3_hasSlots_9 : z_nop k_X3_hasSlots 9 = o_ic 0 := rfl
theorem c_X3_hasSlots_10 : z_nop k_X3_hasSlots 10 = o_zret := rfl

def r_hasSlots (M : zMem) (w r : Nat) : Int32 := if M.1 4 w r 8 = 0 ∨ M.1 4 w r 8 = 2 then 1 else 0
set_option maxRecDepth 100000 in
theorem s_hasSlots {h w r : Nat} {M : zMem} {K : zK} (q : K (some (.inl (r_hasSlots M w r))) M) : z_call (h + 1) 29 [.inr (.inr (4, w, r))] M K := by
  refine e_X3_hasSlots rfl ?_
  refine z_wp_run (cut := []) 13 _ _ _ _ ?_
  repeat' (first | (simp only [z_wp, Bool.false_eq_true, ↓reduceIte, z_e10, z_e01, eq_self, Int32.reduceLT, Int32.reduceLE, Int32.reduceGT, Int32.reduceGE, z_in, cond_true, cond_false, Nat.reduceAdd, Nat.reduceBEq, z_nth, z_set, z_clr, z_st1, z_st2, z_isL, z_opt, z_pop, z_cats, z_cat, c_X3_hasSlots_0, c_X3_hasSlots_1, c_X3_hasSlots_2, c_X3_hasSlots_3, c_X3_hasSlots_4, c_X3_hasSlots_5, c_X3_hasSlots_6, c_X3_hasSlots_7, c_X3_hasSlots_8, c_X3_hasSlots_9, c_X3_hasSlots_10, o_aload, o_get, o_goto, o_ic, o_icmp, o_if, o_zret, z_cv0, z_cl0, z_cv1, z_cl1, z_cv2, z_cl2, z_cv3, z_cl3, z_cv4, z_cl4, z_cv5, z_cl5, z_cv6, z_cl6, z_cv7, z_cl7, z_cv8, z_cl8, z_cv9, z_cl9, z_cv10, z_cl10, z_cv11, z_cl11, z_cv12, z_cl12, z_cv13, z_cl13, z_len, z_elt, z_isI, z_isJ, Nat.reduceEqDiff, Nat.reduceLeDiff, Nat.reduceLT, Nat.reduceSub, Nat.reduceMul, not_false_eq_true, not_true_eq_false, true_and, and_true, true_or, or_true, false_or, or_false, true_implies, false_implies, implies_true, forall_const, and_self, ne_eq, Classical.not_not, z_up1, z_up2, z_cp1, z_cp2, z_upL1, z_upL2, if_true, if_false, and_false, false_and]) | (with_reducible refine And.intro ?_ ?_) | (with_reducible intro _))
  all_goals (first | (with_reducible exact q) | ((try simp only [ge_iff_le, gt_iff_lt, ← Int32.not_lt, Classical.not_not] at *); (first | (with_reducible rfl) | rfl | (with_reducible exact z_vi_24 (by assumption) (by assumption)) | (with_reducible exact z_vi_4 (by assumption) (by assumption)) | (with_reducible exact z_vi_512 (by assumption) (by assumption)) | (with_reducible exact z_vi_14 (by assumption) (by assumption)) | (with_reducible exact z_vi_8 (by assumption) (by assumption)) | (with_reducible exact z_vinN (by assumption) (by assumption) (by decide)) | (with_reducible exact z_vin1 (by assumption) (by assumption) (by decide)) | ((try simp only [r_hasSlots] at q); (try simp only [ge_iff_le, gt_iff_lt, ← Int32.not_lt, Classical.not_not] at q); (try simp only [*, if_true, if_false, ite_self, true_or, or_true, false_or, or_false, true_and, and_true, false_and, and_false, not_true_eq_false, not_false_eq_true, cond_true, cond_false, decide_true, decide_false, Bool.true_and, Bool.and_true, Bool.false_and, Bool.and_false, Bool.true_or, Bool.or_true, Bool.false_or, Bool.or_false, Bool.not_true, Bool.not_false, ne_eq, Nat.reduceEqDiff] at q); with_reducible exact q))) | (simp_all [r_hasSlots]; done))
theorem e_X3_qByQf {h : Nat} {a0 : zId} {M : zMem} {K : zK} (ha0 : (a0.1 == 99) = false) (q : z_run (z_nop k_X3_qByQf) (z_call h) K 0 [.inr (.inr a0)] [] M) : z_call (h + 1) 30 [.inr (.inr a0)] M K := ⟨by simp only [List.all_cons, List.all_nil, z_isU, ha0]; rfl, q⟩
theorem c_X3_qByQf_0 : z_nop k_X3_qByQf 0 = o_aload 0 := rfl
theorem c_X3_qByQf_1 : z_nop k_X3_qByQf 1 = o_get 4 2 := rfl
theorem c_X3_qByQf_2 : z_nop k_X3_qByQf 2 = o_ic 4 := rfl
theorem c_X3_qByQf_3 : z_nop k_X3_qByQf 3 = o_bin (fun x y => x + y) := rfl
theorem c_X3_qByQf_4 : z_nop k_X3_qByQf 4 = o_ic 8 := rfl
theorem c_X3_qByQf_5 : z_nop k_X3_qByQf 5 = o_divi (fun x y => x / y) := rfl
theorem c_X3_qByQf_6 : z_nop k_X3_qByQf 6 = o_iret := rfl

def r_qByQf (M : zMem) (w r : Nat) : Int32 := (M.1 4 w r 2 + 4) / 8
set_option maxRecDepth 100000 in
theorem s_qByQf {h w r : Nat} {M : zMem} {K : zK} (q : K (some (.inl (r_qByQf M w r))) M) : z_call (h + 1) 30 [.inr (.inr (4, w, r))] M K := by
  refine e_X3_qByQf rfl ?_
  refine z_wp_run (cut := []) 9 _ _ _ _ ?_
  repeat' (first | (simp only [z_wp, Bool.false_eq_true, ↓reduceIte, z_e10, z_e01, eq_self, Int32.reduceLT, Int32.reduceLE, Int32.reduceGT, Int32.reduceGE, z_in, cond_true, cond_false, Nat.reduceAdd, Nat.reduceBEq, z_nth, z_set, z_clr, z_st1, z_st2, z_isL, z_opt, z_pop, z_cats, z_cat, c_X3_qByQf_0, c_X3_qByQf_1, c_X3_qByQf_2, c_X3_qByQf_3, c_X3_qByQf_4, c_X3_qByQf_5, c_X3_qByQf_6, o_aload, o_bin, o_divi, o_get, o_ic, o_iret, z_cv0, z_cl0, z_cv1, z_cl1, z_cv2, z_cl2, z_cv3, z_cl3, z_cv4, z_cl4, z_cv5, z_cl5, z_cv6, z_cl6, z_cv7, z_cl7, z_cv8, z_cl8, z_cv9, z_cl9, z_cv10, z_cl10, z_cv11, z_cl11, z_cv12, z_cl12, z_cv13, z_cl13, z_len, z_elt, z_isI, z_isJ, Nat.reduceEqDiff, Nat.reduceLeDiff, Nat.reduceLT, Nat.reduceSub, Nat.reduceMul, not_false_eq_true, not_true_eq_false, true_and, and_true, true_or, or_true, false_or, or_false, true_implies, false_implies, implies_true, forall_const, and_self, ne_eq, Classical.not_not, z_up1, z_up2, z_cp1, z_cp2, z_upL1, z_upL2, if_true, if_false, and_false, false_and]) | (with_reducible refine And.intro ?_ ?_) | (with_reducible intro _))
  all_goals (first | (with_reducible exact q) | ((try simp only [ge_iff_le, gt_iff_lt, ← Int32.not_lt, Classical.not_not] at *); (first | (with_reducible rfl) | rfl | (with_reducible exact z_vi_24 (by assumption) (by assumption)) | (with_reducible exact z_vi_4 (by assumption) (by assumption)) | (with_reducible exact z_vi_512 (by assumption) (by assumption)) | (with_reducible exact z_vi_14 (by assumption) (by assumption)) | (with_reducible exact z_vi_8 (by assumption) (by assumption)) | (with_reducible exact z_vinN (by assumption) (by assumption) (by decide)) | (with_reducible exact z_vin1 (by assumption) (by assumption) (by decide)) | ((try simp only [r_qByQf] at q); (try simp only [ge_iff_le, gt_iff_lt, ← Int32.not_lt, Classical.not_not] at q); (try simp only [*, if_true, if_false, ite_self, true_or, or_true, false_or, or_false, true_and, and_true, false_and, and_false, not_true_eq_false, not_false_eq_true, cond_true, cond_false, decide_true, decide_false, Bool.true_and, Bool.and_true, Bool.false_and, Bool.and_false, Bool.true_or, Bool.or_true, Bool.false_or, Bool.or_false, Bool.not_true, Bool.not_false, ne_eq, Nat.reduceEqDiff] at q); with_reducible exact q))) | (simp_all [r_qByQf]; done))
theorem e_X3_tell {h : Nat} {a0 : zId} {a1 : Int32} {a2 : Int32} {M : zMem} {K : zK} (ha0 : (a0.1 == 99) = false) (q : z_run (z_nop k_X3_tell) (z_call h) K 0 [.inr (.inr a0), .inl a1, .inl a2] [] M) : z_call (h + 1) 31 [.inr (.inr a0), .inl a1, .inl a2] M K := ⟨by simp only [List.all_cons, List.all_nil, z_isU, ha0]; rfl, q⟩
theorem c_X3_tell_0 : z_nop k_X3_tell 0 = o_iload 1 := rfl
theorem c_X3_tell_1 : z_nop k_X3_tell 1 = o_if (fun x => x ≠ 0) 11 := rfl
theorem c_X3_tell_2 : z_nop k_X3_tell 2 = o_iload 2 := rfl
theorem c_X3_tell_3 : z_nop k_X3_tell 3 = o_if (fun x => x < 0) 11 := rfl
theorem c_X3_tell_4 : z_nop k_X3_tell 4 = o_iload 2 := rfl
theorem c_X3_tell_5 : z_nop k_X3_tell 5 = o_ic 64 := rfl
theorem c_X3_tell_6 : z_nop k_X3_tell 6 = o_icmp (fun x y => x > y) 11 := rfl
theorem c_X3_tell_7 : z_nop k_X3_tell 7 = o_aload 0 := rfl
theorem c_X3_tell_8 : z_nop k_X3_tell 8 = o_iload 2 := rfl
theorem c_X3_tell_9 : z_nop k_X3_tell 9 = o_put 4 2 := rfl
theorem c_X3_tell_10 : z_nop k_X3_tell 10 = o_goto 38 := rfl
theorem c_X3_tell_11 : z_nop k_X3_tell 11 = o_iload 1 := rfl
theorem c_X3_tell_12 : z_nop k_X3_tell 12 = o_ic 1 := rfl
theorem c_X3_tell_13 : z_nop k_X3_tell 13 = o_icmp (fun x y => x ≠ y) 24 := rfl
theorem c_X3_tell_14 : z_nop k_X3_tell 14 = o_iload 2 := rfl
theorem c_X3_tell_15 : z_nop k_X3_tell 15 = o_ic 1 := rfl
theorem c_X3_tell_16 : z_nop k_X3_tell 16 = o_icmp (fun x y => x < y) 24 := rfl
theorem c_X3_tell_17 : z_nop k_X3_tell 17 = o_iload 2 := rfl
theorem c_X3_tell_18 : z_nop k_X3_tell 18 = o_ic 8 := rfl
theorem c_X3_tell_19 : z_nop k_X3_tell 19 = o_icmp (fun x y => x > y) 24 := rfl
theorem c_X3_tell_20 : z_nop k_X3_tell 20 = o_aload 0 := rfl
theorem c_X3_tell_21 : z_nop k_X3_tell 21 = o_iload 2 := rfl
theorem c_X3_tell_22 : z_nop k_X3_tell 22 = o_put 4 3 := rfl
theorem c_X3_tell_23 : z_nop k_X3_tell 23 = o_goto 38 := rfl
theorem c_X3_tell_24 : z_nop k_X3_tell 24 = o_iload 1 := rfl
theorem c_X3_tell_25 : z_nop k_X3_tell 25 = o_ic 2 := rfl
theorem c_X3_tell_26 : z_nop k_X3_tell 26 = o_icmp (fun x y => x ≠ y) 36 := rfl
theorem c_X3_tell_27 : z_nop k_X3_tell 27 = o_iload 2 := rfl
theorem c_X3_tell_28 : z_nop k_X3_tell 28 = o_if (fun x => x < 0) 36 := rfl
theorem c_X3_tell_29 : z_nop k_X3_tell 29 = o_iload 2 := rfl
theorem c_X3_tell_30 : z_nop k_X3_tell 30 = o_ic 4 := rfl
theorem c_X3_tell_31 : z_nop k_X3_tell 31 = o_icmp (fun x y => x ≥ y) 36 := rfl
theorem c_X3_tell_32 : z_nop k_X3_tell 32 = o_aload 0 := rfl
theorem c_X3_tell_33 : z_nop k_X3_tell 33 = o_iload 2 := rfl
theorem c_X3_tell_34 : z_nop k_X3_tell 34 = o_put 4 4 := rfl
theorem c_X3_tell_35 : z_nop k_X3_tell 35 = o_goto 38 := rfl
theorem c_X3_tell_36 : z_nop k_X3_tell 36 = o_ic 0 := rfl
theorem c_X3_tell_37 : z_nop k_X3_tell 37 = o_zret := rfl
theorem c_X3_tell_38 : z_nop k_X3_tell 38 = o_ic 1 := rfl
theorem c_X3_tell_39 : z_nop k_X3_tell 39 = o_zret := rfl

def r_tell (k v : Int32) : Int32 := if (k = 0 ∧ ¬ v < 0 ∧ ¬ v > 64) ∨ (k = 1 ∧ ¬ v < 1 ∧ ¬ v > 8) ∨ (k = 2 ∧ ¬ v < 0 ∧ ¬ v ≥ 4) then 1 else 0
def m_tell (M : zMem) (w r : Nat) (k v : Int32) : zMem := if k = 0 ∧ ¬ v < 0 ∧ ¬ v > 64 then z_up M 4 w r 2 v else if k = 1 ∧ ¬ v < 1 ∧ ¬ v > 8 then z_up M 4 w r 3 v else if k = 2 ∧ ¬ v < 0 ∧ ¬ v ≥ 4 then z_up M 4 w r 4 v else M
set_option maxRecDepth 100000 in
theorem s_tell {h w r : Nat} {M : zMem} {k v : Int32} {K : zK} (q : K (some (.inl (r_tell k v))) (m_tell M w r k v)) : z_call (h + 1) 31 [.inr (.inr (4, w, r)), .inl k, .inl v] M K := by
  refine e_X3_tell rfl ?_
  refine z_wp_run (cut := []) 42 _ _ _ _ ?_
  repeat' (first | (simp only [z_wp, Bool.false_eq_true, ↓reduceIte, z_e10, z_e01, eq_self, Int32.reduceLT, Int32.reduceLE, Int32.reduceGT, Int32.reduceGE, z_in, cond_true, cond_false, Nat.reduceAdd, Nat.reduceBEq, z_nth, z_set, z_clr, z_st1, z_st2, z_isL, z_opt, z_pop, z_cats, z_cat, c_X3_tell_0, c_X3_tell_1, c_X3_tell_2, c_X3_tell_3, c_X3_tell_4, c_X3_tell_5, c_X3_tell_6, c_X3_tell_7, c_X3_tell_8, c_X3_tell_9, c_X3_tell_10, c_X3_tell_11, c_X3_tell_12, c_X3_tell_13, c_X3_tell_14, c_X3_tell_15, c_X3_tell_16, c_X3_tell_17, c_X3_tell_18, c_X3_tell_19, c_X3_tell_20, c_X3_tell_21, c_X3_tell_22, c_X3_tell_23, c_X3_tell_24, c_X3_tell_25, c_X3_tell_26, c_X3_tell_27, c_X3_tell_28, c_X3_tell_29, c_X3_tell_30, c_X3_tell_31, c_X3_tell_32, c_X3_tell_33, c_X3_tell_34, c_X3_tell_35, c_X3_tell_36, c_X3_tell_37, c_X3_tell_38, c_X3_tell_39, o_aload, o_goto, o_ic, o_icmp, o_if, o_iload, o_put, o_zret, z_cv0, z_cl0, z_cv1, z_cl1, z_cv2, z_cl2, z_cv3, z_cl3, z_cv4, z_cl4, z_cv5, z_cl5, z_cv6, z_cl6, z_cv7, z_cl7, z_cv8, z_cl8, z_cv9, z_cl9, z_cv10, z_cl10, z_cv11, z_cl11, z_cv12, z_cl12, z_cv13, z_cl13, z_len, z_elt, z_isI, z_isJ, Nat.reduceEqDiff, Nat.reduceLeDiff, Nat.reduceLT, Nat.reduceSub, Nat.reduceMul, not_false_eq_true, not_true_eq_false, true_and, and_true, true_or, or_true, false_or, or_false, true_implies, false_implies, implies_true, forall_const, and_self, ne_eq, Classical.not_not, z_up1, z_up2, z_cp1, z_cp2, z_upL1, z_upL2, if_true, if_false, and_false, false_and]) | (with_reducible refine And.intro ?_ ?_) | (with_reducible intro _))
  all_goals (first | (with_reducible exact q) | ((try simp only [ge_iff_le, gt_iff_lt, ← Int32.not_lt, Classical.not_not] at *); (first | (with_reducible rfl) | rfl | (with_reducible exact z_vi_24 (by assumption) (by assumption)) | (with_reducible exact z_vi_4 (by assumption) (by assumption)) | (with_reducible exact z_vi_512 (by assumption) (by assumption)) | (with_reducible exact z_vi_14 (by assumption) (by assumption)) | (with_reducible exact z_vi_8 (by assumption) (by assumption)) | (with_reducible exact z_vinN (by assumption) (by assumption) (by decide)) | (with_reducible exact z_vin1 (by assumption) (by assumption) (by decide)) | ((try simp only [r_tell, m_tell] at q); (try simp only [ge_iff_le, gt_iff_lt, ← Int32.not_lt, Classical.not_not] at q); (try simp only [*, if_true, if_false, ite_self, true_or, or_true, false_or, or_false, true_and, and_true, false_and, and_false, not_true_eq_false, not_false_eq_true, cond_true, cond_false, decide_true, decide_false, Bool.true_and, Bool.and_true, Bool.false_and, Bool.and_false, Bool.true_or, Bool.or_true, Bool.false_or, Bool.or_false, Bool.not_true, Bool.not_false, ne_eq, Nat.reduceEqDiff] at q); with_reducible exact q))) | (simp_all [r_tell, m_tell]; done))
theorem e_X3_start {h : Nat} {a0 : zId} {a1 : Int32} {a2 : Int32} {a3 : Int32} {a4 : Int32} {M : zMem} {K : zK} (ha0 : (a0.1 == 99) = false) (q : z_run (z_nop k_X3_start) (z_call h) K 0 [.inr (.inr a0), .inl a1, .inl a2, .inl a3, .inl a4] [] M) : z_call (h + 1) 32 [.inr (.inr a0), .inl a1, .inl a2, .inl a3, .inl a4] M K := ⟨by simp only [List.all_cons, List.all_nil, z_isU, ha0]; rfl, q⟩
theorem c_X3_start_0 : z_nop k_X3_start 0 = o_aload 0 := rfl
theorem c_X3_start_1 : z_nop k_X3_start 1 = o_ic 1 := rfl
theorem c_X3_start_2 : z_nop k_X3_start 2 = o_putz 4 1 := rfl
theorem c_X3_start_3 : z_nop k_X3_start 3 = o_aload 0 := rfl
theorem c_X3_start_4 : z_nop k_X3_start 4 = o_iload 1 := rfl
theorem c_X3_start_5 : z_nop k_X3_start 5 = o_put 4 5 := rfl
theorem c_X3_start_6 : z_nop k_X3_start 6 = o_aload 0 := rfl
theorem c_X3_start_7 : z_nop k_X3_start 7 = o_iload 2 := rfl
theorem c_X3_start_8 : z_nop k_X3_start 8 = o_put 4 6 := rfl
theorem c_X3_start_9 : z_nop k_X3_start 9 = o_aload 0 := rfl
theorem c_X3_start_10 : z_nop k_X3_start 10 = o_iload 3 := rfl
theorem c_X3_start_11 : z_nop k_X3_start 11 = o_put 4 7 := rfl
theorem c_X3_start_12 : z_nop k_X3_start 12 = o_aload 0 := rfl
theorem c_X3_start_13 : z_nop k_X3_start 13 = o_iload 4 := rfl
theorem c_X3_start_14 : z_nop k_X3_start 14 = o_put 4 8 := rfl
theorem c_X3_start_15 : z_nop k_X3_start 15 = o_aload 0 := rfl
theorem c_X3_start_16 : z_nop k_X3_start 16 = o_ic 0 := rfl
theorem c_X3_start_17 : z_nop k_X3_start 17 = o_put 4 10 := rfl
theorem c_X3_start_18 : z_nop k_X3_start 18 = o_aload 0 := rfl
theorem c_X3_start_19 : z_nop k_X3_start 19 = o_ic 0 := rfl
theorem c_X3_start_20 : z_nop k_X3_start 20 = o_put 4 11 := rfl
theorem c_X3_start_21 : z_nop k_X3_start 21 = o_aload 0 := rfl
theorem c_X3_start_22 : z_nop k_X3_start 22 = o_getr 4 (fun w i => (8, w, 2 * i)) := rfl
theorem c_X3_start_23 : z_nop k_X3_start 23 = o_callv 8 87 1 := rfl
theorem c_X3_start_24 : z_nop k_X3_start 24 = o_aload 0 := rfl
theorem c_X3_start_25 : z_nop k_X3_start 25 = o_getr 4 (fun w i => (3, w, 3 * i + 1)) := rfl
theorem c_X3_start_26 : z_nop k_X3_start 26 = o_callv 3 19 1 := rfl
theorem c_X3_start_27 : z_nop k_X3_start 27 = o_ret := rfl

def m_rdStart (M : zMem) (w r : Nat) (a b c d : Int32) : zMem := m_pfxClear (m_tallyClear (z_up (z_up (z_up (z_up (z_up (z_up (z_up M 4 w r 1 1) 4 w r 5 a) 4 w r 6 b) 4 w r 7 c) 4 w r 8 d) 4 w r 10 0) 4 w r 11 0) w (2 * r)) w (3 * r + 1)
set_option maxRecDepth 100000 in
theorem s_rdStart {h w r : Nat} {M : zMem} {a b c d : Int32} {K : zK} (q : K none (m_rdStart M w r a b c d)) : z_call (h + 2) 32 [.inr (.inr (4, w, r)), .inl a, .inl b, .inl c, .inl d] M K := by
  refine e_X3_start rfl ?_
  refine z_wp_run (cut := [24, 27]) 30 _ _ _ _ ?_
  repeat' (first | (simp only [z_wp, Bool.false_eq_true, ↓reduceIte, z_e10, z_e01, eq_self, Int32.reduceLT, Int32.reduceLE, Int32.reduceGT, Int32.reduceGE, z_in, cond_true, cond_false, Nat.reduceAdd, Nat.reduceBEq, z_nth, z_set, z_clr, z_st1, z_st2, z_isL, z_opt, z_pop, z_cats, z_cat, c_X3_start_0, c_X3_start_1, c_X3_start_2, c_X3_start_3, c_X3_start_4, c_X3_start_5, c_X3_start_6, c_X3_start_7, c_X3_start_8, c_X3_start_9, c_X3_start_10, c_X3_start_11, c_X3_start_12, c_X3_start_13, c_X3_start_14, c_X3_start_15, c_X3_start_16, c_X3_start_17, c_X3_start_18, c_X3_start_19, c_X3_start_20, c_X3_start_21, c_X3_start_22, c_X3_start_23, c_X3_start_24, c_X3_start_25, c_X3_start_26, c_X3_start_27, o_aload, o_callv, o_getr, o_ic, o_iload, o_put, o_putz, o_ret, z_cv0, z_cl0, z_cv1, z_cl1, z_cv2, z_cl2, z_cv3, z_cl3, z_cv4, z_cl4, z_cv5, z_cl5, z_cv6, z_cl6, z_cv7, z_cl7, z_cv8, z_cl8, z_cv9, z_cl9, z_cv10, z_cl10, z_cv11, z_cl11, z_cv12, z_cl12, z_cv13, z_cl13, z_len, z_elt, z_isI, z_isJ, Nat.reduceEqDiff, Nat.reduceLeDiff, Nat.reduceLT, Nat.reduceSub, Nat.reduceMul, not_false_eq_true, not_true_eq_false, true_and, and_true, true_or, or_true, false_or, or_false, true_implies, false_implies, implies_true, forall_const, and_self, ne_eq, Classical.not_not, z_up1, z_up2, z_cp1, z_cp2, z_upL1, z_upL2, if_true, if_false, and_false, false_and]) | (refine s_tallyClear ?_) | (refine s_pfxClear ?_) | (with_reducible refine And.intro ?_ ?_) | (with_reducible intro _) | (with_reducible refine z_go (i := 24) (cut := [24, 27]) 30 ?_) | (with_reducible refine z_go (i := 27) (cut := [24, 27]) 30 ?_))
  all_goals (first | (with_reducible exact q) | ((try simp only [ge_iff_le, gt_iff_lt, ← Int32.not_lt, Classical.not_not] at *); (first | (with_reducible rfl) | rfl | (with_reducible exact z_vi_24 (by assumption) (by assumption)) | (with_reducible exact z_vi_4 (by assumption) (by assumption)) | (with_reducible exact z_vi_512 (by assumption) (by assumption)) | (with_reducible exact z_vi_14 (by assumption) (by assumption)) | (with_reducible exact z_vi_8 (by assumption) (by assumption)) | (with_reducible exact z_vinN (by assumption) (by assumption) (by decide)) | (with_reducible exact z_vin1 (by assumption) (by assumption) (by decide)) | ((try simp only [m_rdStart] at q); (try simp only [ge_iff_le, gt_iff_lt, ← Int32.not_lt, Classical.not_not] at q); (try simp only [*, if_true, if_false, ite_self, true_or, or_true, false_or, or_false, true_and, and_true, false_and, and_false, not_true_eq_false, not_false_eq_true, cond_true, cond_false, decide_true, decide_false, Bool.true_and, Bool.and_true, Bool.false_and, Bool.and_false, Bool.true_or, Bool.or_true, Bool.false_or, Bool.or_false, Bool.not_true, Bool.not_false, ne_eq, Nat.reduceEqDiff] at q); with_reducible exact q))) | (simp_all [m_rdStart]; done))
theorem e_X3_rest {h : Nat} {a0 : zId} {M : zMem} {K : zK} (ha0 : (a0.1 == 99) = false) (q : z_run (z_nop k_X3_rest) (z_call h) K 0 [.inr (.inr a0)] [] M) : z_call (h + 1) 33 [.inr (.inr a0)] M K := ⟨by simp only [List.all_cons, List.all_nil, z_isU, ha0]; rfl, q⟩
theorem c_X3_rest_0 : z_nop k_X3_rest 0 = o_aload 0 := rfl
theorem c_X3_rest_1 : z_nop k_X3_rest 1 = o_ic 0 := rfl
theorem c_X3_rest_2 : z_nop k_X3_rest 2 = o_putz 4 1 := rfl
theorem c_X3_rest_3 : z_nop k_X3_rest 3 = o_aload 0 := rfl
theorem c_X3_rest_4 : z_nop k_X3_rest 4 = o_getr 4 (fun w i => (3, w, 3 * i)) := rfl
theorem c_X3_rest_5 : z_nop k_X3_rest 5 = o_callv 3 19 1 := rfl
theorem c_X3_rest_6 : z_nop k_X3_rest 6 = o_aload 0 := rfl
theorem c_X3_rest_7 : z_nop k_X3_rest 7 = o_getr 4 (fun w i => (8, w, 2 * i + 1)) := rfl
theorem c_X3_rest_8 : z_nop k_X3_rest 8 = o_callv 8 87 1 := rfl
theorem c_X3_rest_9 : z_nop k_X3_rest 9 = o_ret := rfl

def m_rest (M : zMem) (w r : Nat) : zMem := m_tallyClear (m_pfxClear (z_up M 4 w r 1 0) w (3 * r)) w (2 * r + 1)
set_option maxRecDepth 100000 in
theorem s_rest {h w r : Nat} {M : zMem} {K : zK} (q : K none (m_rest M w r)) : z_call (h + 2) 33 [.inr (.inr (4, w, r))] M K := by
  refine e_X3_rest rfl ?_
  refine z_wp_run (cut := [6, 9]) 12 _ _ _ _ ?_
  repeat' (first | (simp only [z_wp, Bool.false_eq_true, ↓reduceIte, z_e10, z_e01, eq_self, Int32.reduceLT, Int32.reduceLE, Int32.reduceGT, Int32.reduceGE, z_in, cond_true, cond_false, Nat.reduceAdd, Nat.reduceBEq, z_nth, z_set, z_clr, z_st1, z_st2, z_isL, z_opt, z_pop, z_cats, z_cat, c_X3_rest_0, c_X3_rest_1, c_X3_rest_2, c_X3_rest_3, c_X3_rest_4, c_X3_rest_5, c_X3_rest_6, c_X3_rest_7, c_X3_rest_8, c_X3_rest_9, o_aload, o_callv, o_getr, o_ic, o_putz, o_ret, z_cv0, z_cl0, z_cv1, z_cl1, z_cv2, z_cl2, z_cv3, z_cl3, z_cv4, z_cl4, z_cv5, z_cl5, z_cv6, z_cl6, z_cv7, z_cl7, z_cv8, z_cl8, z_cv9, z_cl9, z_cv10, z_cl10, z_cv11, z_cl11, z_cv12, z_cl12, z_cv13, z_cl13, z_len, z_elt, z_isI, z_isJ, Nat.reduceEqDiff, Nat.reduceLeDiff, Nat.reduceLT, Nat.reduceSub, Nat.reduceMul, not_false_eq_true, not_true_eq_false, true_and, and_true, true_or, or_true, false_or, or_false, true_implies, false_implies, implies_true, forall_const, and_self, ne_eq, Classical.not_not, z_up1, z_up2, z_cp1, z_cp2, z_upL1, z_upL2, if_true, if_false, and_false, false_and]) | (refine s_tallyClear ?_) | (refine s_pfxClear ?_) | (with_reducible refine And.intro ?_ ?_) | (with_reducible intro _) | (with_reducible refine z_go (i := 6) (cut := [6, 9]) 12 ?_) | (with_reducible refine z_go (i := 9) (cut := [6, 9]) 12 ?_))
  all_goals (first | (with_reducible exact q) | ((try simp only [ge_iff_le, gt_iff_lt, ← Int32.not_lt, Classical.not_not] at *); (first | (with_reducible rfl) | rfl | (with_reducible exact z_vi_24 (by assumption) (by assumption)) | (with_reducible exact z_vi_4 (by assumption) (by assumption)) | (with_reducible exact z_vi_512 (by assumption) (by assumption)) | (with_reducible exact z_vi_14 (by assumption) (by assumption)) | (with_reducible exact z_vi_8 (by assumption) (by assumption)) | (with_reducible exact z_vinN (by assumption) (by assumption) (by decide)) | (with_reducible exact z_vin1 (by assumption) (by assumption) (by decide)) | ((try simp only [m_rest] at q); (try simp only [ge_iff_le, gt_iff_lt, ← Int32.not_lt, Classical.not_not] at q); (try simp only [*, if_true, if_false, ite_self, true_or, or_true, false_or, or_false, true_and, and_true, false_and, and_false, not_true_eq_false, not_false_eq_true, cond_true, cond_false, decide_true, decide_false, Bool.true_and, Bool.and_true, Bool.false_and, Bool.and_false, Bool.true_or, Bool.or_true, Bool.false_or, Bool.or_false, Bool.not_true, Bool.not_false, ne_eq, Nat.reduceEqDiff] at q); with_reducible exact q))) | (simp_all [m_rest]; done))
theorem e_X3_noteRead {h : Nat} {a0 : zId} {a1 : Int32} {M : zMem} {K : zK} (ha0 : (a0.1 == 99) = false) (q : z_run (z_nop k_X3_noteRead) (z_call h) K 0 [.inr (.inr a0), .inl a1] [] M) : z_call (h + 1) 34 [.inr (.inr a0), .inl a1] M K := ⟨by simp only [List.all_cons, List.all_nil, z_isU, ha0]; rfl, q⟩
theorem c_X3_noteRead_0 : z_nop k_X3_noteRead 0 = o_aload 0 := rfl
theorem c_X3_noteRead_1 : z_nop k_X3_noteRead 1 = o_getr 4 (fun w i => (8, w, 2 * i)) := rfl
theorem c_X3_noteRead_2 : z_nop k_X3_noteRead 2 = o_get 8 1 := rfl
theorem c_X3_noteRead_3 : z_nop k_X3_noteRead 3 = o_if (fun x => x < 0) 16 := rfl
theorem c_X3_noteRead_4 : z_nop k_X3_noteRead 4 = o_aload 0 := rfl
theorem c_X3_noteRead_5 : z_nop k_X3_noteRead 5 = o_getr 4 (fun w i => (8, w, 2 * i)) := rfl
theorem c_X3_noteRead_6 : z_nop k_X3_noteRead 6 = o_get 8 1 := rfl
theorem c_X3_noteRead_7 : z_nop k_X3_noteRead 7 = o_ic 24 := rfl
theorem c_X3_noteRead_8 : z_nop k_X3_noteRead 8 = o_icmp (fun x y => x ≥ y) 16 := rfl
theorem c_X3_noteRead_9 : z_nop k_X3_noteRead 9 = o_aload 0 := rfl
theorem c_X3_noteRead_10 : z_nop k_X3_noteRead 10 = o_getr 4 (fun w i => (23, w, i)) := rfl
theorem c_X3_noteRead_11 : z_nop k_X3_noteRead 11 = o_aload 0 := rfl
theorem c_X3_noteRead_12 : z_nop k_X3_noteRead 12 = o_getr 4 (fun w i => (8, w, 2 * i)) := rfl
theorem c_X3_noteRead_13 : z_nop k_X3_noteRead 13 = o_get 8 1 := rfl
theorem c_X3_noteRead_14 : z_nop k_X3_noteRead 14 = o_iload 1 := rfl
theorem c_X3_noteRead_15 : z_nop k_X3_noteRead 15 = o_iast := rfl
theorem c_X3_noteRead_16 : z_nop k_X3_noteRead 16 = o_ret := rfl

def m_note (M : zMem) (w r : Nat) (t : Int32) : zMem := if M.1 8 w (2 * r) 1 < 0 ∨ M.1 8 w (2 * r) 1 ≥ 24 then M else z_up M 23 w r (M.1 8 w (2 * r) 1).toNatClampNeg t
set_option maxRecDepth 100000 in
theorem s_note {h w r : Nat} {M : zMem} {t : Int32} {K : zK} (q : K none (m_note M w r t)) : z_call (h + 1) 34 [.inr (.inr (4, w, r)), .inl t] M K := by
  refine e_X3_noteRead rfl ?_
  refine z_wp_run (cut := []) 19 _ _ _ _ ?_
  repeat' (first | (simp only [z_wp, Bool.false_eq_true, ↓reduceIte, z_e10, z_e01, eq_self, Int32.reduceLT, Int32.reduceLE, Int32.reduceGT, Int32.reduceGE, z_in, cond_true, cond_false, Nat.reduceAdd, Nat.reduceBEq, z_nth, z_set, z_clr, z_st1, z_st2, z_isL, z_opt, z_pop, z_cats, z_cat, c_X3_noteRead_0, c_X3_noteRead_1, c_X3_noteRead_2, c_X3_noteRead_3, c_X3_noteRead_4, c_X3_noteRead_5, c_X3_noteRead_6, c_X3_noteRead_7, c_X3_noteRead_8, c_X3_noteRead_9, c_X3_noteRead_10, c_X3_noteRead_11, c_X3_noteRead_12, c_X3_noteRead_13, c_X3_noteRead_14, c_X3_noteRead_15, c_X3_noteRead_16, o_aload, o_get, o_getr, o_iast, o_ic, o_icmp, o_if, o_iload, o_ret, z_cv0, z_cl0, z_cv1, z_cl1, z_cv2, z_cl2, z_cv3, z_cl3, z_cv4, z_cl4, z_cv5, z_cl5, z_cv6, z_cl6, z_cv7, z_cl7, z_cv8, z_cl8, z_cv9, z_cl9, z_cv10, z_cl10, z_cv11, z_cl11, z_cv12, z_cl12, z_cv13, z_cl13, z_len, z_elt, z_isI, z_isJ, Nat.reduceEqDiff, Nat.reduceLeDiff, Nat.reduceLT, Nat.reduceSub, Nat.reduceMul, not_false_eq_true, not_true_eq_false, true_and, and_true, true_or, or_true, false_or, or_false, true_implies, false_implies, implies_true, forall_const, and_self, ne_eq, Classical.not_not, z_up1, z_up2, z_cp1, z_cp2, z_upL1, z_upL2, if_true, if_false, and_false, false_and]) | (with_reducible refine And.intro ?_ ?_) | (with_reducible intro _))
  all_goals (first | (with_reducible exact q) | ((try simp only [ge_iff_le, gt_iff_lt, ← Int32.not_lt, Classical.not_not] at *); (first | (with_reducible rfl) | rfl | (with_reducible exact z_vi_24 (by assumption) (by assumption)) | (with_reducible exact z_vi_4 (by assumption) (by assumption)) | (with_reducible exact z_vi_512 (by assumption) (by assumption)) | (with_reducible exact z_vi_14 (by assumption) (by assumption)) | (with_reducible exact z_vi_8 (by assumption) (by assumption)) | (with_reducible exact z_vinN (by assumption) (by assumption) (by decide)) | (with_reducible exact z_vin1 (by assumption) (by assumption) (by decide)) | ((try simp only [m_note] at q); (try simp only [ge_iff_le, gt_iff_lt, ← Int32.not_lt, Classical.not_not] at q); (try simp only [*, if_true, if_false, ite_self, true_or, or_true, false_or, or_false, true_and, and_true, false_and, and_false, not_true_eq_false, not_false_eq_true, cond_true, cond_false, decide_true, decide_false, Bool.true_and, Bool.and_true, Bool.false_and, Bool.and_false, Bool.true_or, Bool.or_true, Bool.false_or, Bool.or_false, Bool.not_true, Bool.not_false, ne_eq, Nat.reduceEqDiff] at q); with_reducible exact q))) | (simp_all [m_note]; done))
theorem e_X3_readSet {h : Nat} {a0 : zId} {M : zMem} {K : zK} (ha0 : (a0.1 == 99) = false) (q : z_run (z_nop k_X3_readSet) (z_call h) K 0 [.inr (.inr a0), z_un, z_un] [] M) : z_call (h + 1) 35 [.inr (.inr a0)] M K := ⟨by simp only [List.all_cons, List.all_nil, z_isU, ha0]; rfl, q⟩
theorem c_X3_readSet_0 : z_nop k_X3_readSet 0 = o_ic 0 := rfl
theorem c_X3_readSet_1 : z_nop k_X3_readSet 1 = o_istore 1 := rfl
theorem c_X3_readSet_2 : z_nop k_X3_readSet 2 = o_ic 0 := rfl
theorem c_X3_readSet_3 : z_nop k_X3_readSet 3 = o_istore 2 := rfl
theorem c_X3_readSet_4 : z_nop k_X3_readSet 4 = o_iload 2 := rfl
theorem c_X3_readSet_5 : z_nop k_X3_readSet 5 = o_aload 0 := rfl
theorem c_X3_readSet_6 : z_nop k_X3_readSet 6 = o_getr 4 (fun w i => (8, w, 2 * i)) := rfl
theorem c_X3_readSet_7 : z_nop k_X3_readSet 7 = o_get 8 1 := rfl
theorem c_X3_readSet_8 : z_nop k_X3_readSet 8 = o_icmp (fun x y => x ≥ y) 23 := rfl
theorem c_X3_readSet_9 : z_nop k_X3_readSet 9 = o_iload 2 := rfl
theorem c_X3_readSet_10 : z_nop k_X3_readSet 10 = o_ic 24 := rfl
theorem c_X3_readSet_11 : z_nop k_X3_readSet 11 = o_icmp (fun x y => x ≥ y) 23 := rfl
theorem c_X3_readSet_12 : z_nop k_X3_readSet 12 = o_iload 1 := rfl
theorem c_X3_readSet_13 : z_nop k_X3_readSet 13 = o_ic 1 := rfl
theorem c_X3_readSet_14 : z_nop k_X3_readSet 14 = o_aload 0 := rfl
theorem c_X3_readSet_15 : z_nop k_X3_readSet 15 = o_getr 4 (fun w i => (23, w, i)) := rfl
theorem c_X3_readSet_16 : z_nop k_X3_readSet 16 = o_iload 2 := rfl
theorem c_X3_readSet_17 : z_nop k_X3_readSet 17 = o_iald := rfl
theorem c_X3_readSet_18 : z_nop k_X3_readSet 18 = o_bin (fun x y => x <<< (y &&& 31)) := rfl
theorem c_X3_readSet_19 : z_nop k_X3_readSet 19 = o_bin (fun x y => x ||| y) := rfl
theorem c_X3_readSet_20 : z_nop k_X3_readSet 20 = o_istore 1 := rfl
theorem c_X3_readSet_21 : z_nop k_X3_readSet 21 = o_iinc 2 1 := rfl
theorem c_X3_readSet_22 : z_nop k_X3_readSet 22 = o_goto 4 := rfl
theorem c_X3_readSet_23 : z_nop k_X3_readSet 23 = o_iload 1 := rfl
theorem c_X3_readSet_24 : z_nop k_X3_readSet 24 = o_iret := rfl

def r_readSet (M : zMem) (w r : Nat) : Nat → Int32
  | 0 => 0
  | n + 1 => r_readSet M w r n ||| 1 <<< (M.1 23 w r n &&& 31)
set_option maxRecDepth 100000 in
theorem s_readSet {h w r m : Nat} {M : zMem} {K : zK} (hm : M.1 8 w (2 * r) 1 = nI m) (hm2 : m ≤ 24) (q : K (some (.inl (r_readSet M w r m))) M) : z_call (h + 1) 35 [.inr (.inr (4, w, r))] M K := by
  refine e_X3_readSet rfl ?_
  refine z_wp_run (cut := [4]) 27 _ _ _ _ ?_
  repeat' (first | (simp only [z_wp, Bool.false_eq_true, ↓reduceIte, z_e10, z_e01, eq_self, Int32.reduceLT, Int32.reduceLE, Int32.reduceGT, Int32.reduceGE, z_in, cond_true, cond_false, Nat.reduceAdd, Nat.reduceBEq, z_nth, z_set, z_clr, z_st1, z_st2, z_isL, z_opt, z_pop, z_cats, z_cat, c_X3_readSet_0, c_X3_readSet_1, c_X3_readSet_2, c_X3_readSet_3, c_X3_readSet_4, c_X3_readSet_5, c_X3_readSet_6, c_X3_readSet_7, c_X3_readSet_8, c_X3_readSet_9, c_X3_readSet_10, c_X3_readSet_11, c_X3_readSet_12, c_X3_readSet_13, c_X3_readSet_14, c_X3_readSet_15, c_X3_readSet_16, c_X3_readSet_17, c_X3_readSet_18, c_X3_readSet_19, c_X3_readSet_20, c_X3_readSet_21, c_X3_readSet_22, c_X3_readSet_23, c_X3_readSet_24, o_aload, o_bin, o_get, o_getr, o_goto, o_iald, o_ic, o_icmp, o_iinc, o_iload, o_iret, o_istore, z_cv0, z_cl0, z_cv1, z_cl1, z_cv2, z_cl2, z_cv3, z_cl3, z_cv4, z_cl4, z_cv5, z_cl5, z_cv6, z_cl6, z_cv7, z_cl7, z_cv8, z_cl8, z_cv9, z_cl9, z_cv10, z_cl10, z_cv11, z_cl11, z_cv12, z_cl12, z_cv13, z_cl13, z_len, z_elt, z_isI, z_isJ, Nat.reduceEqDiff, Nat.reduceLeDiff, Nat.reduceLT, Nat.reduceSub, Nat.reduceMul, not_false_eq_true, not_true_eq_false, true_and, and_true, true_or, or_true, false_or, or_false, true_implies, false_implies, implies_true, forall_const, and_self, ne_eq, Classical.not_not, z_up1, z_up2, z_cp1, z_cp2, z_upL1, z_upL2, if_true, if_false, and_false, false_and]) | (with_reducible refine And.intro ?_ ?_) | (with_reducible intro _))
  have g : ∀ n, n < m → (nI n < nI m) = True ∧ (nI n ≥ nI m) = False := fun n hn => ⟨eq_true (nI_lt hn (by omega)), eq_false (nI_ge hn (by omega))⟩
  refine z_loop (fun n => z_run (z_nop k_X3_readSet) (z_call h) K 4 [.inr (.inr (4, w, r)), .inl (r_readSet M w r n), .inl (nI n)] [] M) m ?_ ?_ 0 (by omega)
  · have f1 : (nI m ≥ nI m) = True := eq_true (Int32.le_refl _)
    refine z_go (cut := [4]) 40 ?_
    simp only [z_wp, Bool.false_eq_true, ↓reduceIte, z_e10, z_e01, eq_self, Int32.reduceLT, Int32.reduceLE, Int32.reduceGT, Int32.reduceGE, z_in, cond_true, cond_false, Nat.reduceAdd, Nat.reduceBEq, z_nth, z_set, z_clr, z_st1, z_st2, z_isL, z_opt, z_pop, z_cats, z_cat, c_X3_readSet_0, c_X3_readSet_1, c_X3_readSet_2, c_X3_readSet_3, c_X3_readSet_4, c_X3_readSet_5, c_X3_readSet_6, c_X3_readSet_7, c_X3_readSet_8, c_X3_readSet_9, c_X3_readSet_10, c_X3_readSet_11, c_X3_readSet_12, c_X3_readSet_13, c_X3_readSet_14, c_X3_readSet_15, c_X3_readSet_16, c_X3_readSet_17, c_X3_readSet_18, c_X3_readSet_19, c_X3_readSet_20, c_X3_readSet_21, c_X3_readSet_22, c_X3_readSet_23, c_X3_readSet_24, o_aload, o_bin, o_get, o_getr, o_goto, o_iald, o_ic, o_icmp, o_iinc, o_iload, o_iret, o_istore, z_cv0, z_cl0, z_cv1, z_cl1, z_cv2, z_cl2, z_cv3, z_cl3, z_cv4, z_cl4, z_cv5, z_cl5, z_cv6, z_cl6, z_cv7, z_cl7, z_cv8, z_cl8, z_cv9, z_cl9, z_cv10, z_cl10, z_cv11, z_cl11, z_cv12, z_cl12, z_cv13, z_cl13, z_len, z_elt, z_isI, z_isJ, Nat.reduceEqDiff, Nat.reduceLeDiff, Nat.reduceLT, Nat.reduceSub, Nat.reduceMul, not_false_eq_true, not_true_eq_false, true_and, and_true, true_or, or_true, false_or, or_false, true_implies, false_implies, implies_true, forall_const, and_self, ne_eq, Classical.not_not, z_up1, z_up2, z_cp1, z_cp2, z_upL1, z_upL2, if_true, if_false, and_false, false_and, hm, f1]
    exact q
  · intro n hn ih
    obtain ⟨f1, f2⟩ := g n hn
    obtain ⟨f3, f4, f5, f6, f7⟩ := z_lt24 (show n < 24 by omega)
    refine z_go (cut := [4]) 40 ?_
    simp only [z_wp, Bool.false_eq_true, ↓reduceIte, z_e10, z_e01, eq_self, Int32.reduceLT, Int32.reduceLE, Int32.reduceGT, Int32.reduceGE, z_in, cond_true, cond_false, Nat.reduceAdd, Nat.reduceBEq, z_nth, z_set, z_clr, z_st1, z_st2, z_isL, z_opt, z_pop, z_cats, z_cat, c_X3_readSet_0, c_X3_readSet_1, c_X3_readSet_2, c_X3_readSet_3, c_X3_readSet_4, c_X3_readSet_5, c_X3_readSet_6, c_X3_readSet_7, c_X3_readSet_8, c_X3_readSet_9, c_X3_readSet_10, c_X3_readSet_11, c_X3_readSet_12, c_X3_readSet_13, c_X3_readSet_14, c_X3_readSet_15, c_X3_readSet_16, c_X3_readSet_17, c_X3_readSet_18, c_X3_readSet_19, c_X3_readSet_20, c_X3_readSet_21, c_X3_readSet_22, c_X3_readSet_23, c_X3_readSet_24, o_aload, o_bin, o_get, o_getr, o_goto, o_iald, o_ic, o_icmp, o_iinc, o_iload, o_iret, o_istore, z_cv0, z_cl0, z_cv1, z_cl1, z_cv2, z_cl2, z_cv3, z_cl3, z_cv4, z_cl4, z_cv5, z_cl5, z_cv6, z_cl6, z_cv7, z_cl7, z_cv8, z_cl8, z_cv9, z_cl9, z_cv10, z_cl10, z_cv11, z_cl11, z_cv12, z_cl12, z_cv13, z_cl13, z_len, z_elt, z_isI, z_isJ, Nat.reduceEqDiff, Nat.reduceLeDiff, Nat.reduceLT, Nat.reduceSub, Nat.reduceMul, not_false_eq_true, not_true_eq_false, true_and, and_true, true_or, or_true, false_or, or_false, true_implies, false_implies, implies_true, forall_const, and_self, ne_eq, Classical.not_not, z_up1, z_up2, z_cp1, z_cp2, z_upL1, z_upL2, if_true, if_false, and_false, false_and, hm, f1, f2, f3, f4, f5, f6, f7]
    exact ih
theorem e_X3_tellsLatest {h : Nat} {a0 : zId} {a1 : Int32} {M : zMem} {K : zK} (ha0 : (a0.1 == 99) = false) (q : z_run (z_nop k_X3_tellsLatest) (z_call h) K 0 [.inr (.inr a0), .inl a1] [] M) : z_call (h + 1) 38 [.inr (.inr a0), .inl a1] M K := ⟨by simp only [List.all_cons, List.all_nil, z_isU, ha0]; rfl, q⟩
theorem c_X3_tellsLatest_0 : z_nop k_X3_tellsLatest 0 = o_iload 1 := rfl
theorem c_X3_tellsLatest_1 : z_nop k_X3_tellsLatest 1 = o_tsw 12 [2, 6, 10, 14, 17, 20, 23, 27, 31] 35 := rfl
theorem c_X3_tellsLatest_2 : z_nop k_X3_tellsLatest 2 = o_aload 0 := rfl
theorem c_X3_tellsLatest_3 : z_nop k_X3_tellsLatest 3 = o_getr 4 (fun w i => (8, w, 2 * i)) := rfl
theorem c_X3_tellsLatest_4 : z_nop k_X3_tellsLatest 4 = o_get 8 1 := rfl
theorem c_X3_tellsLatest_5 : z_nop k_X3_tellsLatest 5 = o_iret := rfl
theorem c_X3_tellsLatest_6 : z_nop k_X3_tellsLatest 6 = o_aload 0 := rfl
theorem c_X3_tellsLatest_7 : z_nop k_X3_tellsLatest 7 = o_getr 4 (fun w i => (8, w, 2 * i)) := rfl
theorem c_X3_tellsLatest_8 : z_nop k_X3_tellsLatest 8 = o_get 8 0 := rfl
theorem c_X3_tellsLatest_9 : z_nop k_X3_tellsLatest 9 = o_iret := rfl
theorem c_X3_tellsLatest_10 : z_nop k_X3_tellsLatest 10 = o_aload 0 := rfl
theorem c_X3_tellsLatest_11 : z_nop k_X3_tellsLatest 11 = o_getr 4 (fun w i => (8, w, 2 * i)) := rfl
theorem c_X3_tellsLatest_12 : z_nop k_X3_tellsLatest 12 = o_get 8 2 := rfl
theorem c_X3_tellsLatest_13 : z_nop k_X3_tellsLatest 13 = o_iret := rfl
theorem c_X3_tellsLatest_14 : z_nop k_X3_tellsLatest 14 = o_aload 0 := rfl
theorem c_X3_tellsLatest_15 : z_nop k_X3_tellsLatest 15 = o_get 4 10 := rfl
theorem c_X3_tellsLatest_16 : z_nop k_X3_tellsLatest 16 = o_iret := rfl
theorem c_X3_tellsLatest_17 : z_nop k_X3_tellsLatest 17 = o_aload 0 := rfl
theorem c_X3_tellsLatest_18 : z_nop k_X3_tellsLatest 18 = o_get 4 11 := rfl
theorem c_X3_tellsLatest_19 : z_nop k_X3_tellsLatest 19 = o_iret := rfl
theorem c_X3_tellsLatest_20 : z_nop k_X3_tellsLatest 20 = o_aload 0 := rfl
theorem c_X3_tellsLatest_21 : z_nop k_X3_tellsLatest 21 = o_get 4 4 := rfl
theorem c_X3_tellsLatest_22 : z_nop k_X3_tellsLatest 22 = o_iret := rfl
theorem c_X3_tellsLatest_23 : z_nop k_X3_tellsLatest 23 = o_aload 0 := rfl
theorem c_X3_tellsLatest_24 : z_nop k_X3_tellsLatest 24 = o_getr 4 (fun w i => (3, w, 3 * i + 2)) := rfl
theorem c_X3_tellsLatest_25 : z_nop k_X3_tellsLatest 25 = o_get 3 1 := rfl
theorem c_X3_tellsLatest_26 : z_nop k_X3_tellsLatest 26 = o_iret := rfl
theorem c_X3_tellsLatest_27 : z_nop k_X3_tellsLatest 27 = o_aload 0 := rfl
theorem c_X3_tellsLatest_28 : z_nop k_X3_tellsLatest 28 = o_ic 1 := rfl
theorem c_X3_tellsLatest_29 : z_nop k_X3_tellsLatest 29 = o_callv 4 36 2 := rfl
theorem c_X3_tellsLatest_30 : z_nop k_X3_tellsLatest 30 = o_iret := rfl
theorem c_X3_tellsLatest_31 : z_nop k_X3_tellsLatest 31 = o_aload 0 := rfl
theorem c_X3_tellsLatest_32 : z_nop k_X3_tellsLatest 32 = o_ic 0 := rfl
theorem c_X3_tellsLatest_33 : z_nop k_X3_tellsLatest 33 = o_callv 4 36 2 := rfl
theorem c_X3_tellsLatest_34 : z_nop k_X3_tellsLatest 34 = o_iret := rfl
theorem c_X3_tellsLatest_35 : z_nop k_X3_tellsLatest 35 = o_ic (-1) := rfl
theorem c_X3_tellsLatest_36 : z_nop k_X3_tellsLatest 36 = o_iret := rfl

theorem e_X3_tells {h : Nat} {a0 : zId} {a1 : Int32} {M : zMem} {K : zK} (ha0 : (a0.1 == 99) = false) (q : z_run (z_nop k_X3_tells) (z_call h) K 0 [.inr (.inr a0), .inl a1] [] M) : z_call (h + 1) 37 [.inr (.inr a0), .inl a1] M K := ⟨by simp only [List.all_cons, List.all_nil, z_isU, ha0]; rfl, q⟩
theorem c_X3_tells_0 : z_nop k_X3_tells 0 = o_iload 1 := rfl
theorem c_X3_tells_1 : z_nop k_X3_tells 1 = o_tsw 0 [2, 9, 16, 19, 22, 25, 28, 31, 34, 37, 45, 41] 45 := rfl
theorem c_X3_tells_2 : z_nop k_X3_tells 2 = o_aload 0 := rfl
theorem c_X3_tells_3 : z_nop k_X3_tells 3 = o_get 4 0 := rfl
theorem c_X3_tells_4 : z_nop k_X3_tells 4 = o_if (fun x => x = 0) 7 := rfl
theorem c_X3_tells_5 : z_nop k_X3_tells 5 = o_ic 1 := rfl
theorem c_X3_tells_6 : z_nop k_X3_tells 6 = o_goto 8 := rfl
theorem c_X3_tells_7 : z_nop k_X3_tells 7 = o_ic 0 := rfl
theorem c_X3_tells_8 : z_nop k_X3_tells 8 = o_iret := rfl
theorem c_X3_tells_9 : z_nop k_X3_tells 9 = o_aload 0 := rfl
theorem c_X3_tells_10 : z_nop k_X3_tells 10 = o_get 4 1 := rfl
theorem c_X3_tells_11 : z_nop k_X3_tells 11 = o_if (fun x => x = 0) 14 := rfl
theorem c_X3_tells_12 : z_nop k_X3_tells 12 = o_ic 1 := rfl
theorem c_X3_tells_13 : z_nop k_X3_tells 13 = o_goto 15 := rfl
theorem c_X3_tells_14 : z_nop k_X3_tells 14 = o_ic 0 := rfl
theorem c_X3_tells_15 : z_nop k_X3_tells 15 = o_iret := rfl
theorem c_X3_tells_16 : z_nop k_X3_tells 16 = o_aload 0 := rfl
theorem c_X3_tells_17 : z_nop k_X3_tells 17 = o_get 4 2 := rfl
theorem c_X3_tells_18 : z_nop k_X3_tells 18 = o_iret := rfl
theorem c_X3_tells_19 : z_nop k_X3_tells 19 = o_aload 0 := rfl
theorem c_X3_tells_20 : z_nop k_X3_tells 20 = o_get 4 3 := rfl
theorem c_X3_tells_21 : z_nop k_X3_tells 21 = o_iret := rfl
theorem c_X3_tells_22 : z_nop k_X3_tells 22 = o_aload 0 := rfl
theorem c_X3_tells_23 : z_nop k_X3_tells 23 = o_get 4 5 := rfl
theorem c_X3_tells_24 : z_nop k_X3_tells 24 = o_iret := rfl
theorem c_X3_tells_25 : z_nop k_X3_tells 25 = o_aload 0 := rfl
theorem c_X3_tells_26 : z_nop k_X3_tells 26 = o_get 4 6 := rfl
theorem c_X3_tells_27 : z_nop k_X3_tells 27 = o_iret := rfl
theorem c_X3_tells_28 : z_nop k_X3_tells 28 = o_aload 0 := rfl
theorem c_X3_tells_29 : z_nop k_X3_tells 29 = o_get 4 7 := rfl
theorem c_X3_tells_30 : z_nop k_X3_tells 30 = o_iret := rfl
theorem c_X3_tells_31 : z_nop k_X3_tells 31 = o_aload 0 := rfl
theorem c_X3_tells_32 : z_nop k_X3_tells 32 = o_get 4 8 := rfl
theorem c_X3_tells_33 : z_nop k_X3_tells 33 = o_iret := rfl
theorem c_X3_tells_34 : z_nop k_X3_tells 34 = o_aload 0 := rfl
theorem c_X3_tells_35 : z_nop k_X3_tells 35 = o_get 4 9 := rfl
theorem c_X3_tells_36 : z_nop k_X3_tells 36 = o_iret := rfl
theorem c_X3_tells_37 : z_nop k_X3_tells 37 = o_aload 0 := rfl
theorem c_X3_tells_38 : z_nop k_X3_tells 38 = o_getr 4 (fun w i => (8, w, 2 * i + 1)) := rfl
theorem c_X3_tells_39 : z_nop k_X3_tells 39 = o_callv 8 89 1 := rfl
theorem c_X3_tells_40 : z_nop k_X3_tells 40 = o_iret := rfl
theorem c_X3_tells_41 : z_nop k_X3_tells 41 = o_aload 0 := rfl
theorem c_X3_tells_42 : z_nop k_X3_tells 42 = o_getr 4 (fun w i => (3, w, 3 * i)) := rfl
theorem c_X3_tells_43 : z_nop k_X3_tells 43 = o_get 3 1 := rfl
theorem c_X3_tells_44 : z_nop k_X3_tells 44 = o_iret := rfl
theorem c_X3_tells_45 : z_nop k_X3_tells 45 = o_aload 0 := rfl
theorem c_X3_tells_46 : z_nop k_X3_tells 46 = o_iload 1 := rfl
theorem c_X3_tells_47 : z_nop k_X3_tells 47 = o_callv 4 38 2 := rfl
theorem c_X3_tells_48 : z_nop k_X3_tells 48 = o_iret := rfl

theorem e_X3_share {h : Nat} {a0 : zId} {a1 : Int32} {M : zMem} {K : zK} (ha0 : (a0.1 == 99) = false) (q : z_run (z_nop k_X3_share) (z_call h) K 0 [.inr (.inr a0), .inl a1, z_un, z_un, z_un] [] M) : z_call (h + 1) 36 [.inr (.inr a0), .inl a1] M K := ⟨by simp only [List.all_cons, List.all_nil, z_isU, ha0]; rfl, q⟩
theorem c_X3_share_0 : z_nop k_X3_share 0 = o_aload 0 := rfl
theorem c_X3_share_1 : z_nop k_X3_share 1 = o_getr 4 (fun w i => (8, w, 2 * i)) := rfl
theorem c_X3_share_2 : z_nop k_X3_share 2 = o_callv 8 89 1 := rfl
theorem c_X3_share_3 : z_nop k_X3_share 3 = o_istore 2 := rfl
theorem c_X3_share_4 : z_nop k_X3_share 4 = o_aload 0 := rfl
theorem c_X3_share_5 : z_nop k_X3_share 5 = o_getr 4 (fun w i => (8, w, 2 * i)) := rfl
theorem c_X3_share_6 : z_nop k_X3_share 6 = o_get 8 1 := rfl
theorem c_X3_share_7 : z_nop k_X3_share 7 = o_i2l := rfl
theorem c_X3_share_8 : z_nop k_X3_share 8 = o_iload 2 := rfl
theorem c_X3_share_9 : z_nop k_X3_share 9 = o_i2l := rfl
theorem c_X3_share_10 : z_nop k_X3_share 10 = o_call 161 2 := rfl
theorem c_X3_share_11 : z_nop k_X3_share 11 = o_lstore 3 := rfl
theorem c_X3_share_12 : z_nop k_X3_share 12 = o_iload 2 := rfl
theorem c_X3_share_13 : z_nop k_X3_share 13 = o_if (fun x => x = 0) 18 := rfl
theorem c_X3_share_14 : z_nop k_X3_share 14 = o_lload 3 := rfl
theorem c_X3_share_15 : z_nop k_X3_share 15 = o_lc 0 := rfl
theorem c_X3_share_16 : z_nop k_X3_share 16 = o_lcmp := rfl
theorem c_X3_share_17 : z_nop k_X3_share 17 = o_if (fun x => x ≠ 0) 24 := rfl
theorem c_X3_share_18 : z_nop k_X3_share 18 = o_iload 1 := rfl
theorem c_X3_share_19 : z_nop k_X3_share 19 = o_if (fun x => x = 0) 22 := rfl
theorem c_X3_share_20 : z_nop k_X3_share 20 = o_ic 0 := rfl
theorem c_X3_share_21 : z_nop k_X3_share 21 = o_goto 23 := rfl
theorem c_X3_share_22 : z_nop k_X3_share 22 = o_ic 1 := rfl
theorem c_X3_share_23 : z_nop k_X3_share 23 = o_iret := rfl
theorem c_X3_share_24 : z_nop k_X3_share 24 = o_iload 1 := rfl
theorem c_X3_share_25 : z_nop k_X3_share 25 = o_if (fun x => x = 0) 30 := rfl
theorem c_X3_share_26 : z_nop k_X3_share 26 = o_aload 0 := rfl
theorem c_X3_share_27 : z_nop k_X3_share 27 = o_getr 4 (fun w i => (8, w, 2 * i)) := rfl
theorem c_X3_share_28 : z_nop k_X3_share 28 = o_get 8 1 := rfl
theorem c_X3_share_29 : z_nop k_X3_share 29 = o_goto 31 := rfl
theorem c_X3_share_30 : z_nop k_X3_share 30 = o_iload 2 := rfl
theorem c_X3_share_31 : z_nop k_X3_share 31 = o_i2l := rfl
theorem c_X3_share_32 : z_nop k_X3_share 32 = o_lload 3 := rfl
theorem c_X3_share_33 : z_nop k_X3_share 33 = o_divl (fun x y => x / y) := rfl
theorem c_X3_share_34 : z_nop k_X3_share 34 = o_l2i := rfl
theorem c_X3_share_35 : z_nop k_X3_share 35 = o_iret := rfl

theorem e_X3_copyFrom {h : Nat} {a0 : zId} {a1 : zId} {M : zMem} {K : zK} (ha0 : (a0.1 == 99) = false) (ha1 : (a1.1 == 99) = false) (q : z_run (z_nop k_X3_copyFrom) (z_call h) K 0 [.inr (.inr a0), .inr (.inr a1)] [] M) : z_call (h + 1) 39 [.inr (.inr a0), .inr (.inr a1)] M K := ⟨by simp only [List.all_cons, List.all_nil, z_isU, ha0, ha1]; rfl, q⟩
theorem c_X3_copyFrom_0 : z_nop k_X3_copyFrom 0 = o_aload 0 := rfl
theorem c_X3_copyFrom_1 : z_nop k_X3_copyFrom 1 = o_aload 1 := rfl
theorem c_X3_copyFrom_2 : z_nop k_X3_copyFrom 2 = o_get 4 0 := rfl
theorem c_X3_copyFrom_3 : z_nop k_X3_copyFrom 3 = o_putz 4 0 := rfl
theorem c_X3_copyFrom_4 : z_nop k_X3_copyFrom 4 = o_aload 0 := rfl
theorem c_X3_copyFrom_5 : z_nop k_X3_copyFrom 5 = o_aload 1 := rfl
theorem c_X3_copyFrom_6 : z_nop k_X3_copyFrom 6 = o_get 4 1 := rfl
theorem c_X3_copyFrom_7 : z_nop k_X3_copyFrom 7 = o_putz 4 1 := rfl
theorem c_X3_copyFrom_8 : z_nop k_X3_copyFrom 8 = o_aload 0 := rfl
theorem c_X3_copyFrom_9 : z_nop k_X3_copyFrom 9 = o_aload 1 := rfl
theorem c_X3_copyFrom_10 : z_nop k_X3_copyFrom 10 = o_get 4 2 := rfl
theorem c_X3_copyFrom_11 : z_nop k_X3_copyFrom 11 = o_put 4 2 := rfl
theorem c_X3_copyFrom_12 : z_nop k_X3_copyFrom 12 = o_aload 0 := rfl
theorem c_X3_copyFrom_13 : z_nop k_X3_copyFrom 13 = o_aload 1 := rfl
theorem c_X3_copyFrom_14 : z_nop k_X3_copyFrom 14 = o_get 4 3 := rfl
theorem c_X3_copyFrom_15 : z_nop k_X3_copyFrom 15 = o_put 4 3 := rfl
theorem c_X3_copyFrom_16 : z_nop k_X3_copyFrom 16 = o_aload 0 := rfl
theorem c_X3_copyFrom_17 : z_nop k_X3_copyFrom 17 = o_aload 1 := rfl
theorem c_X3_copyFrom_18 : z_nop k_X3_copyFrom 18 = o_get 4 4 := rfl
theorem c_X3_copyFrom_19 : z_nop k_X3_copyFrom 19 = o_put 4 4 := rfl
theorem c_X3_copyFrom_20 : z_nop k_X3_copyFrom 20 = o_aload 0 := rfl
theorem c_X3_copyFrom_21 : z_nop k_X3_copyFrom 21 = o_aload 1 := rfl
theorem c_X3_copyFrom_22 : z_nop k_X3_copyFrom 22 = o_get 4 5 := rfl
theorem c_X3_copyFrom_23 : z_nop k_X3_copyFrom 23 = o_put 4 5 := rfl
theorem c_X3_copyFrom_24 : z_nop k_X3_copyFrom 24 = o_aload 0 := rfl
theorem c_X3_copyFrom_25 : z_nop k_X3_copyFrom 25 = o_aload 1 := rfl
theorem c_X3_copyFrom_26 : z_nop k_X3_copyFrom 26 = o_get 4 6 := rfl
theorem c_X3_copyFrom_27 : z_nop k_X3_copyFrom 27 = o_put 4 6 := rfl
theorem c_X3_copyFrom_28 : z_nop k_X3_copyFrom 28 = o_aload 0 := rfl
theorem c_X3_copyFrom_29 : z_nop k_X3_copyFrom 29 = o_aload 1 := rfl
theorem c_X3_copyFrom_30 : z_nop k_X3_copyFrom 30 = o_get 4 7 := rfl
theorem c_X3_copyFrom_31 : z_nop k_X3_copyFrom 31 = o_put 4 7 := rfl
theorem c_X3_copyFrom_32 : z_nop k_X3_copyFrom 32 = o_aload 0 := rfl
theorem c_X3_copyFrom_33 : z_nop k_X3_copyFrom 33 = o_aload 1 := rfl
theorem c_X3_copyFrom_34 : z_nop k_X3_copyFrom 34 = o_get 4 8 := rfl
theorem c_X3_copyFrom_35 : z_nop k_X3_copyFrom 35 = o_put 4 8 := rfl
theorem c_X3_copyFrom_36 : z_nop k_X3_copyFrom 36 = o_aload 0 := rfl
theorem c_X3_copyFrom_37 : z_nop k_X3_copyFrom 37 = o_aload 1 := rfl
theorem c_X3_copyFrom_38 : z_nop k_X3_copyFrom 38 = o_get 4 9 := rfl
theorem c_X3_copyFrom_39 : z_nop k_X3_copyFrom 39 = o_put 4 9 := rfl
theorem c_X3_copyFrom_40 : z_nop k_X3_copyFrom 40 = o_aload 0 := rfl
theorem c_X3_copyFrom_41 : z_nop k_X3_copyFrom 41 = o_aload 1 := rfl
theorem c_X3_copyFrom_42 : z_nop k_X3_copyFrom 42 = o_get 4 10 := rfl
theorem c_X3_copyFrom_43 : z_nop k_X3_copyFrom 43 = o_put 4 10 := rfl
theorem c_X3_copyFrom_44 : z_nop k_X3_copyFrom 44 = o_aload 0 := rfl
theorem c_X3_copyFrom_45 : z_nop k_X3_copyFrom 45 = o_aload 1 := rfl
theorem c_X3_copyFrom_46 : z_nop k_X3_copyFrom 46 = o_get 4 11 := rfl
theorem c_X3_copyFrom_47 : z_nop k_X3_copyFrom 47 = o_put 4 11 := rfl
theorem c_X3_copyFrom_48 : z_nop k_X3_copyFrom 48 = o_aload 0 := rfl
theorem c_X3_copyFrom_49 : z_nop k_X3_copyFrom 49 = o_getr 4 (fun w i => (8, w, 2 * i)) := rfl
theorem c_X3_copyFrom_50 : z_nop k_X3_copyFrom 50 = o_aload 1 := rfl
theorem c_X3_copyFrom_51 : z_nop k_X3_copyFrom 51 = o_getr 4 (fun w i => (8, w, 2 * i)) := rfl
theorem c_X3_copyFrom_52 : z_nop k_X3_copyFrom 52 = o_callv 8 90 2 := rfl
theorem c_X3_copyFrom_53 : z_nop k_X3_copyFrom 53 = o_aload 0 := rfl
theorem c_X3_copyFrom_54 : z_nop k_X3_copyFrom 54 = o_getr 4 (fun w i => (8, w, 2 * i + 1)) := rfl
theorem c_X3_copyFrom_55 : z_nop k_X3_copyFrom 55 = o_aload 1 := rfl
theorem c_X3_copyFrom_56 : z_nop k_X3_copyFrom 56 = o_getr 4 (fun w i => (8, w, 2 * i + 1)) := rfl
theorem c_X3_copyFrom_57 : z_nop k_X3_copyFrom 57 = o_callv 8 90 2 := rfl
theorem c_X3_copyFrom_58 : z_nop k_X3_copyFrom 58 = o_aload 1 := rfl
theorem c_X3_copyFrom_59 : z_nop k_X3_copyFrom 59 = o_getr 4 (fun w i => (23, w, i)) := rfl
theorem c_X3_copyFrom_60 : z_nop k_X3_copyFrom 60 = o_ic 0 := rfl
theorem c_X3_copyFrom_61 : z_nop k_X3_copyFrom 61 = o_aload 0 := rfl
theorem c_X3_copyFrom_62 : z_nop k_X3_copyFrom 62 = o_getr 4 (fun w i => (23, w, i)) := rfl
theorem c_X3_copyFrom_63 : z_nop k_X3_copyFrom 63 = o_ic 0 := rfl
theorem c_X3_copyFrom_64 : z_nop k_X3_copyFrom 64 = o_ic 24 := rfl
theorem c_X3_copyFrom_65 : z_nop k_X3_copyFrom 65 = o_copy 23 24 := rfl
theorem c_X3_copyFrom_66 : z_nop k_X3_copyFrom 66 = o_aload 0 := rfl
theorem c_X3_copyFrom_67 : z_nop k_X3_copyFrom 67 = o_getr 4 (fun w i => (3, w, 3 * i)) := rfl
theorem c_X3_copyFrom_68 : z_nop k_X3_copyFrom 68 = o_aload 1 := rfl
theorem c_X3_copyFrom_69 : z_nop k_X3_copyFrom 69 = o_getr 4 (fun w i => (3, w, 3 * i)) := rfl
theorem c_X3_copyFrom_70 : z_nop k_X3_copyFrom 70 = o_callv 3 27 2 := rfl
theorem c_X3_copyFrom_71 : z_nop k_X3_copyFrom 71 = o_aload 0 := rfl
theorem c_X3_copyFrom_72 : z_nop k_X3_copyFrom 72 = o_getr 4 (fun w i => (3, w, 3 * i + 1)) := rfl
theorem c_X3_copyFrom_73 : z_nop k_X3_copyFrom 73 = o_aload 1 := rfl
theorem c_X3_copyFrom_74 : z_nop k_X3_copyFrom 74 = o_getr 4 (fun w i => (3, w, 3 * i + 1)) := rfl
theorem c_X3_copyFrom_75 : z_nop k_X3_copyFrom 75 = o_callv 3 27 2 := rfl
theorem c_X3_copyFrom_76 : z_nop k_X3_copyFrom 76 = o_aload 0 := rfl
theorem c_X3_copyFrom_77 : z_nop k_X3_copyFrom 77 = o_getr 4 (fun w i => (3, w, 3 * i + 2)) := rfl
theorem c_X3_copyFrom_78 : z_nop k_X3_copyFrom 78 = o_aload 1 := rfl
theorem c_X3_copyFrom_79 : z_nop k_X3_copyFrom 79 = o_getr 4 (fun w i => (3, w, 3 * i + 2)) := rfl
theorem c_X3_copyFrom_80 : z_nop k_X3_copyFrom 80 = o_callv 3 27 2 := rfl
theorem c_X3_copyFrom_81 : z_nop k_X3_copyFrom 81 = o_ret := rfl

def m_rdCopy (M : zMem) (w r w2 : Nat) : zMem :=
  let M1 := z_up (z_up (z_up (z_up (z_up (z_up (z_up (z_up (z_up (z_up (z_up (z_up M 4 w r 0 (M.1 4 w2 r 0)) 4 w r 1 (M.1 4 w2 r 1)) 4 w r 2 (M.1 4 w2 r 2)) 4 w r 3 (M.1 4 w2 r 3)) 4 w r 4 (M.1 4 w2 r 4)) 4 w r 5 (M.1 4 w2 r 5)) 4 w r 6 (M.1 4 w2 r 6)) 4 w r 7 (M.1 4 w2 r 7)) 4 w r 8 (M.1 4 w2 r 8)) 4 w r 9 (M.1 4 w2 r 9)) 4 w r 10 (M.1 4 w2 r 10)) 4 w r 11 (M.1 4 w2 r 11)
  let M2 := m_tallyCopy (m_tallyCopy M1 w (2 * r) w2) w (2 * r + 1) w2
  let M3 := z_cp M2 23 w r (fun j => if j < 24 then M2.1 23 w2 r j else M2.1 23 w r j)
  m_pfxCopy (m_pfxCopy (m_pfxCopy M3 w (3 * r) w2) w (3 * r + 1) w2) w (3 * r + 2) w2
