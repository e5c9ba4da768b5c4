/-! World: fading, power, what is done by hand -/
theorem e_X9_isSpan {h : Nat} {a0 : Int32} {a1 : Int32} {M : zMem} {K : zK} (q : z_run (z_nop k_X9_isSpan) (z_call h) K 0 [.inl a0, .inl a1] [] M) : z_call (h + 1) 158 [.inl a0, .inl a1] M K := ⟨by simp only [List.all_cons, List.all_nil, z_isU]; rfl, q⟩
theorem c_X9_isSpan_0 : z_nop k_X9_isSpan 0 = o_iload 0 := rfl
theorem c_X9_isSpan_1 : z_nop k_X9_isSpan 1 = o_if (fun x => x < 0) 14 := rfl
theorem c_X9_isSpan_2 : z_nop k_X9_isSpan 2 = o_iload 0 := rfl
theorem c_X9_isSpan_3 : z_nop k_X9_isSpan 3 = o_ic 32 := rfl
theorem c_X9_isSpan_4 : z_nop k_X9_isSpan 4 = o_icmp (fun x y => x ≥ y) 14 := rfl
theorem c_X9_isSpan_5 : z_nop k_X9_isSpan 5 = o_iload 1 := rfl
theorem c_X9_isSpan_6 : z_nop k_X9_isSpan 6 = o_if (fun x => x < 0) 14 := rfl
theorem c_X9_isSpan_7 : z_nop k_X9_isSpan 7 = o_iload 1 := rfl
theorem c_X9_isSpan_8 : z_nop k_X9_isSpan 8 = o_ic 32 := rfl
theorem c_X9_isSpan_9 : z_nop k_X9_isSpan 9 = o_iload 0 := rfl
theorem c_X9_isSpan_10 : z_nop k_X9_isSpan 10 = o_bin (fun x y => x - y) := rfl
theorem c_X9_isSpan_11 : z_nop k_X9_isSpan 11 = o_icmp (fun x y => x > y) 14 := rfl
theorem c_X9_isSpan_12 : z_nop k_X9_isSpan 12 = o_ic 1 := rfl
theorem c_X9_isSpan_13 : z_nop k_X9_isSpan 13 = o_goto 15 := rfl
theorem c_X9_isSpan_14 : z_nop k_X9_isSpan 14 = o_ic 0 := rfl
theorem c_X9_isSpan_15 : z_nop k_X9_isSpan 15 = o_zret := rfl

def r_isSpan (p n : Int32) : Int32 := if ¬ p < 0 ∧ ¬ p ≥ 32 ∧ ¬ n < 0 ∧ ¬ n > 32 - p then 1 else 0
set_option maxRecDepth 100000 in
theorem s_isSpan {h : Nat} {M : zMem} {p n : Int32} {K : zK} (q : K (some (.inl (r_isSpan p n))) M) : z_call (h + 1) 158 [.inl p, .inl n] M K := by
  refine e_X9_isSpan  ?_
  refine z_wp_run (cut := []) 18 _ _ _ _ ?_
  repeat' (first | (simp only [z_wp, Bool.false_eq_true, ↓reduceIte, z_e10, z_e01, eq_self, Int32.reduceLT, Int32.reduceLE, Int32.reduceGT, Int32.reduceGE, z_in, cond_true, cond_false, Nat.reduceAdd, Nat.reduceBEq, z_nth, z_set, z_clr, z_st1, z_st2, z_isL, z_opt, z_pop, z_cats, z_cat, c_X9_isSpan_0, c_X9_isSpan_1, c_X9_isSpan_2, c_X9_isSpan_3, c_X9_isSpan_4, c_X9_isSpan_5, c_X9_isSpan_6, c_X9_isSpan_7, c_X9_isSpan_8, c_X9_isSpan_9, c_X9_isSpan_10, c_X9_isSpan_11, c_X9_isSpan_12, c_X9_isSpan_13, c_X9_isSpan_14, c_X9_isSpan_15, o_bin, o_goto, o_ic, o_icmp, o_if, o_iload, o_zret, z_cv0, z_cl0, z_cv1, z_cl1, z_cv2, z_cl2, z_cv3, z_cl3, z_cv4, z_cl4, z_cv5, z_cl5, z_cv6, z_cl6, z_cv7, z_cl7, z_cv8, z_cl8, z_cv9, z_cl9, z_cv10, z_cl10, z_cv11, z_cl11, z_cv12, z_cl12, z_cv13, z_cl13, z_len, z_elt, z_isI, z_isJ, Nat.reduceEqDiff, Nat.reduceLeDiff, Nat.reduceLT, Nat.reduceSub, Nat.reduceMul, not_false_eq_true, not_true_eq_false, true_and, and_true, true_or, or_true, false_or, or_false, true_implies, false_implies, implies_true, forall_const, and_self, ne_eq, Classical.not_not, z_up1, z_up2, z_cp1, z_cp2, z_upL1, z_upL2, if_true, if_false, and_false, false_and]) | (with_reducible refine And.intro ?_ ?_) | (with_reducible intro _))
  all_goals (first | (with_reducible exact q) | ((try simp only [ge_iff_le, gt_iff_lt, ← Int32.not_lt, Classical.not_not] at *); (first | (with_reducible rfl) | rfl | (with_reducible exact z_vi_24 (by assumption) (by assumption)) | (with_reducible exact z_vi_4 (by assumption) (by assumption)) | (with_reducible exact z_vi_512 (by assumption) (by assumption)) | (with_reducible exact z_vi_14 (by assumption) (by assumption)) | (with_reducible exact z_vi_8 (by assumption) (by assumption)) | (with_reducible exact z_vinN (by assumption) (by assumption) (by decide)) | (with_reducible exact z_vin1 (by assumption) (by assumption) (by decide)) | ((try simp only [r_isSpan] at q); (try simp only [ge_iff_le, gt_iff_lt, ← Int32.not_lt, Classical.not_not] at q); (try simp only [*, if_true, if_false, ite_self, true_or, or_true, false_or, or_false, true_and, and_true, false_and, and_false, not_true_eq_false, not_false_eq_true, cond_true, cond_false, decide_true, decide_false, Bool.true_and, Bool.and_true, Bool.false_and, Bool.and_false, Bool.true_or, Bool.or_true, Bool.false_or, Bool.or_false, Bool.not_true, Bool.not_false, ne_eq, Nat.reduceEqDiff] at q); with_reducible exact q))) | (simp_all [r_isSpan]; done))
theorem e_X9_isSet {h : Nat} {a0 : Int32} {M : zMem} {K : zK} (q : z_run (z_nop k_X9_isSet) (z_call h) K 0 [.inl a0] [] M) : z_call (h + 1) 159 [.inl a0] M K := ⟨by simp only [List.all_cons, List.all_nil, z_isU]; rfl, q⟩
theorem c_X9_isSet_0 : z_nop k_X9_isSet 0 = o_iload 0 := rfl
theorem c_X9_isSet_1 : z_nop k_X9_isSet 1 = o_if (fun x => x < 0) 7 := rfl
theorem c_X9_isSet_2 : z_nop k_X9_isSet 2 = o_iload 0 := rfl
theorem c_X9_isSet_3 : z_nop k_X9_isSet 3 = o_ic 16 := rfl
theorem c_X9_isSet_4 : z_nop k_X9_isSet 4 = o_icmp (fun x y => x ≥ y) 7 := rfl
theorem c_X9_isSet_5 : z_nop k_X9_isSet 5 = o_ic 1 := rfl
theorem c_X9_isSet_6 : z_nop k_X9_isSet 6 = o_goto 8 := rfl
theorem c_X9_isSet_7 : z_nop k_X9_isSet 7 = o_ic 0 := rfl
theorem c_X9_isSet_8 : z_nop k_X9_isSet 8 = o_zret := rfl

def r_isSet (p : Int32) : Int32 := if ¬ p < 0 ∧ ¬ p ≥ 16 then 1 else 0
set_option maxRecDepth 100000 in
theorem s_isSet {h : Nat} {M : zMem} {p : Int32} {K : zK} (q : K (some (.inl (r_isSet p))) M) : z_call (h + 1) 159 [.inl p] M K := by
  refine e_X9_isSet  ?_
  refine z_wp_run (cut := []) 11 _ _ _ _ ?_
  repeat' (first | (simp only [z_wp, Bool.false_eq_true, ↓reduceIte, z_e10, z_e01, eq_self, Int32.reduceLT, Int32.reduceLE, Int32.reduceGT, Int32.reduceGE, z_in, cond_true, cond_false, Nat.reduceAdd, Nat.reduceBEq, z_nth, z_set, z_clr, z_st1, z_st2, z_isL, z_opt, z_pop, z_cats, z_cat, c_X9_isSet_0, c_X9_isSet_1, c_X9_isSet_2, c_X9_isSet_3, c_X9_isSet_4, c_X9_isSet_5, c_X9_isSet_6, c_X9_isSet_7, c_X9_isSet_8, o_goto, o_ic, o_icmp, o_if, o_iload, o_zret, z_cv0, z_cl0, z_cv1, z_cl1, z_cv2, z_cl2, z_cv3, z_cl3, z_cv4, z_cl4, z_cv5, z_cl5, z_cv6, z_cl6, z_cv7, z_cl7, z_cv8, z_cl8, z_cv9, z_cl9, z_cv10, z_cl10, z_cv11, z_cl11, z_cv12, z_cl12, z_cv13, z_cl13, z_len, z_elt, z_isI, z_isJ, Nat.reduceEqDiff, Nat.reduceLeDiff, Nat.reduceLT, Nat.reduceSub, Nat.reduceMul, not_false_eq_true, not_true_eq_false, true_and, and_true, true_or, or_true, false_or, or_false, true_implies, false_implies, implies_true, forall_const, and_self, ne_eq, Classical.not_not, z_up1, z_up2, z_cp1, z_cp2, z_upL1, z_upL2, if_true, if_false, and_false, false_and]) | (with_reducible refine And.intro ?_ ?_) | (with_reducible intro _))
  all_goals (first | (with_reducible exact q) | ((try simp only [ge_iff_le, gt_iff_lt, ← Int32.not_lt, Classical.not_not] at *); (first | (with_reducible rfl) | rfl | (with_reducible exact z_vi_24 (by assumption) (by assumption)) | (with_reducible exact z_vi_4 (by assumption) (by assumption)) | (with_reducible exact z_vi_512 (by assumption) (by assumption)) | (with_reducible exact z_vi_14 (by assumption) (by assumption)) | (with_reducible exact z_vi_8 (by assumption) (by assumption)) | (with_reducible exact z_vinN (by assumption) (by assumption) (by decide)) | (with_reducible exact z_vin1 (by assumption) (by assumption) (by decide)) | ((try simp only [r_isSet] at q); (try simp only [ge_iff_le, gt_iff_lt, ← Int32.not_lt, Classical.not_not] at q); (try simp only [*, if_true, if_false, ite_self, true_or, or_true, false_or, or_false, true_and, and_true, false_and, and_false, not_true_eq_false, not_false_eq_true, cond_true, cond_false, decide_true, decide_false, Bool.true_and, Bool.and_true, Bool.false_and, Bool.and_false, Bool.true_or, Bool.or_true, Bool.false_or, Bool.or_false, Bool.not_true, Bool.not_false, ne_eq, Nat.reduceEqDiff] at q); with_reducible exact q))) | (simp_all [r_isSet]; done))
theorem e_X9_lowest {h : Nat} {a0 : Int32} {a1 : Int32} {M : zMem} {K : zK} (q : z_run (z_nop k_X9_lowest) (z_call h) K 0 [.inl a0, .inl a1] [] M) : z_call (h + 1) 160 [.inl a0, .inl a1] M K := ⟨by simp only [List.all_cons, List.all_nil, z_isU]; rfl, q⟩
theorem c_X9_lowest_0 : z_nop k_X9_lowest 0 = o_iload 1 := rfl
theorem c_X9_lowest_1 : z_nop k_X9_lowest 1 = o_if (fun x => x ≠ 0) 4 := rfl
theorem c_X9_lowest_2 : z_nop k_X9_lowest 2 = o_ic 0 := rfl
theorem c_X9_lowest_3 : z_nop k_X9_lowest 3 = o_goto 13 := rfl
theorem c_X9_lowest_4 : z_nop k_X9_lowest 4 = o_iload 0 := rfl
theorem c_X9_lowest_5 : z_nop k_X9_lowest 5 = o_ic 32 := rfl
theorem c_X9_lowest_6 : z_nop k_X9_lowest 6 = o_iload 1 := rfl
theorem c_X9_lowest_7 : z_nop k_X9_lowest 7 = o_bin (fun x y => x - y) := rfl
theorem c_X9_lowest_8 : z_nop k_X9_lowest 8 = o_bin (fun x y => x <<< (y &&& 31)) := rfl
theorem c_X9_lowest_9 : z_nop k_X9_lowest 9 = o_ic 32 := rfl
theorem c_X9_lowest_10 : z_nop k_X9_lowest 10 = o_iload 1 := rfl
theorem c_X9_lowest_11 : z_nop k_X9_lowest 11 = o_bin (fun x y => x - y) := rfl
theorem c_X9_lowest_12 : z_nop k_X9_lowest 12 = o_bin (fun x y => (x.toUInt32 >>> (y.toUInt32 &&& Int32.toUInt32 31)).toInt32) := rfl
theorem c_X9_lowest_13 : z_nop k_X9_lowest 13 = o_iret := rfl

def r_lowest (x n : Int32) : Int32 := if n = 0 then 0 else z_ush (x <<< ((32 - n) &&& 31)) (32 - n)
set_option maxRecDepth 100000 in
theorem s_lowest {h : Nat} {M : zMem} {x n : Int32} {K : zK} (q : K (some (.inl (r_lowest x n))) M) : z_call (h + 1) 160 [.inl x, .inl n] M K := by
  refine e_X9_lowest  ?_
  refine z_wp_run (cut := []) 16 _ _ _ _ ?_
  repeat' (first | (simp only [z_wp, Bool.false_eq_true, ↓reduceIte, z_e10, z_e01, eq_self, Int32.reduceLT, Int32.reduceLE, Int32.reduceGT, Int32.reduceGE, z_in, cond_true, cond_false, Nat.reduceAdd, Nat.reduceBEq, z_nth, z_set, z_clr, z_st1, z_st2, z_isL, z_opt, z_pop, z_cats, z_cat, c_X9_lowest_0, c_X9_lowest_1, c_X9_lowest_2, c_X9_lowest_3, c_X9_lowest_4, c_X9_lowest_5, c_X9_lowest_6, c_X9_lowest_7, c_X9_lowest_8, c_X9_lowest_9, c_X9_lowest_10, c_X9_lowest_11, c_X9_lowest_12, c_X9_lowest_13, o_bin, o_goto, o_ic, o_if, o_iload, o_iret, z_cv0, z_cl0, z_cv1, z_cl1, z_cv2, z_cl2, z_cv3, z_cl3, z_cv4, z_cl4, z_cv5, z_cl5, z_cv6, z_cl6, z_cv7, z_cl7, z_cv8, z_cl8, z_cv9, z_cl9, z_cv10, z_cl10, z_cv11, z_cl11, z_cv12, z_cl12, z_cv13, z_cl13, z_len, z_elt, z_isI, z_isJ, Nat.reduceEqDiff, Nat.reduceLeDiff, Nat.reduceLT, Nat.reduceSub, Nat.reduceMul, not_false_eq_true, not_true_eq_false, true_and, and_true, true_or, or_true, false_or, or_false, true_implies, false_implies, implies_true, forall_const, and_self, ne_eq, Classical.not_not, z_up1, z_up2, z_cp1, z_cp2, z_upL1, z_upL2, if_true, if_false, and_false, false_and]) | (with_reducible refine And.intro ?_ ?_) | (with_reducible intro _))
  all_goals (first | (with_reducible exact q) | ((try simp only [ge_iff_le, gt_iff_lt, ← Int32.not_lt, Classical.not_not] at *); (first | (with_reducible rfl) | rfl | (with_reducible exact z_vi_24 (by assumption) (by assumption)) | (with_reducible exact z_vi_4 (by assumption) (by assumption)) | (with_reducible exact z_vi_512 (by assumption) (by assumption)) | (with_reducible exact z_vi_14 (by assumption) (by assumption)) | (with_reducible exact z_vi_8 (by assumption) (by assumption)) | (with_reducible exact z_vinN (by assumption) (by assumption) (by decide)) | (with_reducible exact z_vin1 (by assumption) (by assumption) (by decide)) | ((try simp only [r_lowest, z_ush] at q); (try simp only [ge_iff_le, gt_iff_lt, ← Int32.not_lt, Classical.not_not] at q); (try simp only [*, if_true, if_false, ite_self, true_or, or_true, false_or, or_false, true_and, and_true, false_and, and_false, not_true_eq_false, not_false_eq_true, cond_true, cond_false, decide_true, decide_false, Bool.true_and, Bool.and_true, Bool.false_and, Bool.and_false, Bool.true_or, Bool.or_true, Bool.false_or, Bool.or_false, Bool.not_true, Bool.not_false, ne_eq, Nat.reduceEqDiff] at q); with_reducible exact q))) | (simp_all [r_lowest, z_ush]; done))
theorem e_X8_write {h : Nat} {a0 : zId} {a1 : Int32} {a2 : Int32} {a3 : Int32} {M : zMem} {K : zK} (ha0 : (a0.1 == 99) = false) (q : z_run (z_nop k_X8_write) (z_call h) K 0 [.inr (.inr a0), .inl a1, .inl a2, .inl a3] [] M) : z_call (h + 1) 93 [.inr (.inr a0), .inl a1, .inl a2, .inl a3] M K := ⟨by simp only [List.all_cons, List.all_nil, z_isU, ha0]; rfl, q⟩
theorem c_X8_write_0 : z_nop k_X8_write 0 = o_aload 0 := rfl
theorem c_X8_write_1 : z_nop k_X8_write 1 = o_getr 9 (fun w i => (2, w, 0)) := rfl
theorem c_X8_write_2 : z_nop k_X8_write 2 = o_aload 0 := rfl
theorem c_X8_write_3 : z_nop k_X8_write 3 = o_get 9 5 := rfl
theorem c_X8_write_4 : z_nop k_X8_write 4 = o_iload 1 := rfl
theorem c_X8_write_5 : z_nop k_X8_write 5 = o_iload 2 := rfl
theorem c_X8_write_6 : z_nop k_X8_write 6 = o_iload 3 := rfl
theorem c_X8_write_7 : z_nop k_X8_write 7 = o_callv 2 12 5 := rfl
theorem c_X8_write_8 : z_nop k_X8_write 8 = o_ret := rfl

def m_write (M : zMem) (w : Nat) (r k n : Int32) : zMem := m_jAdd2 M w (M.1 2 w 0 1).toNatClampNeg (M.1 9 w 0 5) r k n
theorem z_nnat {x : Int32} (h : ¬ x < 0) : x = nI x.toNatClampNeg ∧ x.toNatClampNeg < 2 ^ 31 := by
  obtain ⟨j, hj, e⟩ := nI_of h
  rw [e, nI_clamp hj]
  exact ⟨rfl, hj⟩
set_option maxRecDepth 100000 in
theorem s_write {h w : Nat} {M : zMem} {r k n : Int32} {K : zK} (hc : ¬ M.1 2 w 0 1 < 0) (q : K none (m_write M w r k n)) : z_call (h + 3) 93 [.inr (.inr (9, w, 0)), .inl r, .inl k, .inl n] M K := by
  obtain ⟨g1, g2⟩ := z_nnat hc
  unfold m_write at q
  refine e_X8_write rfl ?_
  refine z_wp_run (cut := [8]) 20 _ _ _ _ ?_
  simp only [z_wp, Bool.false_eq_true, ↓reduceIte, z_e10, z_e01, eq_self, Int32.reduceLT, Int32.reduceLE, Int32.reduceGT, Int32.reduceGE, z_in, cond_true, cond_false, Nat.reduceAdd, Nat.reduceBEq, z_nth, z_set, z_clr, z_st1, z_st2, z_isL, z_opt, z_pop, z_cats, z_cat, c_X8_write_0, c_X8_write_1, c_X8_write_2, c_X8_write_3, c_X8_write_4, c_X8_write_5, c_X8_write_6, c_X8_write_7, c_X8_write_8, o_aload, o_callv, o_get, o_getr, o_iload, o_ret, z_cv0, z_cl0, z_cv1, z_cl1, z_cv2, z_cl2, z_cv3, z_cl3, z_cv4, z_cl4, z_cv5, z_cl5, z_cv6, z_cl6, z_cv7, z_cl7, z_cv8, z_cl8, z_cv9, z_cl9, z_cv10, z_cl10, z_cv11, z_cl11, z_cv12, z_cl12, z_cv13, z_cl13, z_len, z_elt, z_isI, z_isJ, Nat.reduceEqDiff, Nat.reduceLeDiff, Nat.reduceLT, Nat.reduceSub, Nat.reduceMul, not_false_eq_true, not_true_eq_false, true_and, and_true, true_or, or_true, false_or, or_false, true_implies, false_implies, implies_true, forall_const, and_self, ne_eq, Classical.not_not, z_up1, z_up2, z_cp1, z_cp2, z_upL1, z_upL2, if_true, if_false, and_false, false_and]
  refine s_jAdd g1 g2 ?_
  refine z_go (cut := [8]) 11 ?_
  simp only [z_wp, Bool.false_eq_true, ↓reduceIte, z_e10, z_e01, eq_self, Int32.reduceLT, Int32.reduceLE, Int32.reduceGT, Int32.reduceGE, z_in, cond_true, cond_false, Nat.reduceAdd, Nat.reduceBEq, z_nth, z_set, z_clr, z_st1, z_st2, z_isL, z_opt, z_pop, z_cats, z_cat, c_X8_write_0, c_X8_write_1, c_X8_write_2, c_X8_write_3, c_X8_write_4, c_X8_write_5, c_X8_write_6, c_X8_write_7, c_X8_write_8, o_aload, o_callv, o_get, o_getr, o_iload, o_ret, z_cv0, z_cl0, z_cv1, z_cl1, z_cv2, z_cl2, z_cv3, z_cl3, z_cv4, z_cl4, z_cv5, z_cl5, z_cv6, z_cl6, z_cv7, z_cl7, z_cv8, z_cl8, z_cv9, z_cl9, z_cv10, z_cl10, z_cv11, z_cl11, z_cv12, z_cl12, z_cv13, z_cl13, z_len, z_elt, z_isI, z_isJ, Nat.reduceEqDiff, Nat.reduceLeDiff, Nat.reduceLT, Nat.reduceSub, Nat.reduceMul, not_false_eq_true, not_true_eq_false, true_and, and_true, true_or, or_true, false_or, or_false, true_implies, false_implies, implies_true, forall_const, and_self, ne_eq, Classical.not_not, z_up1, z_up2, z_cp1, z_cp2, z_upL1, z_upL2, if_true, if_false, and_false, false_and]
  exact q
theorem e_X8_fade {h : Nat} {a0 : zId} {a1 : zId} {a2 : Int32} {M : zMem} {K : zK} (ha0 : (a0.1 == 99) = false) (ha1 : (a1.1 == 99) = false) (q : z_run (z_nop k_X8_fade) (z_call h) K 0 [.inr (.inr a0), .inr (.inr a1), .inl a2] [] M) : z_call (h + 1) 100 [.inr (.inr a0), .inr (.inr a1), .inl a2] M K := ⟨by simp only [List.all_cons, List.all_nil, z_isU, ha0, ha1]; rfl, q⟩
theorem c_X8_fade_0 : z_nop k_X8_fade 0 = o_aload 1 := rfl
theorem c_X8_fade_1 : z_nop k_X8_fade 1 = o_iload 2 := rfl
theorem c_X8_fade_2 : z_nop k_X8_fade 2 = o_ic 0 := rfl
theorem c_X8_fade_3 : z_nop k_X8_fade 3 = o_aload 0 := rfl
theorem c_X8_fade_4 : z_nop k_X8_fade 4 = o_get 9 5 := rfl
theorem c_X8_fade_5 : z_nop k_X8_fade 5 = o_callv 7 84 4 := rfl
theorem c_X8_fade_6 : z_nop k_X8_fade 6 = o_aload 0 := rfl
theorem c_X8_fade_7 : z_nop k_X8_fade 7 = o_getr 9 (fun w i => (20, w, 0)) := rfl
theorem c_X8_fade_8 : z_nop k_X8_fade 8 = o_ic 9 := rfl
theorem c_X8_fade_9 : z_nop k_X8_fade 9 = o_dup2 := rfl
theorem c_X8_fade_10 : z_nop k_X8_fade 10 = o_iald := rfl
theorem c_X8_fade_11 : z_nop k_X8_fade 11 = o_ic 1 := rfl
theorem c_X8_fade_12 : z_nop k_X8_fade 12 = o_bin (fun x y => x + y) := rfl
theorem c_X8_fade_13 : z_nop k_X8_fade 13 = o_iast := rfl
theorem c_X8_fade_14 : z_nop k_X8_fade 14 = o_ret := rfl

def m_fade (M : zMem) (w i : Nat) (f : Int32) : zMem := z_up (m_setFlag M w i f 0 (M.1 9 w 0 5)) 20 w 0 9 ((m_setFlag M w i f 0 (M.1 9 w 0 5)).1 20 w 0 9 + 1)
set_option maxRecDepth 100000 in
theorem s_fade {h w i : Nat} {M : zMem} {f : Int32} {K : zK} (q : K none (m_fade M w i f)) : z_call (h + 2) 100 [.inr (.inr (9, w, 0)), .inr (.inr (7, w, i)), .inl f] M K := by
  refine e_X8_fade rfl rfl ?_
  refine z_wp_run (cut := [6]) 17 _ _ _ _ ?_
  repeat' (first | (simp only [z_wp, Bool.false_eq_true, ↓reduceIte, z_e10, z_e01, eq_self, Int32.reduceLT, Int32.reduceLE, Int32.reduceGT, Int32.reduceGE, z_in, cond_true, cond_false, Nat.reduceAdd, Nat.reduceBEq, z_nth, z_set, z_clr, z_st1, z_st2, z_isL, z_opt, z_pop, z_cats, z_cat, c_X8_fade_0, c_X8_fade_1, c_X8_fade_2, c_X8_fade_3, c_X8_fade_4, c_X8_fade_5, c_X8_fade_6, c_X8_fade_7, c_X8_fade_8, c_X8_fade_9, c_X8_fade_10, c_X8_fade_11, c_X8_fade_12, c_X8_fade_13, c_X8_fade_14, o_aload, o_bin, o_callv, o_dup2, o_get, o_getr, o_iald, o_iast, o_ic, o_iload, o_ret, z_cv0, z_cl0, z_cv1, z_cl1, z_cv2, z_cl2, z_cv3, z_cl3, z_cv4, z_cl4, z_cv5, z_cl5, z_cv6, z_cl6, z_cv7, z_cl7, z_cv8, z_cl8, z_cv9, z_cl9, z_cv10, z_cl10, z_cv11, z_cl11, z_cv12, z_cl12, z_cv13, z_cl13, z_len, z_elt, z_isI, z_isJ, Nat.reduceEqDiff, Nat.reduceLeDiff, Nat.reduceLT, Nat.reduceSub, Nat.reduceMul, not_false_eq_true, not_true_eq_false, true_and, and_true, true_or, or_true, false_or, or_false, true_implies, false_implies, implies_true, forall_const, and_self, ne_eq, Classical.not_not, z_up1, z_up2, z_cp1, z_cp2, z_upL1, z_upL2, if_true, if_false, and_false, false_and]) | (refine s_setFlag ?_) | (with_reducible refine And.intro ?_ ?_) | (with_reducible intro _) | (with_reducible refine z_go (i := 6) (cut := [6]) 17 ?_))
  all_goals (first | (with_reducible exact q) | ((try simp only [ge_iff_le, gt_iff_lt, ← Int32.not_lt, Classical.not_not] at *); (first | (with_reducible rfl) | rfl | (with_reducible exact z_vi_24 (by assumption) (by assumption)) | (with_reducible exact z_vi_4 (by assumption) (by assumption)) | (with_reducible exact z_vi_512 (by assumption) (by assumption)) | (with_reducible exact z_vi_14 (by assumption) (by assumption)) | (with_reducible exact z_vi_8 (by assumption) (by assumption)) | (with_reducible exact z_vinN (by assumption) (by assumption) (by decide)) | (with_reducible exact z_vin1 (by assumption) (by assumption) (by decide)) | ((try simp only [m_fade] at q); (try simp only [ge_iff_le, gt_iff_lt, ← Int32.not_lt, Classical.not_not] at q); (try simp only [*, if_true, if_false, ite_self, true_or, or_true, false_or, or_false, true_and, and_true, false_and, and_false, not_true_eq_false, not_false_eq_true, cond_true, cond_false, decide_true, decide_false, Bool.true_and, Bool.and_true, Bool.false_and, Bool.and_false, Bool.true_or, Bool.or_true, Bool.false_or, Bool.or_false, Bool.not_true, Bool.not_false, ne_eq, Nat.reduceEqDiff] at q); with_reducible exact q))) | (simp_all [m_fade]; done))
theorem e_X8_fadesAt {h : Nat} {a0 : zId} {a1 : zId} {a2 : Int32} {M : zMem} {K : zK} (ha0 : (a0.1 == 99) = false) (ha1 : (a1.1 == 99) = false) (q : z_run (z_nop k_X8_fadesAt) (z_call h) K 0 [.inr (.inr a0), .inr (.inr a1), .inl a2] [] M) : z_call (h + 1) 101 [.inr (.inr a0), .inr (.inr a1), .inl a2] M K := ⟨by simp only [List.all_cons, List.all_nil, z_isU, ha0, ha1]; rfl, q⟩
theorem c_X8_fadesAt_0 : z_nop k_X8_fadesAt 0 = o_iload 2 := rfl
theorem c_X8_fadesAt_1 : z_nop k_X8_fadesAt 1 = o_ic 1 := rfl
theorem c_X8_fadesAt_2 : z_nop k_X8_fadesAt 2 = o_icmp (fun x y => x ≠ y) 9 := rfl
theorem c_X8_fadesAt_3 : z_nop k_X8_fadesAt 3 = o_aload 1 := rfl
theorem c_X8_fadesAt_4 : z_nop k_X8_fadesAt 4 = o_get 7 8 := rfl
theorem c_X8_fadesAt_5 : z_nop k_X8_fadesAt 5 = o_aload 0 := rfl
theorem c_X8_fadesAt_6 : z_nop k_X8_fadesAt 6 = o_get 9 7 := rfl
theorem c_X8_fadesAt_7 : z_nop k_X8_fadesAt 7 = o_bin (fun x y => x + y) := rfl
theorem c_X8_fadesAt_8 : z_nop k_X8_fadesAt 8 = o_iret := rfl
theorem c_X8_fadesAt_9 : z_nop k_X8_fadesAt 9 = o_iload 2 := rfl
theorem c_X8_fadesAt_10 : z_nop k_X8_fadesAt 10 = o_if (fun x => x = 0) 14 := rfl
theorem c_X8_fadesAt_11 : z_nop k_X8_fadesAt 11 = o_aload 1 := rfl
theorem c_X8_fadesAt_12 : z_nop k_X8_fadesAt 12 = o_callv 7 83 1 := rfl
theorem c_X8_fadesAt_13 : z_nop k_X8_fadesAt 13 = o_if (fun x => x = 0) 16 := rfl
theorem c_X8_fadesAt_14 : z_nop k_X8_fadesAt 14 = o_ic (-1) := rfl
theorem c_X8_fadesAt_15 : z_nop k_X8_fadesAt 15 = o_goto 21 := rfl
theorem c_X8_fadesAt_16 : z_nop k_X8_fadesAt 16 = o_aload 1 := rfl
theorem c_X8_fadesAt_17 : z_nop k_X8_fadesAt 17 = o_get 7 9 := rfl
theorem c_X8_fadesAt_18 : z_nop k_X8_fadesAt 18 = o_aload 0 := rfl
theorem c_X8_fadesAt_19 : z_nop k_X8_fadesAt 19 = o_get 9 8 := rfl
theorem c_X8_fadesAt_20 : z_nop k_X8_fadesAt 20 = o_bin (fun x y => x + y) := rfl
theorem c_X8_fadesAt_21 : z_nop k_X8_fadesAt 21 = o_iret := rfl

def r_fadesAt (M : zMem) (w i : Nat) (f : Int32) : Int32 := if f = 1 then M.1 7 w i 8 + M.1 9 w 0 7 else if f = 0 ∨ M.1 7 w i 9 = -1 then -1 else M.1 7 w i 9 + M.1 9 w 0 8
set_option maxRecDepth 100000 in
theorem s_fadesAt {h w i : Nat} {M : zMem} {f : Int32} {K : zK} (q : K (some (.inl (r_fadesAt M w i f))) M) : z_call (h + 2) 101 [.inr (.inr (9, w, 0)), .inr (.inr (7, w, i)), .inl f] M K := by
  refine e_X8_fadesAt rfl rfl ?_
  refine z_wp_run (cut := [13]) 24 _ _ _ _ ?_
  repeat' (first | (simp only [z_wp, Bool.false_eq_true, ↓reduceIte, z_e10, z_e01, eq_self, Int32.reduceLT, Int32.reduceLE, Int32.reduceGT, Int32.reduceGE, z_in, cond_true, cond_false, Nat.reduceAdd, Nat.reduceBEq, z_nth, z_set, z_clr, z_st1, z_st2, z_isL, z_opt, z_pop, z_cats, z_cat, c_X8_fadesAt_0, c_X8_fadesAt_1, c_X8_fadesAt_2, c_X8_fadesAt_3, c_X8_fadesAt_4, c_X8_fadesAt_5, c_X8_fadesAt_6, c_X8_fadesAt_7, c_X8_fadesAt_8, c_X8_fadesAt_9, c_X8_fadesAt_10, c_X8_fadesAt_11, c_X8_fadesAt_12, c_X8_fadesAt_13, c_X8_fadesAt_14, c_X8_fadesAt_15, c_X8_fadesAt_16, c_X8_fadesAt_17, c_X8_fadesAt_18, c_X8_fadesAt_19, c_X8_fadesAt_20, c_X8_fadesAt_21, o_aload, o_bin, o_callv, o_get, o_goto, o_ic, o_icmp, o_if, o_iload, o_iret, z_cv0, z_cl0, z_cv1, z_cl1, z_cv2, z_cl2, z_cv3, z_cl3, z_cv4, z_cl4, z_cv5, z_cl5, z_cv6, z_cl6, z_cv7, z_cl7, z_cv8, z_cl8, z_cv9, z_cl9, z_cv10, z_cl10, z_cv11, z_cl11, z_cv12, z_cl12, z_cv13, z_cl13, z_len, z_elt, z_isI, z_isJ, Nat.reduceEqDiff, Nat.reduceLeDiff, Nat.reduceLT, Nat.reduceSub, Nat.reduceMul, not_false_eq_true, not_true_eq_false, true_and, and_true, true_or, or_true, false_or, or_false, true_implies, false_implies, implies_true, forall_const, and_self, ne_eq, Classical.not_not, z_up1, z_up2, z_cp1, z_cp2, z_upL1, z_upL2, if_true, if_false, and_false, false_and]) | (refine s_hasPower ?_) | (with_reducible refine And.intro ?_ ?_) | (with_reducible intro _) | (with_reducible refine z_go (i := 13) (cut := [13]) 24 ?_))
  all_goals (first | (with_reducible exact q) | ((try simp only [ge_iff_le, gt_iff_lt, ← Int32.not_lt, Classical.not_not] at *); (first | (with_reducible rfl) | rfl | (with_reducible exact z_vi_24 (by assumption) (by assumption)) | (with_reducible exact z_vi_4 (by assumption) (by assumption)) | (with_reducible exact z_vi_512 (by assumption) (by assumption)) | (with_reducible exact z_vi_14 (by assumption) (by assumption)) | (with_reducible exact z_vi_8 (by assumption) (by assumption)) | (with_reducible exact z_vinN (by assumption) (by assumption) (by decide)) | (with_reducible exact z_vin1 (by assumption) (by assumption) (by decide)) | ((try simp only [r_fadesAt, r_hasPower] at q); (try simp only [ge_iff_le, gt_iff_lt, ← Int32.not_lt, Classical.not_not] at q); (try simp only [*, if_true, if_false, ite_self, true_or, or_true, false_or, or_false, true_and, and_true, false_and, and_false, not_true_eq_false, not_false_eq_true, cond_true, cond_false, decide_true, decide_false, Bool.true_and, Bool.and_true, Bool.false_and, Bool.and_false, Bool.true_or, Bool.or_true, Bool.false_or, Bool.or_false, Bool.not_true, Bool.not_false, ne_eq, Nat.reduceEqDiff] at q); with_reducible exact q))) | (simp_all [r_fadesAt, r_hasPower]; done))
theorem e_X8_hasRunOut {h : Nat} {a0 : zId} {a1 : zId} {a2 : Int32} {M : zMem} {K : zK} (ha0 : (a0.1 == 99) = false) (ha1 : (a1.1 == 99) = false) (q : z_run (z_nop k_X8_hasRunOut) (z_call h) K 0 [.inr (.inr a0), .inr (.inr a1), .inl a2, z_un] [] M) : z_call (h + 1) 104 [.inr (.inr a0), .inr (.inr a1), .inl a2] M K := ⟨by simp only [List.all_cons, List.all_nil, z_isU, ha0, ha1]; rfl, q⟩
theorem c_X8_hasRunOut_0 : z_nop k_X8_hasRunOut 0 = o_aload 0 := rfl
theorem c_X8_hasRunOut_1 : z_nop k_X8_hasRunOut 1 = o_aload 1 := rfl
theorem c_X8_hasRunOut_2 : z_nop k_X8_hasRunOut 2 = o_iload 2 := rfl
theorem c_X8_hasRunOut_3 : z_nop k_X8_hasRunOut 3 = o_callv 9 101 3 := rfl
theorem c_X8_hasRunOut_4 : z_nop k_X8_hasRunOut 4 = o_istore 3 := rfl
theorem c_X8_hasRunOut_5 : z_nop k_X8_hasRunOut 5 = o_iload 3 := rfl
theorem c_X8_hasRunOut_6 : z_nop k_X8_hasRunOut 6 = o_ic (-1) := rfl
theorem c_X8_hasRunOut_7 : z_nop k_X8_hasRunOut 7 = o_icmp (fun x y => x = y) 14 := rfl
theorem c_X8_hasRunOut_8 : z_nop k_X8_hasRunOut 8 = o_iload 3 := rfl
theorem c_X8_hasRunOut_9 : z_nop k_X8_hasRunOut 9 = o_aload 0 := rfl
theorem c_X8_hasRunOut_10 : z_nop k_X8_hasRunOut 10 = o_get 9 5 := rfl
theorem c_X8_hasRunOut_11 : z_nop k_X8_hasRunOut 11 = o_icmp (fun x y => x > y) 14 := rfl
theorem c_X8_hasRunOut_12 : z_nop k_X8_hasRunOut 12 = o_ic 1 := rfl
theorem c_X8_hasRunOut_13 : z_nop k_X8_hasRunOut 13 = o_goto 15 := rfl
theorem c_X8_hasRunOut_14 : z_nop k_X8_hasRunOut 14 = o_ic 0 := rfl
theorem c_X8_hasRunOut_15 : z_nop k_X8_hasRunOut 15 = o_zret := rfl

def r_hasRunOut (M : zMem) (w i : Nat) (f : Int32) : Int32 := if ¬ r_fadesAt M w i f = -1 ∧ ¬ r_fadesAt M w i f > M.1 9 w 0 5 then 1 else 0
set_option maxRecDepth 100000 in
theorem s_hasRunOut {h w i : Nat} {M : zMem} {f : Int32} {K : zK} (q : K (some (.inl (r_hasRunOut M w i f))) M) : z_call (h + 3) 104 [.inr (.inr (9, w, 0)), .inr (.inr (7, w, i)), .inl f] M K := by
  refine e_X8_hasRunOut rfl rfl ?_
  refine z_wp_run (cut := [4]) 18 _ _ _ _ ?_
  repeat' (first | (simp only [z_wp, Bool.false_eq_true, ↓reduceIte, z_e10, z_e01, eq_self, Int32.reduceLT, Int32.reduceLE, Int32.reduceGT, Int32.reduceGE, z_in, cond_true, cond_false, Nat.reduceAdd, Nat.reduceBEq, z_nth, z_set, z_clr, z_st1, z_st2, z_isL, z_opt, z_pop, z_cats, z_cat, c_X8_hasRunOut_0, c_X8_hasRunOut_1, c_X8_hasRunOut_2, c_X8_hasRunOut_3, c_X8_hasRunOut_4, c_X8_hasRunOut_5, c_X8_hasRunOut_6, c_X8_hasRunOut_7, c_X8_hasRunOut_8, c_X8_hasRunOut_9, c_X8_hasRunOut_10, c_X8_hasRunOut_11, c_X8_hasRunOut_12, c_X8_hasRunOut_13, c_X8_hasRunOut_14, c_X8_hasRunOut_15, o_aload, o_callv, o_get, o_goto, o_ic, o_icmp, o_iload, o_istore, o_zret, z_cv0, z_cl0, z_cv1, z_cl1, z_cv2, z_cl2, z_cv3, z_cl3, z_cv4, z_cl4, z_cv5, z_cl5, z_cv6, z_cl6, z_cv7, z_cl7, z_cv8, z_cl8, z_cv9, z_cl9, z_cv10, z_cl10, z_cv11, z_cl11, z_cv12, z_cl12, z_cv13, z_cl13, z_len, z_elt, z_isI, z_isJ, Nat.reduceEqDiff, Nat.reduceLeDiff, Nat.reduceLT, Nat.reduceSub, Nat.reduceMul, not_false_eq_true, not_true_eq_false, true_and, and_true, true_or, or_true, false_or, or_false, true_implies, false_implies, implies_true, forall_const, and_self, ne_eq, Classical.not_not, z_up1, z_up2, z_cp1, z_cp2, z_upL1, z_upL2, if_true, if_false, and_false, false_and]) | (refine s_fadesAt ?_) | (with_reducible refine And.intro ?_ ?_) | (with_reducible intro _) | (with_reducible refine z_go (i := 4) (cut := [4]) 18 ?_))
  all_goals (first | (with_reducible exact q) | ((try simp only [ge_iff_le, gt_iff_lt, ← Int32.not_lt, Classical.not_not] at *); (first | (with_reducible rfl) | rfl | (with_reducible exact z_vi_24 (by assumption) (by assumption)) | (with_reducible exact z_vi_4 (by assumption) (by assumption)) | (with_reducible exact z_vi_512 (by assumption) (by assumption)) | (with_reducible exact z_vi_14 (by assumption) (by assumption)) | (with_reducible exact z_vi_8 (by assumption) (by assumption)) | (with_reducible exact z_vinN (by assumption) (by assumption) (by decide)) | (with_reducible exact z_vin1 (by assumption) (by assumption) (by decide)) | ((try simp only [r_hasRunOut] at q); (try simp only [ge_iff_le, gt_iff_lt, ← Int32.not_lt, Classical.not_not] at q); (try simp only [*, if_true, if_false, ite_self, true_or, or_true, false_or, or_false, true_and, and_true, false_and, and_false, not_true_eq_false, not_false_eq_true, cond_true, cond_false, decide_true, decide_false, Bool.true_and, Bool.and_true, Bool.false_and, Bool.and_false, Bool.true_or, Bool.or_true, Bool.false_or, Bool.or_false, Bool.not_true, Bool.not_false, ne_eq, Nat.reduceEqDiff] at q); with_reducible exact q))) | (simp_all [r_hasRunOut]; done))
theorem e_X8_ticksToFade {h : Nat} {a0 : zId} {a1 : zId} {a2 : Int32} {M : zMem} {K : zK} (ha0 : (a0.1 == 99) = false) (ha1 : (a1.1 == 99) = false) (q : z_run (z_nop k_X8_ticksToFade) (z_call h) K 0 [.inr (.inr a0), .inr (.inr a1), .inl a2, z_un] [] M) : z_call (h + 1) 102 [.inr (.inr a0), .inr (.inr a1), .inl a2] M K := ⟨by simp only [List.all_cons, List.all_nil, z_isU, ha0, ha1]; rfl, q⟩
theorem c_X8_ticksToFade_0 : z_nop k_X8_ticksToFade 0 = o_aload 1 := rfl
theorem c_X8_ticksToFade_1 : z_nop k_X8_ticksToFade 1 = o_iload 2 := rfl
theorem c_X8_ticksToFade_2 : z_nop k_X8_ticksToFade 2 = o_callv 7 81 2 := rfl
theorem c_X8_ticksToFade_3 : z_nop k_X8_ticksToFade 3 = o_if (fun x => x ≠ 0) 6 := rfl
theorem c_X8_ticksToFade_4 : z_nop k_X8_ticksToFade 4 = o_ic 0 := rfl
theorem c_X8_ticksToFade_5 : z_nop k_X8_ticksToFade 5 = o_iret := rfl
theorem c_X8_ticksToFade_6 : z_nop k_X8_ticksToFade 6 = o_aload 0 := rfl
theorem c_X8_ticksToFade_7 : z_nop k_X8_ticksToFade 7 = o_aload 1 := rfl
theorem c_X8_ticksToFade_8 : z_nop k_X8_ticksToFade 8 = o_iload 2 := rfl
theorem c_X8_ticksToFade_9 : z_nop k_X8_ticksToFade 9 = o_callv 9 101 3 := rfl
theorem c_X8_ticksToFade_10 : z_nop k_X8_ticksToFade 10 = o_istore 3 := rfl
theorem c_X8_ticksToFade_11 : z_nop k_X8_ticksToFade 11 = o_iload 3 := rfl
theorem c_X8_ticksToFade_12 : z_nop k_X8_ticksToFade 12 = o_ic (-1) := rfl
theorem c_X8_ticksToFade_13 : z_nop k_X8_ticksToFade 13 = o_icmp (fun x y => x ≠ y) 16 := rfl
theorem c_X8_ticksToFade_14 : z_nop k_X8_ticksToFade 14 = o_ic (-1) := rfl
theorem c_X8_ticksToFade_15 : z_nop k_X8_ticksToFade 15 = o_goto 22 := rfl
theorem c_X8_ticksToFade_16 : z_nop k_X8_ticksToFade 16 = o_ic 1 := rfl
theorem c_X8_ticksToFade_17 : z_nop k_X8_ticksToFade 17 = o_iload 3 := rfl
theorem c_X8_ticksToFade_18 : z_nop k_X8_ticksToFade 18 = o_aload 0 := rfl
theorem c_X8_ticksToFade_19 : z_nop k_X8_ticksToFade 19 = o_get 9 5 := rfl
theorem c_X8_ticksToFade_20 : z_nop k_X8_ticksToFade 20 = o_bin (fun x y => x - y) := rfl
theorem c_X8_ticksToFade_21 : z_nop k_X8_ticksToFade 21 = o_mmax := rfl
theorem c_X8_ticksToFade_22 : z_nop k_X8_ticksToFade 22 = o_iret := rfl

def r_ticksToFade (M : zMem) (w i : Nat) (f : Int32) : Int32 := if r_flag M w i f = 0 then 0 else if r_fadesAt M w i f = -1 then -1 else if 1 < r_fadesAt M w i f - M.1 9 w 0 5 then r_fadesAt M w i f - M.1 9 w 0 5 else 1
set_option maxRecDepth 100000 in
theorem s_ticksToFade {h w i : Nat} {M : zMem} {f : Int32} {K : zK} (q : K (some (.inl (r_ticksToFade M w i f))) M) : z_call (h + 3) 102 [.inr (.inr (9, w, 0)), .inr (.inr (7, w, i)), .inl f] M K := by
  refine e_X8_ticksToFade rfl rfl ?_
  refine z_wp_run (cut := [3, 10]) 25 _ _ _ _ ?_
  repeat' (first | (simp only [z_wp, Bool.false_eq_true, ↓reduceIte, z_e10, z_e01, eq_self, Int32.reduceLT, Int32.reduceLE, Int32.reduceGT, Int32.reduceGE, z_in, cond_true, cond_false, Nat.reduceAdd, Nat.reduceBEq, z_nth, z_set, z_clr, z_st1, z_st2, z_isL, z_opt, z_pop, z_cats, z_cat, c_X8_ticksToFade_0, c_X8_ticksToFade_1, c_X8_ticksToFade_2, c_X8_ticksToFade_3, c_X8_ticksToFade_4, c_X8_ticksToFade_5, c_X8_ticksToFade_6, c_X8_ticksToFade_7, c_X8_ticksToFade_8, c_X8_ticksToFade_9, c_X8_ticksToFade_10, c_X8_ticksToFade_11, c_X8_ticksToFade_12, c_X8_ticksToFade_13, c_X8_ticksToFade_14, c_X8_ticksToFade_15, c_X8_ticksToFade_16, c_X8_ticksToFade_17, c_X8_ticksToFade_18, c_X8_ticksToFade_19, c_X8_ticksToFade_20, c_X8_ticksToFade_21, c_X8_ticksToFade_22, o_aload, o_bin, o_callv, o_get, o_goto, o_ic, o_icmp, o_if, o_iload, o_iret, o_istore, o_mmax, z_cv0, z_cl0, z_cv1, z_cl1, z_cv2, z_cl2, z_cv3, z_cl3, z_cv4, z_cl4, z_cv5, z_cl5, z_cv6, z_cl6, z_cv7, z_cl7, z_cv8, z_cl8, z_cv9, z_cl9, z_cv10, z_cl10, z_cv11, z_cl11, z_cv12, z_cl12, z_cv13, z_cl13, z_len, z_elt, z_isI, z_isJ, Nat.reduceEqDiff, Nat.reduceLeDiff, Nat.reduceLT, Nat.reduceSub, Nat.reduceMul, not_false_eq_true, not_true_eq_false, true_and, and_true, true_or, or_true, false_or, or_false, true_implies, false_implies, implies_true, forall_const, and_self, ne_eq, Classical.not_not, z_up1, z_up2, z_cp1, z_cp2, z_upL1, z_upL2, if_true, if_false, and_false, false_and]) | (refine s_flag ?_) | (refine s_fadesAt ?_) | (with_reducible refine And.intro ?_ ?_) | (with_reducible intro _) | (with_reducible refine z_go (i := 3) (cut := [3, 10]) 25 ?_) | (with_reducible refine z_go (i := 10) (cut := [3, 10]) 25 ?_))
  all_goals (first | (with_reducible exact q) | ((try simp only [ge_iff_le, gt_iff_lt, ← Int32.not_lt, Classical.not_not] at *); (first | (with_reducible rfl) | rfl | (with_reducible exact z_vi_24 (by assumption) (by assumption)) | (with_reducible exact z_vi_4 (by assumption) (by assumption)) | (with_reducible exact z_vi_512 (by assumption) (by assumption)) | (with_reducible exact z_vi_14 (by assumption) (by assumption)) | (with_reducible exact z_vi_8 (by assumption) (by assumption)) | (with_reducible exact z_vinN (by assumption) (by assumption) (by decide)) | (with_reducible exact z_vin1 (by assumption) (by assumption) (by decide)) | ((try simp only [r_ticksToFade] at q); (try simp only [ge_iff_le, gt_iff_lt, ← Int32.not_lt, Classical.not_not] at q); (try simp only [*, if_true, if_false, ite_self, true_or, or_true, false_or, or_false, true_and, and_true, false_and, and_false, not_true_eq_false, not_false_eq_true, cond_true, cond_false, decide_true, decide_false, Bool.true_and, Bool.and_true, Bool.false_and, Bool.and_false, Bool.true_or, Bool.or_true, Bool.false_or, Bool.or_false, Bool.not_true, Bool.not_false, ne_eq, Nat.reduceEqDiff] at q); with_reducible exact q))) | (simp_all [r_ticksToFade]; done))
theorem e_X8_settlePower {h : Nat} {a0 : zId} {a1 : zId} {M : zMem} {K : zK} (ha0 : (a0.1 == 99) = false) (ha1 : (a1.1 == 99) = false) (q : z_run (z_nop k_X8_settlePower) (z_call h) K 0 [.inr (.inr a0), .inr (.inr a1)] [] M) : z_call (h + 1) 99 [.inr (.inr a0), .inr (.inr a1)] M K := ⟨by simp only [List.all_cons, List.all_nil, z_isU, ha0, ha1]; rfl, q⟩
theorem c_X8_settlePower_0 : z_nop k_X8_settlePower 0 = o_aload 1 := rfl
theorem c_X8_settlePower_1 : z_nop k_X8_settlePower 1 = o_get 7 2 := rfl
theorem c_X8_settlePower_2 : z_nop k_X8_settlePower 2 = o_aload 0 := rfl
theorem c_X8_settlePower_3 : z_nop k_X8_settlePower 3 = o_callv 9 115 1 := rfl
theorem c_X8_settlePower_4 : z_nop k_X8_settlePower 4 = o_bin (fun x y => x &&& y) := rfl
theorem c_X8_settlePower_5 : z_nop k_X8_settlePower 5 = o_if (fun x => x = 0) 10 := rfl
theorem c_X8_settlePower_6 : z_nop k_X8_settlePower 6 = o_aload 1 := rfl
theorem c_X8_settlePower_7 : z_nop k_X8_settlePower 7 = o_ic (-1) := rfl
theorem c_X8_settlePower_8 : z_nop k_X8_settlePower 8 = o_put 7 9 := rfl
theorem c_X8_settlePower_9 : z_nop k_X8_settlePower 9 = o_ret := rfl
theorem c_X8_settlePower_10 : z_nop k_X8_settlePower 10 = o_aload 1 := rfl
theorem c_X8_settlePower_11 : z_nop k_X8_settlePower 11 = o_callv 7 83 1 := rfl
theorem c_X8_settlePower_12 : z_nop k_X8_settlePower 12 = o_if (fun x => x = 0) 17 := rfl
theorem c_X8_settlePower_13 : z_nop k_X8_settlePower 13 = o_aload 1 := rfl
theorem c_X8_settlePower_14 : z_nop k_X8_settlePower 14 = o_aload 0 := rfl
theorem c_X8_settlePower_15 : z_nop k_X8_settlePower 15 = o_get 9 5 := rfl
theorem c_X8_settlePower_16 : z_nop k_X8_settlePower 16 = o_put 7 9 := rfl
theorem c_X8_settlePower_17 : z_nop k_X8_settlePower 17 = o_aload 1 := rfl
theorem c_X8_settlePower_18 : z_nop k_X8_settlePower 18 = o_ic 0 := rfl
theorem c_X8_settlePower_19 : z_nop k_X8_settlePower 19 = o_callv 7 81 2 := rfl
theorem c_X8_settlePower_20 : z_nop k_X8_settlePower 20 = o_ic 1 := rfl
theorem c_X8_settlePower_21 : z_nop k_X8_settlePower 21 = o_icmp (fun x y => x ≠ y) 26 := rfl
theorem c_X8_settlePower_22 : z_nop k_X8_settlePower 22 = o_aload 0 := rfl
theorem c_X8_settlePower_23 : z_nop k_X8_settlePower 23 = o_aload 1 := rfl
theorem c_X8_settlePower_24 : z_nop k_X8_settlePower 24 = o_ic 0 := rfl
theorem c_X8_settlePower_25 : z_nop k_X8_settlePower 25 = o_callv 9 100 3 := rfl
theorem c_X8_settlePower_26 : z_nop k_X8_settlePower 26 = o_ret := rfl

def m_settle (M : zMem) (w i : Nat) : zMem :=
  if M.1 7 w i 2 &&& r_readersOn M w = 0 then
    (let M1 := if M.1 7 w i 9 = -1 then z_up M 7 w i 9 (M.1 9 w 0 5) else M
     if r_flag M1 w i 0 = 1 then m_fade M1 w i 0 else M1)
  else z_up M 7 w i 9 (-1)
set_option maxRecDepth 100000 in
theorem s_settle {h w i : Nat} {M : zMem} {K : zK} (q : K none (m_settle M w i)) : z_call (h + 3) 99 [.inr (.inr (9, w, 0)), .inr (.inr (7, w, i))] M K := by
  unfold m_settle at q
  by_cases c1 : M.1 7 w i 2 &&& r_readersOn M w = 0
  · rw [if_pos c1] at q
    by_cases c2 : M.1 7 w i 9 = -1
    · have e2 : r_hasPower M w i = 1 := if_pos c2
      simp only [if_pos c2] at q
      by_cases c3 : r_flag (z_up M 7 w i 9 (M.1 9 w 0 5)) w i 0 = 1
      · rw [if_pos c3] at q
        refine e_X8_settlePower rfl rfl ?_
        refine z_wp_run (cut := [4, 12, 20, 26]) 29 _ _ _ _ ?_
        repeat' (first | (simp only [z_wp, Bool.false_eq_true, ↓reduceIte, z_e10, z_e01, eq_self, Int32.reduceLT, Int32.reduceLE, Int32.reduceGT, Int32.reduceGE, z_in, cond_true, cond_false, Nat.reduceAdd, Nat.reduceBEq, z_nth, z_set, z_clr, z_st1, z_st2, z_isL, z_opt, z_pop, z_cats, z_cat, c_X8_settlePower_0, c_X8_settlePower_1, c_X8_settlePower_2, c_X8_settlePower_3, c_X8_settlePower_4, c_X8_settlePower_5, c_X8_settlePower_6, c_X8_settlePower_7, c_X8_settlePower_8, c_X8_settlePower_9, c_X8_settlePower_10, c_X8_settlePower_11, c_X8_settlePower_12, c_X8_settlePower_13, c_X8_settlePower_14, c_X8_settlePower_15, c_X8_settlePower_16, c_X8_settlePower_17, c_X8_settlePower_18, c_X8_settlePower_19, c_X8_settlePower_20, c_X8_settlePower_21, c_X8_settlePower_22, c_X8_settlePower_23, c_X8_settlePower_24, c_X8_settlePower_25, c_X8_settlePower_26, o_aload, o_bin, o_callv, o_get, o_ic, o_icmp, o_if, o_put, o_ret, z_cv0, z_cl0, z_cv1, z_cl1, z_cv2, z_cl2, z_cv3, z_cl3, z_cv4, z_cl4, z_cv5, z_cl5, z_cv6, z_cl6, z_cv7, z_cl7, z_cv8, z_cl8, z_cv9, z_cl9, z_cv10, z_cl10, z_cv11, z_cl11, z_cv12, z_cl12, z_cv13, z_cl13, z_len, z_elt, z_isI, z_isJ, Nat.reduceEqDiff, Nat.reduceLeDiff, Nat.reduceLT, Nat.reduceSub, Nat.reduceMul, not_false_eq_true, not_true_eq_false, true_and, and_true, true_or, or_true, false_or, or_false, true_implies, false_implies, implies_true, forall_const, and_self, ne_eq, Classical.not_not, z_up1, z_up2, z_cp1, z_cp2, z_upL1, z_upL2, if_true, if_false, and_false, false_and, c1, e2, c3]) | (refine s_readersOn ?_) | (refine s_hasPower ?_) | (refine s_flag ?_) | (refine s_fade ?_) | (with_reducible refine And.intro ?_ ?_) | (with_reducible intro _) | (with_reducible refine z_go (i := 4) (cut := [4, 12, 20, 26]) 29 ?_) | (with_reducible refine z_go (i := 12) (cut := [4, 12, 20, 26]) 29 ?_) | (with_reducible refine z_go (i := 20) (cut := [4, 12, 20, 26]) 29 ?_) | (with_reducible refine z_go (i := 26) (cut := [4, 12, 20, 26]) 29 ?_))
        all_goals (first | (with_reducible exact q) | ((try simp only [ge_iff_le, gt_iff_lt, ← Int32.not_lt, Classical.not_not] at *); (first | (with_reducible rfl) | rfl | (with_reducible exact z_vi_24 (by assumption) (by assumption)) | (with_reducible exact z_vi_4 (by assumption) (by assumption)) | (with_reducible exact z_vi_512 (by assumption) (by assumption)) | (with_reducible exact z_vi_14 (by assumption) (by assumption)) | (with_reducible exact z_vi_8 (by assumption) (by assumption)) | (with_reducible exact z_vinN (by assumption) (by assumption) (by decide)) | (with_reducible exact z_vin1 (by assumption) (by assumption) (by decide)) | ((try simp only [ge_iff_le, gt_iff_lt, ← Int32.not_lt, Classical.not_not] at q); (try simp only [*, if_true, if_false, ite_self, true_or, or_true, false_or, or_false, true_and, and_true, false_and, and_false, not_true_eq_false, not_false_eq_true, cond_true, cond_false, decide_true, decide_false, Bool.true_and, Bool.and_true, Bool.false_and, Bool.and_false, Bool.true_or, Bool.or_true, Bool.false_or, Bool.or_false, Bool.not_true, Bool.not_false, ne_eq, Nat.reduceEqDiff] at q); with_reducible exact q))) | (simp_all; done))
      · rw [if_neg c3] at q
        refine e_X8_settlePower rfl rfl ?_
        refine z_wp_run (cut := [4, 12, 20, 26]) 29 _ _ _ _ ?_
        repeat' (first | (simp only [z_wp, Bool.false_eq_true, ↓reduceIte, z_e10, z_e01, eq_self, Int32.reduceLT, Int32.reduceLE, Int32.reduceGT, Int32.reduceGE, z_in, cond_true, cond_false, Nat.reduceAdd, Nat.reduceBEq, z_nth, z_set, z_clr, z_st1, z_st2, z_isL, z_opt, z_pop, z_cats, z_cat, c_X8_settlePower_0, c_X8_settlePower_1, c_X8_settlePower_2, c_X8_settlePower_3, c_X8_settlePower_4, c_X8_settlePower_5, c_X8_settlePower_6, c_X8_settlePower_7, c_X8_settlePower_8, c_X8_settlePower_9, c_X8_settlePower_10, c_X8_settlePower_11, c_X8_settlePower_12, c_X8_settlePower_13, c_X8_settlePower_14, c_X8_settlePower_15, c_X8_settlePower_16, c_X8_settlePower_17, c_X8_settlePower_18, c_X8_settlePower_19, c_X8_settlePower_20, c_X8_settlePower_21, c_X8_settlePower_22, c_X8_settlePower_23, c_X8_settlePower_24, c_X8_settlePower_25, c_X8_settlePower_26, o_aload, o_bin, o_callv, o_get, o_ic, o_icmp, o_if, o_put, o_ret, z_cv0, z_cl0, z_cv1, z_cl1, z_cv2, z_cl2, z_cv3, z_cl3, z_cv4, z_cl4, z_cv5, z_cl5, z_cv6, z_cl6, z_cv7, z_cl7, z_cv8, z_cl8, z_cv9, z_cl9, z_cv10, z_cl10, z_cv11, z_cl11, z_cv12, z_cl12, z_cv13, z_cl13, z_len, z_elt, z_isI, z_isJ, Nat.reduceEqDiff, Nat.reduceLeDiff, Nat.reduceLT, Nat.reduceSub, Nat.reduceMul, not_false_eq_true, not_true_eq_false, true_and, and_true, true_or, or_true, false_or, or_false, true_implies, false_implies, implies_true, forall_const, and_self, ne_eq, Classical.not_not, z_up1, z_up2, z_cp1, z_cp2, z_upL1, z_upL2, if_true, if_false, and_false, false_and, c1, e2, c3]) | (refine s_readersOn ?_) | (refine s_hasPower ?_) | (refine s_flag ?_) | (refine s_fade ?_) | (with_reducible refine And.intro ?_ ?_) | (with_reducible intro _) | (with_reducible refine z_go (i := 4) (cut := [4, 12, 20, 26]) 29 ?_) | (with_reducible refine z_go (i := 12) (cut := [4, 12, 20, 26]) 29 ?_) | (with_reducible refine z_go (i := 20) (cut := [4, 12, 20, 26]) 29 ?_) | (with_reducible refine z_go (i := 26) (cut := [4, 12, 20, 26]) 29 ?_))
        all_goals (first | (with_reducible exact q) | ((try simp only [ge_iff_le, gt_iff_lt, ← Int32.not_lt, Classical.not_not] at *); (first | (with_reducible rfl) | rfl | (with_reducible exact z_vi_24 (by assumption) (by assumption)) | (with_reducible exact z_vi_4 (by assumption) (by assumption)) | (with_reducible exact z_vi_512 (by assumption) (by assumption)) | (with_reducible exact z_vi_14 (by assumption) (by assumption)) | (with_reducible exact z_vi_8 (by assumption) (by assumption)) | (with_reducible exact z_vinN (by assumption) (by assumption) (by decide)) | (with_reducible exact z_vin1 (by assumption) (by assumption) (by decide)) | ((try simp only [ge_iff_le, gt_iff_lt, ← Int32.not_lt, Classical.not_not] at q); (try simp only [*, if_true, if_false, ite_self, true_or, or_true, false_or, or_false, true_and, and_true, false_and, and_false, not_true_eq_false, not_false_eq_true, cond_true, cond_false, decide_true, decide_false, Bool.true_and, Bool.and_true, Bool.false_and, Bool.and_false, Bool.true_or, Bool.or_true, Bool.false_or, Bool.or_false, Bool.not_true, Bool.not_false, ne_eq, Nat.reduceEqDiff] at q); with_reducible exact q))) | (simp_all; done))
    · have e2 : r_hasPower M w i = 0 := if_neg c2
      simp only [if_neg c2] at q
      by_cases c3 : r_flag M w i 0 = 1
      · rw [if_pos c3] at q
        refine e_X8_settlePower rfl rfl ?_
        refine z_wp_run (cut := [4, 12, 20, 26]) 29 _ _ _ _ ?_
        repeat' (first | (simp only [z_wp, Bool.false_eq_true, ↓reduceIte, z_e10, z_e01, eq_self, Int32.reduceLT, Int32.reduceLE, Int32.reduceGT, Int32.reduceGE, z_in, cond_true, cond_false, Nat.reduceAdd, Nat.reduceBEq, z_nth, z_set, z_clr, z_st1, z_st2, z_isL, z_opt, z_pop, z_cats, z_cat, c_X8_settlePower_0, c_X8_settlePower_1, c_X8_settlePower_2, c_X8_settlePower_3, c_X8_settlePower_4, c_X8_settlePower_5, c_X8_settlePower_6, c_X8_settlePower_7, c_X8_settlePower_8, c_X8_settlePower_9, c_X8_settlePower_10, c_X8_settlePower_11, c_X8_settlePower_12, c_X8_settlePower_13, c_X8_settlePower_14, c_X8_settlePower_15, c_X8_settlePower_16, c_X8_settlePower_17, c_X8_settlePower_18, c_X8_settlePower_19, c_X8_settlePower_20, c_X8_settlePower_21, c_X8_settlePower_22, c_X8_settlePower_23, c_X8_settlePower_24, c_X8_settlePower_25, c_X8_settlePower_26, o_aload, o_bin, o_callv, o_get, o_ic, o_icmp, o_if, o_put, o_ret, z_cv0, z_cl0, z_cv1, z_cl1, z_cv2, z_cl2, z_cv3, z_cl3, z_cv4, z_cl4, z_cv5, z_cl5, z_cv6, z_cl6, z_cv7, z_cl7, z_cv8, z_cl8, z_cv9, z_cl9, z_cv10, z_cl10, z_cv11, z_cl11, z_cv12, z_cl12, z_cv13, z_cl13, z_len, z_elt, z_isI, z_isJ, Nat.reduceEqDiff, Nat.reduceLeDiff, Nat.reduceLT, Nat.reduceSub, Nat.reduceMul, not_false_eq_true, not_true_eq_false, true_and, and_true, true_or, or_true, false_or, or_false, true_implies, false_implies, implies_true, forall_const, and_self, ne_eq, Classical.not_not, z_up1, z_up2, z_cp1, z_cp2, z_upL1, z_upL2, if_true, if_false, and_false, false_and, c1, e2, c3]) | (refine s_readersOn ?_) | (refine s_hasPower ?_) | (refine s_flag ?_) | (refine s_fade ?_) | (with_reducible refine And.intro ?_ ?_) | (with_reducible intro _) | (with_reducible refine z_go (i := 4) (cut := [4, 12, 20, 26]) 29 ?_) | (with_reducible refine z_go (i := 12) (cut := [4, 12, 20, 26]) 29 ?_) | (with_reducible refine z_go (i := 20) (cut := [4, 12, 20, 26]) 29 ?_) | (with_reducible refine z_go (i := 26) (cut := [4, 12, 20, 26]) 29 ?_))
        all_goals (first | (with_reducible exact q) | ((try simp only [ge_iff_le, gt_iff_lt, ← Int32.not_lt, Classical.not_not] at *); (first | (with_reducible rfl) | rfl | (with_reducible exact z_vi_24 (by assumption) (by assumption)) | (with_reducible exact z_vi_4 (by assumption) (by assumption)) | (with_reducible exact z_vi_512 (by assumption) (by assumption)) | (with_reducible exact z_vi_14 (by assumption) (by assumption)) | (with_reducible exact z_vi_8 (by assumption) (by assumption)) | (with_reducible exact z_vinN (by assumption) (by assumption) (by decide)) | (with_reducible exact z_vin1 (by assumption) (by assumption) (by decide)) | ((try simp only [ge_iff_le, gt_iff_lt, ← Int32.not_lt, Classical.not_not] at q); (try simp only [*, if_true, if_false, ite_self, true_or, or_true, false_or, or_false, true_and, and_true, false_and, and_false, not_true_eq_false, not_false_eq_true, cond_true, cond_false, decide_true, decide_false, Bool.true_and, Bool.and_true, Bool.false_and, Bool.and_false, Bool.true_or, Bool.or_true, Bool.false_or, Bool.or_false, Bool.not_true, Bool.not_false, ne_eq, Nat.reduceEqDiff] at q); with_reducible exact q))) | (simp_all; done))
      · rw [if_neg c3] at q
        refine e_X8_settlePower rfl rfl ?_
        refine z_wp_run (cut := [4, 12, 20, 26]) 29 _ _ _ _ ?_
        repeat' (first | (simp only [z_wp, Bool.false_eq_true, ↓reduceIte, z_e10, z_e01, eq_self, Int32.reduceLT, Int32.reduceLE, Int32.reduceGT, Int32.reduceGE, z_in, cond_true, cond_false, Nat.reduceAdd, Nat.reduceBEq, z_nth, z_set, z_clr, z_st1, z_st2, z_isL, z_opt, z_pop, z_cats, z_cat, c_X8_settlePower_0, c_X8_settlePower_1, c_X8_settlePower_2, c_X8_settlePower_3, c_X8_settlePower_4, c_X8_settlePower_5, c_X8_settlePower_6, c_X8_settlePower_7, c_X8_settlePower_8, c_X8_settlePower_9, c_X8_settlePower_10, c_X8_settlePower_11, c_X8_settlePower_12, c_X8_settlePower_13, c_X8_settlePower_14, c_X8_settlePower_15, c_X8_settlePower_16, c_X8_settlePower_17, c_X8_settlePower_18, c_X8_settlePower_19, c_X8_settlePower_20, c_X8_settlePower_21, c_X8_settlePower_22, c_X8_settlePower_23, c_X8_settlePower_24, c_X8_settlePower_25, c_X8_settlePower_26, o_aload, o_bin, o_callv, o_get, o_ic, o_icmp, o_if, o_put, o_ret, z_cv0, z_cl0, z_cv1, z_cl1, z_cv2, z_cl2, z_cv3, z_cl3, z_cv4, z_cl4, z_cv5, z_cl5, z_cv6, z_cl6, z_cv7, z_cl7, z_cv8, z_cl8, z_cv9, z_cl9, z_cv10, z_cl10, z_cv11, z_cl11, z_cv12, z_cl12, z_cv13, z_cl13, z_len, z_elt, z_isI, z_isJ, Nat.reduceEqDiff, Nat.reduceLeDiff, Nat.reduceLT, Nat.reduceSub, Nat.reduceMul, not_false_eq_true, not_true_eq_false, true_and, and_true, true_or, or_true, false_or, or_false, true_implies, false_implies, implies_true, forall_const, and_self, ne_eq, Classical.not_not, z_up1, z_up2, z_cp1, z_cp2, z_upL1, z_upL2, if_true, if_false, and_false, false_and, c1, e2, c3]) | (refine s_readersOn ?_) | (refine s_hasPower ?_) | (refine s_flag ?_) | (refine s_fade ?_) | (with_reducible refine And.intro ?_ ?_) | (with_reducible intro _) | (with_reducible refine z_go (i := 4) (cut := [4, 12, 20, 26]) 29 ?_) | (with_reducible refine z_go (i := 12) (cut := [4, 12, 20, 26]) 29 ?_) | (with_reducible refine z_go (i := 20) (cut := [4, 12, 20, 26]) 29 ?_) | (with_reducible refine z_go (i := 26) (cut := [4, 12, 20, 26]) 29 ?_))
        all_goals (first | (with_reducible exact q) | ((try simp only [ge_iff_le, gt_iff_lt, ← Int32.not_lt, Classical.not_not] at *); (first | (with_reducible rfl) | rfl | (with_reducible exact z_vi_24 (by assumption) (by assumption)) | (with_reducible exact z_vi_4 (by assumption) (by assumption)) | (with_reducible exact z_vi_512 (by assumption) (by assumption)) | (with_reducible exact z_vi_14 (by assumption) (by assumption)) | (with_reducible exact z_vi_8 (by assumption) (by assumption)) | (with_reducible exact z_vinN (by assumption) (by assumption) (by decide)) | (with_reducible exact z_vin1 (by assumption) (by assumption) (by decide)) | ((try simp only [ge_iff_le, gt_iff_lt, ← Int32.not_lt, Classical.not_not] at q); (try simp only [*, if_true, if_false, ite_self, true_or, or_true, false_or, or_false, true_and, and_true, false_and, and_false, not_true_eq_false, not_false_eq_true, cond_true, cond_false, decide_true, decide_false, Bool.true_and, Bool.and_true, Bool.false_and, Bool.and_false, Bool.true_or, Bool.or_true, Bool.false_or, Bool.or_false, Bool.not_true, Bool.not_false, ne_eq, Nat.reduceEqDiff] at q); with_reducible exact q))) | (simp_all; done))
  · rw [if_neg c1] at q
    refine e_X8_settlePower rfl rfl ?_
    refine z_wp_run (cut := [4, 12, 20, 26]) 29 _ _ _ _ ?_
    repeat' (first | (simp only [z_wp, Bool.false_eq_true, ↓reduceIte, z_e10, z_e01, eq_self, Int32.reduceLT, Int32.reduceLE, Int32.reduceGT, Int32.reduceGE, z_in, cond_true, cond_false, Nat.reduceAdd, Nat.reduceBEq, z_nth, z_set, z_clr, z_st1, z_st2, z_isL, z_opt, z_pop, z_cats, z_cat, c_X8_settlePower_0, c_X8_settlePower_1, c_X8_settlePower_2, c_X8_settlePower_3, c_X8_settlePower_4, c_X8_settlePower_5, c_X8_settlePower_6, c_X8_settlePower_7, c_X8_settlePower_8, c_X8_settlePower_9, c_X8_settlePower_10, c_X8_settlePower_11, c_X8_settlePower_12, c_X8_settlePower_13, c_X8_settlePower_14, c_X8_settlePower_15, c_X8_settlePower_16, c_X8_settlePower_17, c_X8_settlePower_18, c_X8_settlePower_19, c_X8_settlePower_20, c_X8_settlePower_21, c_X8_settlePower_22, c_X8_settlePower_23, c_X8_settlePower_24, c_X8_settlePower_25, c_X8_settlePower_26, o_aload, o_bin, o_callv, o_get, o_ic, o_icmp, o_if, o_put, o_ret, z_cv0, z_cl0, z_cv1, z_cl1, z_cv2, z_cl2, z_cv3, z_cl3, z_cv4, z_cl4, z_cv5, z_cl5, z_cv6, z_cl6, z_cv7, z_cl7, z_cv8, z_cl8, z_cv9, z_cl9, z_cv10, z_cl10, z_cv11, z_cl11, z_cv12, z_cl12, z_cv13, z_cl13, z_len, z_elt, z_isI, z_isJ, Nat.reduceEqDiff, Nat.reduceLeDiff, Nat.reduceLT, Nat.reduceSub, Nat.reduceMul, not_false_eq_true, not_true_eq_false, true_and, and_true, true_or, or_true, false_or, or_false, true_implies, false_implies, implies_true, forall_const, and_self, ne_eq, Classical.not_not, z_up1, z_up2, z_cp1, z_cp2, z_upL1, z_upL2, if_true, if_false, and_false, false_and, c1]) | (refine s_readersOn ?_) | (refine s_hasPower ?_) | (refine s_flag ?_) | (refine s_fade ?_) | (with_reducible refine And.intro ?_ ?_) | (with_reducible intro _) | (with_reducible refine z_go (i := 4) (cut := [4, 12, 20, 26]) 29 ?_) | (with_reducible refine z_go (i := 12) (cut := [4, 12, 20, 26]) 29 ?_) | (with_reducible refine z_go (i := 20) (cut := [4, 12, 20, 26]) 29 ?_) | (with_reducible refine z_go (i := 26) (cut := [4, 12, 20, 26]) 29 ?_))
    all_goals (first | (with_reducible exact q) | ((try simp only [ge_iff_le, gt_iff_lt, ← Int32.not_lt, Classical.not_not] at *); (first | (with_reducible rfl) | rfl | (with_reducible exact z_vi_24 (by assumption) (by assumption)) | (with_reducible exact z_vi_4 (by assumption) (by assumption)) | (with_reducible exact z_vi_512 (by assumption) (by assumption)) | (with_reducible exact z_vi_14 (by assumption) (by assumption)) | (with_reducible exact z_vi_8 (by assumption) (by assumption)) | (with_reducible exact z_vinN (by assumption) (by assumption) (by decide)) | (with_reducible exact z_vin1 (by assumption) (by assumption) (by decide)) | ((try simp only [ge_iff_le, gt_iff_lt, ← Int32.not_lt, Classical.not_not] at q); (try simp only [*, if_true, if_false, ite_self, true_or, or_true, false_or, or_false, true_and, and_true, false_and, and_false, not_true_eq_false, not_false_eq_true, cond_true, cond_false, decide_true, decide_false, Bool.true_and, Bool.and_true, Bool.false_and, Bool.and_false, Bool.true_or, Bool.or_true, Bool.false_or, Bool.or_false, Bool.not_true, Bool.not_false, ne_eq, Nat.reduceEqDiff] at q); with_reducible exact q))) | (simp_all; done))
theorem e_X8_fadeByTime {h : Nat} {a0 : zId} {a1 : zId} {M : zMem} {K : zK} (ha0 : (a0.1 == 99) = false) (ha1 : (a1.1 == 99) = false) (q : z_run (z_nop k_X8_fadeByTime) (z_call h) K 0 [.inr (.inr a0), .inr (.inr a1), z_un] [] M) : z_call (h + 1) 103 [.inr (.inr a0), .inr (.inr a1)] M K := ⟨by simp only [List.all_cons, List.all_nil, z_isU, ha0, ha1]; rfl, q⟩
theorem c_X8_fadeByTime_0 : z_nop k_X8_fadeByTime 0 = o_ic 1 := rfl
theorem c_X8_fadeByTime_1 : z_nop k_X8_fadeByTime 1 = o_istore 2 := rfl
theorem c_X8_fadeByTime_2 : z_nop k_X8_fadeByTime 2 = o_iload 2 := rfl
theorem c_X8_fadeByTime_3 : z_nop k_X8_fadeByTime 3 = o_ic 5 := rfl
theorem c_X8_fadeByTime_4 : z_nop k_X8_fadeByTime 4 = o_icmp (fun x y => x ≥ y) 24 := rfl
theorem c_X8_fadeByTime_5 : z_nop k_X8_fadeByTime 5 = o_aload 1 := rfl
theorem c_X8_fadeByTime_6 : z_nop k_X8_fadeByTime 6 = o_get 7 3 := rfl
theorem c_X8_fadeByTime_7 : z_nop k_X8_fadeByTime 7 = o_if (fun x => x = 0) 24 := rfl
theorem c_X8_fadeByTime_8 : z_nop k_X8_fadeByTime 8 = o_aload 1 := rfl
theorem c_X8_fadeByTime_9 : z_nop k_X8_fadeByTime 9 = o_iload 2 := rfl
theorem c_X8_fadeByTime_10 : z_nop k_X8_fadeByTime 10 = o_callv 7 81 2 := rfl
theorem c_X8_fadeByTime_11 : z_nop k_X8_fadeByTime 11 = o_ic 1 := rfl
theorem c_X8_fadeByTime_12 : z_nop k_X8_fadeByTime 12 = o_icmp (fun x y => x ≠ y) 22 := rfl
theorem c_X8_fadeByTime_13 : z_nop k_X8_fadeByTime 13 = o_aload 0 := rfl
theorem c_X8_fadeByTime_14 : z_nop k_X8_fadeByTime 14 = o_aload 1 := rfl
theorem c_X8_fadeByTime_15 : z_nop k_X8_fadeByTime 15 = o_iload 2 := rfl
theorem c_X8_fadeByTime_16 : z_nop k_X8_fadeByTime 16 = o_callv 9 104 3 := rfl
theorem c_X8_fadeByTime_17 : z_nop k_X8_fadeByTime 17 = o_if (fun x => x = 0) 22 := rfl
theorem c_X8_fadeByTime_18 : z_nop k_X8_fadeByTime 18 = o_aload 0 := rfl
theorem c_X8_fadeByTime_19 : z_nop k_X8_fadeByTime 19 = o_aload 1 := rfl
theorem c_X8_fadeByTime_20 : z_nop k_X8_fadeByTime 20 = o_iload 2 := rfl
theorem c_X8_fadeByTime_21 : z_nop k_X8_fadeByTime 21 = o_callv 9 100 3 := rfl
theorem c_X8_fadeByTime_22 : z_nop k_X8_fadeByTime 22 = o_iinc 2 1 := rfl
theorem c_X8_fadeByTime_23 : z_nop k_X8_fadeByTime 23 = o_goto 2 := rfl
theorem c_X8_fadeByTime_24 : z_nop k_X8_fadeByTime 24 = o_ret := rfl

def f_fbt (w i f : Nat) (M : zMem) : zMem := if r_flag M w i (nI f) = 1 ∧ ¬ r_hasRunOut M w i (nI f) = 0 then m_fade M w i (nI f) else M
def m_fbt (w i : Nat) : Nat → Nat → zMem → zMem
  | 0, _, M => M
  | k + 1, f, M => if M.1 7 w i 3 = 0 then M else m_fbt w i k (f + 1) (f_fbt w i f M)
theorem z_lt5 {n : Nat} (h : n < 5) : (nI n < 5) = True ∧ (nI n ≥ 5) = False ∧ vp_in (nI n) 5 = True ∧ (nI n).toNatClampNeg = n ∧ nI n + 1 = nI (n + 1) := z_lt (N := 5) h (by decide)
theorem z_eq5 : (nI 5 < 5) = False ∧ (nI 5 ≥ 5) = True := z_eqN (N := 5)
set_option maxRecDepth 100000 in
theorem s_fbt {h w i : Nat} {M : zMem} {K : zK} (q : K none (m_fbt w i 4 1 M)) : z_call (h + 4) 103 [.inr (.inr (9, w, 0)), .inr (.inr (7, w, i))] M K := by
  refine e_X8_fadeByTime rfl rfl ?_
  refine z_wp_run (cut := [2, 11, 17, 22]) 27 _ _ _ _ ?_
  repeat' (first | (simp only [z_wp, Bool.false_eq_true, ↓reduceIte, z_e10, z_e01, eq_self, Int32.reduceLT, Int32.reduceLE, Int32.reduceGT, Int32.reduceGE, z_in, cond_true, cond_false, Nat.reduceAdd, Nat.reduceBEq, z_nth, z_set, z_clr, z_st1, z_st2, z_isL, z_opt, z_pop, z_cats, z_cat, c_X8_fadeByTime_0, c_X8_fadeByTime_1, c_X8_fadeByTime_2, c_X8_fadeByTime_3, c_X8_fadeByTime_4, c_X8_fadeByTime_5, c_X8_fadeByTime_6, c_X8_fadeByTime_7, c_X8_fadeByTime_8, c_X8_fadeByTime_9, c_X8_fadeByTime_10, c_X8_fadeByTime_11, c_X8_fadeByTime_12, c_X8_fadeByTime_13, c_X8_fadeByTime_14, c_X8_fadeByTime_15, c_X8_fadeByTime_16, c_X8_fadeByTime_17, c_X8_fadeByTime_18, c_X8_fadeByTime_19, c_X8_fadeByTime_20, c_X8_fadeByTime_21, c_X8_fadeByTime_22, c_X8_fadeByTime_23, c_X8_fadeByTime_24, o_aload, o_callv, o_get, o_goto, o_ic, o_icmp, o_if, o_iinc, o_iload, o_istore, o_ret, z_cv0, z_cl0, z_cv1, z_cl1, z_cv2, z_cl2, z_cv3, z_cl3, z_cv4, z_cl4, z_cv5, z_cl5, z_cv6, z_cl6, z_cv7, z_cl7, z_cv8, z_cl8, z_cv9, z_cl9, z_cv10, z_cl10, z_cv11, z_cl11, z_cv12, z_cl12, z_cv13, z_cl13, z_len, z_elt, z_isI, z_isJ, Nat.reduceEqDiff, Nat.reduceLeDiff, Nat.reduceLT, Nat.reduceSub, Nat.reduceMul, not_false_eq_true, not_true_eq_false, true_and, and_true, true_or, or_true, false_or, or_false, true_implies, false_implies, implies_true, forall_const, and_self, ne_eq, Classical.not_not, z_up1, z_up2, z_cp1, z_cp2, z_upL1, z_upL2, if_true, if_false, and_false, false_and]) | (with_reducible refine And.intro ?_ ?_) | (with_reducible intro _) | (with_reducible refine z_go (i := 11) (cut := [2, 11, 17, 22]) 27 ?_) | (with_reducible refine z_go (i := 17) (cut := [2, 11, 17, 22]) 27 ?_) | (with_reducible refine z_go (i := 22) (cut := [2, 11, 17, 22]) 27 ?_))
  refine z_loop (fun n => ∀ M, K none (m_fbt w i (5 - n) n M) → z_run (z_nop k_X8_fadeByTime) (z_call (h + 3)) K 2 [.inr (.inr (9, w, 0)), .inr (.inr (7, w, i)), .inl (nI n)] [] M) 5 ?_ ?_ 1 (by omega) M q
  · intro M q
    obtain ⟨f1, f2⟩ := z_eq5
    refine z_go (cut := [2, 11, 17, 22]) 27 ?_
    simp only [z_wp, Bool.false_eq_true, ↓reduceIte, z_e10, z_e01, eq_self, Int32.reduceLT, Int32.reduceLE, Int32.reduceGT, Int32.reduceGE, z_in, cond_true, cond_false, Nat.reduceAdd, Nat.reduceBEq, z_nth, z_set, z_clr, z_st1, z_st2, z_isL, z_opt, z_pop, z_cats, z_cat, c_X8_fadeByTime_0, c_X8_fadeByTime_1, c_X8_fadeByTime_2, c_X8_fadeByTime_3, c_X8_fadeByTime_4, c_X8_fadeByTime_5, c_X8_fadeByTime_6, c_X8_fadeByTime_7, c_X8_fadeByTime_8, c_X8_fadeByTime_9, c_X8_fadeByTime_10, c_X8_fadeByTime_11, c_X8_fadeByTime_12, c_X8_fadeByTime_13, c_X8_fadeByTime_14, c_X8_fadeByTime_15, c_X8_fadeByTime_16, c_X8_fadeByTime_17, c_X8_fadeByTime_18, c_X8_fadeByTime_19, c_X8_fadeByTime_20, c_X8_fadeByTime_21, c_X8_fadeByTime_22, c_X8_fadeByTime_23, c_X8_fadeByTime_24, o_aload, o_callv, o_get, o_goto, o_ic, o_icmp, o_if, o_iinc, o_iload, o_istore, o_ret, z_cv0, z_cl0, z_cv1, z_cl1, z_cv2, z_cl2, z_cv3, z_cl3, z_cv4, z_cl4, z_cv5, z_cl5, z_cv6, z_cl6, z_cv7, z_cl7, z_cv8, z_cl8, z_cv9, z_cl9, z_cv10, z_cl10, z_cv11, z_cl11, z_cv12, z_cl12, z_cv13, z_cl13, z_len, z_elt, z_isI, z_isJ, Nat.reduceEqDiff, Nat.reduceLeDiff, Nat.reduceLT, Nat.reduceSub, Nat.reduceMul, not_false_eq_true, not_true_eq_false, true_and, and_true, true_or, or_true, false_or, or_false, true_implies, false_implies, implies_true, forall_const, and_self, ne_eq, Classical.not_not, z_up1, z_up2, z_cp1, z_cp2, z_upL1, z_upL2, if_true, if_false, and_false, false_and, f1, f2]
    exact q
  · intro n hn ih M q
    obtain ⟨f1, f2, f3, f4, f5⟩ := z_lt5 hn
    rw [show 5 - n = (5 - (n + 1)) + 1 by omega] at q
    unfold m_fbt f_fbt at q
    have fin2 : ∀ M2, K none (m_fbt w i (5 - (n + 1)) (n + 1) M2) → z_run (z_nop k_X8_fadeByTime) (z_call (h + 3)) K 22 [.inr (.inr (9, w, 0)), .inr (.inr (7, w, i)), .inl (nI n)] [] M2 := by
      intro M2 q2
      refine z_go (cut := [2, 11, 17, 22]) 27 ?_
      simp only [z_wp, Bool.false_eq_true, ↓reduceIte, z_e10, z_e01, eq_self, Int32.reduceLT, Int32.reduceLE, Int32.reduceGT, Int32.reduceGE, z_in, cond_true, cond_false, Nat.reduceAdd, Nat.reduceBEq, z_nth, z_set, z_clr, z_st1, z_st2, z_isL, z_opt, z_pop, z_cats, z_cat, c_X8_fadeByTime_0, c_X8_fadeByTime_1, c_X8_fadeByTime_2, c_X8_fadeByTime_3, c_X8_fadeByTime_4, c_X8_fadeByTime_5, c_X8_fadeByTime_6, c_X8_fadeByTime_7, c_X8_fadeByTime_8, c_X8_fadeByTime_9, c_X8_fadeByTime_10, c_X8_fadeByTime_11, c_X8_fadeByTime_12, c_X8_fadeByTime_13, c_X8_fadeByTime_14, c_X8_fadeByTime_15, c_X8_fadeByTime_16, c_X8_fadeByTime_17, c_X8_fadeByTime_18, c_X8_fadeByTime_19, c_X8_fadeByTime_20, c_X8_fadeByTime_21, c_X8_fadeByTime_22, c_X8_fadeByTime_23, c_X8_fadeByTime_24, o_aload, o_callv, o_get, o_goto, o_ic, o_icmp, o_if, o_iinc, o_iload, o_istore, o_ret, z_cv0, z_cl0, z_cv1, z_cl1, z_cv2, z_cl2, z_cv3, z_cl3, z_cv4, z_cl4, z_cv5, z_cl5, z_cv6, z_cl6, z_cv7, z_cl7, z_cv8, z_cl8, z_cv9, z_cl9, z_cv10, z_cl10, z_cv11, z_cl11, z_cv12, z_cl12, z_cv13, z_cl13, z_len, z_elt, z_isI, z_isJ, Nat.reduceEqDiff, Nat.reduceLeDiff, Nat.reduceLT, Nat.reduceSub, Nat.reduceMul, not_false_eq_true, not_true_eq_false, true_and, and_true, true_or, or_true, false_or, or_false, true_implies, false_implies, implies_true, forall_const, and_self, ne_eq, Classical.not_not, z_up1, z_up2, z_cp1, z_cp2, z_upL1, z_upL2, if_true, if_false, and_false, false_and, f1, f2, f5]
      exact ih M2 q2
    refine z_go (cut := [2, 11, 17, 22]) 40 ?_
    simp only [z_wp, Bool.false_eq_true, ↓reduceIte, z_e10, z_e01, eq_self, Int32.reduceLT, Int32.reduceLE, Int32.reduceGT, Int32.reduceGE, z_in, cond_true, cond_false, Nat.reduceAdd, Nat.reduceBEq, z_nth, z_set, z_clr, z_st1, z_st2, z_isL, z_opt, z_pop, z_cats, z_cat, c_X8_fadeByTime_0, c_X8_fadeByTime_1, c_X8_fadeByTime_2, c_X8_fadeByTime_3, c_X8_fadeByTime_4, c_X8_fadeByTime_5, c_X8_fadeByTime_6, c_X8_fadeByTime_7, c_X8_fadeByTime_8, c_X8_fadeByTime_9, c_X8_fadeByTime_10, c_X8_fadeByTime_11, c_X8_fadeByTime_12, c_X8_fadeByTime_13, c_X8_fadeByTime_14, c_X8_fadeByTime_15, c_X8_fadeByTime_16, c_X8_fadeByTime_17, c_X8_fadeByTime_18, c_X8_fadeByTime_19, c_X8_fadeByTime_20, c_X8_fadeByTime_21, c_X8_fadeByTime_22, c_X8_fadeByTime_23, c_X8_fadeByTime_24, o_aload, o_callv, o_get, o_goto, o_ic, o_icmp, o_if, o_iinc, o_iload, o_istore, o_ret, z_cv0, z_cl0, z_cv1, z_cl1, z_cv2, z_cl2, z_cv3, z_cl3, z_cv4, z_cl4, z_cv5, z_cl5, z_cv6, z_cl6, z_cv7, z_cl7, z_cv8, z_cl8, z_cv9, z_cl9, z_cv10, z_cl10, z_cv11, z_cl11, z_cv12, z_cl12, z_cv13, z_cl13, z_len, z_elt, z_isI, z_isJ, Nat.reduceEqDiff, Nat.reduceLeDiff, Nat.reduceLT, Nat.reduceSub, Nat.reduceMul, not_false_eq_true, not_true_eq_false, true_and, and_true, true_or, or_true, false_or, or_false, true_implies, false_implies, implies_true, forall_const, and_self, ne_eq, Classical.not_not, z_up1, z_up2, z_cp1, z_cp2, z_upL1, z_upL2, if_true, if_false, and_false, false_and, f1, f2, f5]
    refine ⟨fun c => ?_, fun c => ?_⟩
    · rw [if_pos c] at q
      exact q
    · rw [if_neg c] at q
      refine s_flag ?_
      refine z_go (cut := [2, 11, 17, 22]) 40 ?_
      simp only [z_wp, Bool.false_eq_true, ↓reduceIte, z_e10, z_e01, eq_self, Int32.reduceLT, Int32.reduceLE, Int32.reduceGT, Int32.reduceGE, z_in, cond_true, cond_false, Nat.reduceAdd, Nat.reduceBEq, z_nth, z_set, z_clr, z_st1, z_st2, z_isL, z_opt, z_pop, z_cats, z_cat, c_X8_fadeByTime_0, c_X8_fadeByTime_1, c_X8_fadeByTime_2, c_X8_fadeByTime_3, c_X8_fadeByTime_4, c_X8_fadeByTime_5, c_X8_fadeByTime_6, c_X8_fadeByTime_7, c_X8_fadeByTime_8, c_X8_fadeByTime_9, c_X8_fadeByTime_10, c_X8_fadeByTime_11, c_X8_fadeByTime_12, c_X8_fadeByTime_13, c_X8_fadeByTime_14, c_X8_fadeByTime_15, c_X8_fadeByTime_16, c_X8_fadeByTime_17, c_X8_fadeByTime_18, c_X8_fadeByTime_19, c_X8_fadeByTime_20, c_X8_fadeByTime_21, c_X8_fadeByTime_22, c_X8_fadeByTime_23, c_X8_fadeByTime_24, o_aload, o_callv, o_get, o_goto, o_ic, o_icmp, o_if, o_iinc, o_iload, o_istore, o_ret, z_cv0, z_cl0, z_cv1, z_cl1, z_cv2, z_cl2, z_cv3, z_cl3, z_cv4, z_cl4, z_cv5, z_cl5, z_cv6, z_cl6, z_cv7, z_cl7, z_cv8, z_cl8, z_cv9, z_cl9, z_cv10, z_cl10, z_cv11, z_cl11, z_cv12, z_cl12, z_cv13, z_cl13, z_len, z_elt, z_isI, z_isJ, Nat.reduceEqDiff, Nat.reduceLeDiff, Nat.reduceLT, Nat.reduceSub, Nat.reduceMul, not_false_eq_true, not_true_eq_false, true_and, and_true, true_or, or_true, false_or, or_false, true_implies, false_implies, implies_true, forall_const, and_self, ne_eq, Classical.not_not, z_up1, z_up2, z_cp1, z_cp2, z_upL1, z_upL2, if_true, if_false, and_false, false_and, f1, f2, f5]
      refine ⟨fun c2 => ?_, fun c2 => ?_⟩
      · rw [if_neg (fun z => c2 z.1)] at q
        exact fin2 M q
      · refine s_hasRunOut ?_
        refine z_go (cut := [2, 11, 17, 22]) 40 ?_
        simp only [z_wp, Bool.false_eq_true, ↓reduceIte, z_e10, z_e01, eq_self, Int32.reduceLT, Int32.reduceLE, Int32.reduceGT, Int32.reduceGE, z_in, cond_true, cond_false, Nat.reduceAdd, Nat.reduceBEq, z_nth, z_set, z_clr, z_st1, z_st2, z_isL, z_opt, z_pop, z_cats, z_cat, c_X8_fadeByTime_0, c_X8_fadeByTime_1, c_X8_fadeByTime_2, c_X8_fadeByTime_3, c_X8_fadeByTime_4, c_X8_fadeByTime_5, c_X8_fadeByTime_6, c_X8_fadeByTime_7, c_X8_fadeByTime_8, c_X8_fadeByTime_9, c_X8_fadeByTime_10, c_X8_fadeByTime_11, c_X8_fadeByTime_12, c_X8_fadeByTime_13, c_X8_fadeByTime_14, c_X8_fadeByTime_15, c_X8_fadeByTime_16, c_X8_fadeByTime_17, c_X8_fadeByTime_18, c_X8_fadeByTime_19, c_X8_fadeByTime_20, c_X8_fadeByTime_21, c_X8_fadeByTime_22, c_X8_fadeByTime_23, c_X8_fadeByTime_24, o_aload, o_callv, o_get, o_goto, o_ic, o_icmp, o_if, o_iinc, o_iload, o_istore, o_ret, z_cv0, z_cl0, z_cv1, z_cl1, z_cv2, z_cl2, z_cv3, z_cl3, z_cv4, z_cl4, z_cv5, z_cl5, z_cv6, z_cl6, z_cv7, z_cl7, z_cv8, z_cl8, z_cv9, z_cl9, z_cv10, z_cl10, z_cv11, z_cl11, z_cv12, z_cl12, z_cv13, z_cl13, z_len, z_elt, z_isI, z_isJ, Nat.reduceEqDiff, Nat.reduceLeDiff, Nat.reduceLT, Nat.reduceSub, Nat.reduceMul, not_false_eq_true, not_true_eq_false, true_and, and_true, true_or, or_true, false_or, or_false, true_implies, false_implies, implies_true, forall_const, and_self, ne_eq, Classical.not_not, z_up1, z_up2, z_cp1, z_cp2, z_upL1, z_upL2, if_true, if_false, and_false, false_and, f1, f2, f5]
        refine ⟨fun c3 => ?_, fun c3 => ?_⟩
        · rw [if_neg (fun z => z.2 c3)] at q
          exact fin2 M q
        · rw [if_pos ⟨c2, c3⟩] at q
          exact s_fade (fin2 _ q)
theorem e_X8_change {h : Nat} {a0 : zId} {a1 : zId} {a2 : Int32} {a3 : Int32} {M : zMem} {K : zK} (ha0 : (a0.1 == 99) = false) (ha1 : (a1.1 == 99) = false) (q : z_run (z_nop k_X8_change) (z_call h) K 0 [.inr (.inr a0), .inr (.inr a1), .inl a2, .inl a3] [] M) : z_call (h + 1) 107 [.inr (.inr a0), .inr (.inr a1), .inl a2, .inl a3] M K := ⟨by simp only [List.all_cons, List.all_nil, z_isU, ha0, ha1]; rfl, q⟩
theorem c_X8_change_0 : z_nop k_X8_change 0 = o_iload 3 := rfl
theorem c_X8_change_1 : z_nop k_X8_change 1 = o_ic 3 := rfl
theorem c_X8_change_2 : z_nop k_X8_change 2 = o_icmp (fun x y => x ≠ y) 14 := rfl
theorem c_X8_change_3 : z_nop k_X8_change 3 = o_aload 1 := rfl
theorem c_X8_change_4 : z_nop k_X8_change 4 = o_iload 2 := rfl
theorem c_X8_change_5 : z_nop k_X8_change 5 = o_ic 1 := rfl
theorem c_X8_change_6 : z_nop k_X8_change 6 = o_aload 1 := rfl
theorem c_X8_change_7 : z_nop k_X8_change 7 = o_iload 2 := rfl
theorem c_X8_change_8 : z_nop k_X8_change 8 = o_callv 7 81 2 := rfl
theorem c_X8_change_9 : z_nop k_X8_change 9 = o_bin (fun x y => x - y) := rfl
theorem c_X8_change_10 : z_nop k_X8_change 10 = o_aload 0 := rfl
theorem c_X8_change_11 : z_nop k_X8_change 11 = o_get 9 5 := rfl
theorem c_X8_change_12 : z_nop k_X8_change 12 = o_callv 7 84 4 := rfl
theorem c_X8_change_13 : z_nop k_X8_change 13 = o_goto 37 := rfl
theorem c_X8_change_14 : z_nop k_X8_change 14 = o_iload 3 := rfl
theorem c_X8_change_15 : z_nop k_X8_change 15 = o_if (fun x => x = 0) 37 := rfl
theorem c_X8_change_16 : z_nop k_X8_change 16 = o_aload 1 := rfl
theorem c_X8_change_17 : z_nop k_X8_change 17 = o_iload 2 := rfl
theorem c_X8_change_18 : z_nop k_X8_change 18 = o_iload 3 := rfl
theorem c_X8_change_19 : z_nop k_X8_change 19 = o_ic 1 := rfl
theorem c_X8_change_20 : z_nop k_X8_change 20 = o_icmp (fun x y => x ≠ y) 23 := rfl
theorem c_X8_change_21 : z_nop k_X8_change 21 = o_ic 1 := rfl
theorem c_X8_change_22 : z_nop k_X8_change 22 = o_goto 24 := rfl
theorem c_X8_change_23 : z_nop k_X8_change 23 = o_ic 0 := rfl
theorem c_X8_change_24 : z_nop k_X8_change 24 = o_iload 2 := rfl
theorem c_X8_change_25 : z_nop k_X8_change 25 = o_ic 4 := rfl
theorem c_X8_change_26 : z_nop k_X8_change 26 = o_icmp (fun x y => x ≠ y) 29 := rfl
theorem c_X8_change_27 : z_nop k_X8_change 27 = o_ic 1 := rfl
theorem c_X8_change_28 : z_nop k_X8_change 28 = o_goto 30 := rfl
theorem c_X8_change_29 : z_nop k_X8_change 29 = o_ic 0 := rfl
theorem c_X8_change_30 : z_nop k_X8_change 30 = o_icmp (fun x y => x ≠ y) 33 := rfl
theorem c_X8_change_31 : z_nop k_X8_change 31 = o_ic 1 := rfl
theorem c_X8_change_32 : z_nop k_X8_change 32 = o_goto 34 := rfl
theorem c_X8_change_33 : z_nop k_X8_change 33 = o_ic 0 := rfl
theorem c_X8_change_34 : z_nop k_X8_change 34 = o_aload 0 := rfl
theorem c_X8_change_35 : z_nop k_X8_change 35 = o_get 9 5 := rfl
theorem c_X8_change_36 : z_nop k_X8_change 36 = o_callv 7 84 4 := rfl
theorem c_X8_change_37 : z_nop k_X8_change 37 = o_ret := rfl

def m_change (M : zMem) (w i : Nat) (f d : Int32) : zMem := if d = 3 then m_setFlag M w i f (1 - r_flag M w i f) (M.1 9 w 0 5) else if d = 0 then M else m_setFlag M w i f (if (d = 1 ↔ f = 4) then 1 else 0) (M.1 9 w 0 5)
set_option maxRecDepth 100000 in
theorem s_change {h w i : Nat} {M : zMem} {f d : Int32} {K : zK} (q : K none (m_change M w i f d)) : z_call (h + 2) 107 [.inr (.inr (9, w, 0)), .inr (.inr (7, w, i)), .inl f, .inl d] M K := by
  refine e_X8_change rfl rfl ?_
  refine z_wp_run (cut := [9, 13, 37]) 40 _ _ _ _ ?_
  repeat' (first | (simp only [z_wp, Bool.false_eq_true, ↓reduceIte, z_e10, z_e01, eq_self, Int32.reduceLT, Int32.reduceLE, Int32.reduceGT, Int32.reduceGE, z_in, cond_true, cond_false, Nat.reduceAdd, Nat.reduceBEq, z_nth, z_set, z_clr, z_st1, z_st2, z_isL, z_opt, z_pop, z_cats, z_cat, c_X8_change_0, c_X8_change_1, c_X8_change_2, c_X8_change_3, c_X8_change_4, c_X8_change_5, c_X8_change_6, c_X8_change_7, c_X8_change_8, c_X8_change_9, c_X8_change_10, c_X8_change_11, c_X8_change_12, c_X8_change_13, c_X8_change_14, c_X8_change_15, c_X8_change_16, c_X8_change_17, c_X8_change_18, c_X8_change_19, c_X8_change_20, c_X8_change_21, c_X8_change_22, c_X8_change_23, c_X8_change_24, c_X8_change_25, c_X8_change_26, c_X8_change_27, c_X8_change_28, c_X8_change_29, c_X8_change_30, c_X8_change_31, c_X8_change_32, c_X8_change_33, c_X8_change_34, c_X8_change_35, c_X8_change_36, c_X8_change_37, o_aload, o_bin, o_callv, o_get, o_goto, o_ic, o_icmp, o_if, o_iload, o_ret, z_cv0, z_cl0, z_cv1, z_cl1, z_cv2, z_cl2, z_cv3, z_cl3, z_cv4, z_cl4, z_cv5, z_cl5, z_cv6, z_cl6, z_cv7, z_cl7, z_cv8, z_cl8, z_cv9, z_cl9, z_cv10, z_cl10, z_cv11, z_cl11, z_cv12, z_cl12, z_cv13, z_cl13, z_len, z_elt, z_isI, z_isJ, Nat.reduceEqDiff, Nat.reduceLeDiff, Nat.reduceLT, Nat.reduceSub, Nat.reduceMul, not_false_eq_true, not_true_eq_false, true_and, and_true, true_or, or_true, false_or, or_false, true_implies, false_implies, implies_true, forall_const, and_self, ne_eq, Classical.not_not, z_up1, z_up2, z_cp1, z_cp2, z_upL1, z_upL2, if_true, if_false, and_false, false_and]) | (refine s_flag ?_) | (refine s_setFlag ?_) | (with_reducible refine And.intro ?_ ?_) | (with_reducible intro _) | (with_reducible refine z_go (i := 9) (cut := [9, 13, 37]) 40 ?_) | (with_reducible refine z_go (i := 13) (cut := [9, 13, 37]) 40 ?_) | (with_reducible refine z_go (i := 37) (cut := [9, 13, 37]) 40 ?_))
  all_goals (first | (with_reducible exact q) | ((try simp only [ge_iff_le, gt_iff_lt, ← Int32.not_lt, Classical.not_not] at *); (first | (with_reducible rfl) | rfl | (with_reducible exact z_vi_24 (by assumption) (by assumption)) | (with_reducible exact z_vi_4 (by assumption) (by assumption)) | (with_reducible exact z_vi_512 (by assumption) (by assumption)) | (with_reducible exact z_vi_14 (by assumption) (by assumption)) | (with_reducible exact z_vi_8 (by assumption) (by assumption)) | (with_reducible exact z_vinN (by assumption) (by assumption) (by decide)) | (with_reducible exact z_vin1 (by assumption) (by assumption) (by decide)) | ((try simp only [m_change] at q); (try simp only [ge_iff_le, gt_iff_lt, ← Int32.not_lt, Classical.not_not] at q); (try simp only [*, if_true, if_false, ite_self, true_or, or_true, false_or, or_false, true_and, and_true, false_and, and_false, not_true_eq_false, not_false_eq_true, cond_true, cond_false, decide_true, decide_false, Bool.true_and, Bool.and_true, Bool.false_and, Bool.and_false, Bool.true_or, Bool.or_true, Bool.false_or, Bool.or_false, Bool.not_true, Bool.not_false, ne_eq, Nat.reduceEqDiff] at q); with_reducible exact q))) | (simp_all [m_change]; done))
