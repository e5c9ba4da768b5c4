/-! Tag -/
theorem e_X6_arrive {h : Nat} {a0 : zId} {a1 : Int32} {a2 : Int32} {M : zMem} {K : zK} (ha0 : (a0.1 == 99) = false) (q : z_run (z_nop k_X6_arrive) (z_call h) K 0 [.inr (.inr a0), .inl a1, .inl a2] [] M) : z_call (h + 1) 76 [.inr (.inr a0), .inl a1, .inl a2] M K := ⟨by simp only [List.all_cons, List.all_nil, z_isU, ha0]; rfl, q⟩
theorem c_X6_arrive_0 : z_nop k_X6_arrive 0 = o_aload 0 := rfl
theorem c_X6_arrive_1 : z_nop k_X6_arrive 1 = o_ic 1 := rfl
theorem c_X6_arrive_2 : z_nop k_X6_arrive 2 = o_putz 7 0 := rfl
theorem c_X6_arrive_3 : z_nop k_X6_arrive 3 = o_aload 0 := rfl
theorem c_X6_arrive_4 : z_nop k_X6_arrive 4 = o_iload 1 := rfl
theorem c_X6_arrive_5 : z_nop k_X6_arrive 5 = o_put 7 1 := rfl
theorem c_X6_arrive_6 : z_nop k_X6_arrive 6 = o_aload 0 := rfl
theorem c_X6_arrive_7 : z_nop k_X6_arrive 7 = o_iload 2 := rfl
theorem c_X6_arrive_8 : z_nop k_X6_arrive 8 = o_put 7 2 := rfl
theorem c_X6_arrive_9 : z_nop k_X6_arrive 9 = o_aload 0 := rfl
theorem c_X6_arrive_10 : z_nop k_X6_arrive 10 = o_ic 0 := rfl
theorem c_X6_arrive_11 : z_nop k_X6_arrive 11 = o_put 7 3 := rfl
theorem c_X6_arrive_12 : z_nop k_X6_arrive 12 = o_aload 0 := rfl
theorem c_X6_arrive_13 : z_nop k_X6_arrive 13 = o_ic 0 := rfl
theorem c_X6_arrive_14 : z_nop k_X6_arrive 14 = o_put 7 6 := rfl
theorem c_X6_arrive_15 : z_nop k_X6_arrive 15 = o_aload 0 := rfl
theorem c_X6_arrive_16 : z_nop k_X6_arrive 16 = o_ic (-1) := rfl
theorem c_X6_arrive_17 : z_nop k_X6_arrive 17 = o_put 7 7 := rfl
theorem c_X6_arrive_18 : z_nop k_X6_arrive 18 = o_aload 0 := rfl
theorem c_X6_arrive_19 : z_nop k_X6_arrive 19 = o_ic (-1) := rfl
theorem c_X6_arrive_20 : z_nop k_X6_arrive 20 = o_put 7 9 := rfl
theorem c_X6_arrive_21 : z_nop k_X6_arrive 21 = o_ret := rfl

def m_arrive (M : zMem) (w i : Nat) (x r : Int32) : zMem := z_up (z_up (z_up (z_up (z_up (z_up (z_up M 7 w i 0 1) 7 w i 1 x) 7 w i 2 r) 7 w i 3 0) 7 w i 6 0) 7 w i 7 (-1)) 7 w i 9 (-1)
set_option maxRecDepth 100000 in
theorem s_arrive {h w i : Nat} {M : zMem} {x r : Int32} {K : zK} (q : K none (m_arrive M w i x r)) : z_call (h + 1) 76 [.inr (.inr (7, w, i)), .inl x, .inl r] M K := by
  refine e_X6_arrive rfl ?_
  refine z_wp_run (cut := []) 24 _ _ _ _ ?_
  repeat' (first | (simp only [z_wp, Bool.false_eq_true, ↓reduceIte, z_e10, z_e01, eq_self, Int32.reduceLT, Int32.reduceLE, Int32.reduceGT, Int32.reduceGE, z_in, cond_true, cond_false, Nat.reduceAdd, Nat.reduceBEq, z_nth, z_set, z_clr, z_st1, z_st2, z_isL, z_opt, z_pop, z_cats, z_cat, c_X6_arrive_0, c_X6_arrive_1, c_X6_arrive_2, c_X6_arrive_3, c_X6_arrive_4, c_X6_arrive_5, c_X6_arrive_6, c_X6_arrive_7, c_X6_arrive_8, c_X6_arrive_9, c_X6_arrive_10, c_X6_arrive_11, c_X6_arrive_12, c_X6_arrive_13, c_X6_arrive_14, c_X6_arrive_15, c_X6_arrive_16, c_X6_arrive_17, c_X6_arrive_18, c_X6_arrive_19, c_X6_arrive_20, c_X6_arrive_21, o_aload, o_ic, o_iload, o_put, o_putz, o_ret, z_cv0, z_cl0, z_cv1, z_cl1, z_cv2, z_cl2, z_cv3, z_cl3, z_cv4, z_cl4, z_cv5, z_cl5, z_cv6, z_cl6, z_cv7, z_cl7, z_cv8, z_cl8, z_cv9, z_cl9, z_cv10, z_cl10, z_cv11, z_cl11, z_cv12, z_cl12, z_cv13, z_cl13, z_len, z_elt, z_isI, z_isJ, Nat.reduceEqDiff, Nat.reduceLeDiff, Nat.reduceLT, Nat.reduceSub, Nat.reduceMul, not_false_eq_true, not_true_eq_false, true_and, and_true, true_or, or_true, false_or, or_false, true_implies, false_implies, implies_true, forall_const, and_self, ne_eq, Classical.not_not, z_up1, z_up2, z_cp1, z_cp2, z_upL1, z_upL2, if_true, if_false, and_false, false_and]) | (with_reducible refine And.intro ?_ ?_) | (with_reducible intro _))
  all_goals (first | (with_reducible exact q) | ((try simp only [ge_iff_le, gt_iff_lt, ← Int32.not_lt, Classical.not_not] at *); (first | (with_reducible rfl) | rfl | (with_reducible exact z_vi_24 (by assumption) (by assumption)) | (with_reducible exact z_vi_4 (by assumption) (by assumption)) | (with_reducible exact z_vi_512 (by assumption) (by assumption)) | (with_reducible exact z_vi_14 (by assumption) (by assumption)) | (with_reducible exact z_vi_8 (by assumption) (by assumption)) | (with_reducible exact z_vinN (by assumption) (by assumption) (by decide)) | (with_reducible exact z_vin1 (by assumption) (by assumption) (by decide)) | ((try simp only [m_arrive] at q); (try simp only [ge_iff_le, gt_iff_lt, ← Int32.not_lt, Classical.not_not] at q); (try simp only [*, if_true, if_false, ite_self, true_or, or_true, false_or, or_false, true_and, and_true, false_and, and_false, not_true_eq_false, not_false_eq_true, cond_true, cond_false, decide_true, decide_false, Bool.true_and, Bool.and_true, Bool.false_and, Bool.and_false, Bool.true_or, Bool.or_true, Bool.false_or, Bool.or_false, Bool.not_true, Bool.not_false, ne_eq, Nat.reduceEqDiff] at q); with_reducible exact q))) | (simp_all [m_arrive]; done))
theorem e_X6_release {h : Nat} {a0 : zId} {M : zMem} {K : zK} (ha0 : (a0.1 == 99) = false) (q : z_run (z_nop k_X6_release) (z_call h) K 0 [.inr (.inr a0)] [] M) : z_call (h + 1) 78 [.inr (.inr a0)] M K := ⟨by simp only [List.all_cons, List.all_nil, z_isU, ha0]; rfl, q⟩
theorem c_X6_release_0 : z_nop k_X6_release 0 = o_aload 0 := rfl
theorem c_X6_release_1 : z_nop k_X6_release 1 = o_ic (-1) := rfl
theorem c_X6_release_2 : z_nop k_X6_release 2 = o_put 7 4 := rfl
theorem c_X6_release_3 : z_nop k_X6_release 3 = o_aload 0 := rfl
theorem c_X6_release_4 : z_nop k_X6_release 4 = o_ic (-1) := rfl
theorem c_X6_release_5 : z_nop k_X6_release 5 = o_put 7 5 := rfl
theorem c_X6_release_6 : z_nop k_X6_release 6 = o_ret := rfl

def m_release (M : zMem) (w i : Nat) : zMem := z_up (z_up M 7 w i 4 (-1)) 7 w i 5 (-1)
set_option maxRecDepth 100000 in
theorem s_release {h w i : Nat} {M : zMem} {K : zK} (q : K none (m_release M w i)) : z_call (h + 1) 78 [.inr (.inr (7, w, i))] M K := by
  refine e_X6_release rfl ?_
  refine z_wp_run (cut := []) 9 _ _ _ _ ?_
  repeat' (first | (simp only [z_wp, Bool.false_eq_true, ↓reduceIte, z_e10, z_e01, eq_self, Int32.reduceLT, Int32.reduceLE, Int32.reduceGT, Int32.reduceGE, z_in, cond_true, cond_false, Nat.reduceAdd, Nat.reduceBEq, z_nth, z_set, z_clr, z_st1, z_st2, z_isL, z_opt, z_pop, z_cats, z_cat, c_X6_release_0, c_X6_release_1, c_X6_release_2, c_X6_release_3, c_X6_release_4, c_X6_release_5, c_X6_release_6, o_aload, o_ic, o_put, o_ret, z_cv0, z_cl0, z_cv1, z_cl1, z_cv2, z_cl2, z_cv3, z_cl3, z_cv4, z_cl4, z_cv5, z_cl5, z_cv6, z_cl6, z_cv7, z_cl7, z_cv8, z_cl8, z_cv9, z_cl9, z_cv10, z_cl10, z_cv11, z_cl11, z_cv12, z_cl12, z_cv13, z_cl13, z_len, z_elt, z_isI, z_isJ, Nat.reduceEqDiff, Nat.reduceLeDiff, Nat.reduceLT, Nat.reduceSub, Nat.reduceMul, not_false_eq_true, not_true_eq_false, true_and, and_true, true_or, or_true, false_or, or_false, true_implies, false_implies, implies_true, forall_const, and_self, ne_eq, Classical.not_not, z_up1, z_up2, z_cp1, z_cp2, z_upL1, z_upL2, if_true, if_false, and_false, false_and]) | (with_reducible refine And.intro ?_ ?_) | (with_reducible intro _))
  all_goals (first | (with_reducible exact q) | ((try simp only [ge_iff_le, gt_iff_lt, ← Int32.not_lt, Classical.not_not] at *); (first | (with_reducible rfl) | rfl | (with_reducible exact z_vi_24 (by assumption) (by assumption)) | (with_reducible exact z_vi_4 (by assumption) (by assumption)) | (with_reducible exact z_vi_512 (by assumption) (by assumption)) | (with_reducible exact z_vi_14 (by assumption) (by assumption)) | (with_reducible exact z_vi_8 (by assumption) (by assumption)) | (with_reducible exact z_vinN (by assumption) (by assumption) (by decide)) | (with_reducible exact z_vin1 (by assumption) (by assumption) (by decide)) | ((try simp only [m_release] at q); (try simp only [ge_iff_le, gt_iff_lt, ← Int32.not_lt, Classical.not_not] at q); (try simp only [*, if_true, if_false, ite_self, true_or, or_true, false_or, or_false, true_and, and_true, false_and, and_false, not_true_eq_false, not_false_eq_true, cond_true, cond_false, decide_true, decide_false, Bool.true_and, Bool.and_true, Bool.false_and, Bool.and_false, Bool.true_or, Bool.or_true, Bool.false_or, Bool.or_false, Bool.not_true, Bool.not_false, ne_eq, Nat.reduceEqDiff] at q); with_reducible exact q))) | (simp_all [m_release]; done))
theorem e_X6_leave {h : Nat} {a0 : zId} {M : zMem} {K : zK} (ha0 : (a0.1 == 99) = false) (q : z_run (z_nop k_X6_leave) (z_call h) K 0 [.inr (.inr a0)] [] M) : z_call (h + 1) 77 [.inr (.inr a0)] M K := ⟨by simp only [List.all_cons, List.all_nil, z_isU, ha0]; rfl, q⟩
theorem c_X6_leave_0 : z_nop k_X6_leave 0 = o_aload 0 := rfl
theorem c_X6_leave_1 : z_nop k_X6_leave 1 = o_ic 0 := rfl
theorem c_X6_leave_2 : z_nop k_X6_leave 2 = o_putz 7 0 := rfl
theorem c_X6_leave_3 : z_nop k_X6_leave 3 = o_aload 0 := rfl
theorem c_X6_leave_4 : z_nop k_X6_leave 4 = o_callv 7 78 1 := rfl
theorem c_X6_leave_5 : z_nop k_X6_leave 5 = o_ret := rfl

def m_leave (M : zMem) (w i : Nat) : zMem := m_release (z_up M 7 w i 0 0) w i
set_option maxRecDepth 100000 in
theorem s_leave {h w i : Nat} {M : zMem} {K : zK} (q : K none (m_leave M w i)) : z_call (h + 2) 77 [.inr (.inr (7, w, i))] M K := by
  refine e_X6_leave rfl ?_
  refine z_wp_run (cut := [5]) 8 _ _ _ _ ?_
  repeat' (first | (simp only [z_wp, Bool.false_eq_true, ↓reduceIte, z_e10, z_e01, eq_self, Int32.reduceLT, Int32.reduceLE, Int32.reduceGT, Int32.reduceGE, z_in, cond_true, cond_false, Nat.reduceAdd, Nat.reduceBEq, z_nth, z_set, z_clr, z_st1, z_st2, z_isL, z_opt, z_pop, z_cats, z_cat, c_X6_leave_0, c_X6_leave_1, c_X6_leave_2, c_X6_leave_3, c_X6_leave_4, c_X6_leave_5, o_aload, o_callv, o_ic, o_putz, o_ret, z_cv0, z_cl0, z_cv1, z_cl1, z_cv2, z_cl2, z_cv3, z_cl3, z_cv4, z_cl4, z_cv5, z_cl5, z_cv6, z_cl6, z_cv7, z_cl7, z_cv8, z_cl8, z_cv9, z_cl9, z_cv10, z_cl10, z_cv11, z_cl11, z_cv12, z_cl12, z_cv13, z_cl13, z_len, z_elt, z_isI, z_isJ, Nat.reduceEqDiff, Nat.reduceLeDiff, Nat.reduceLT, Nat.reduceSub, Nat.reduceMul, not_false_eq_true, not_true_eq_false, true_and, and_true, true_or, or_true, false_or, or_false, true_implies, false_implies, implies_true, forall_const, and_self, ne_eq, Classical.not_not, z_up1, z_up2, z_cp1, z_cp2, z_upL1, z_upL2, if_true, if_false, and_false, false_and]) | (refine s_release ?_) | (with_reducible refine And.intro ?_ ?_) | (with_reducible intro _) | (with_reducible refine z_go (i := 5) (cut := [5]) 8 ?_))
  all_goals (first | (with_reducible exact q) | ((try simp only [ge_iff_le, gt_iff_lt, ← Int32.not_lt, Classical.not_not] at *); (first | (with_reducible rfl) | rfl | (with_reducible exact z_vi_24 (by assumption) (by assumption)) | (with_reducible exact z_vi_4 (by assumption) (by assumption)) | (with_reducible exact z_vi_512 (by assumption) (by assumption)) | (with_reducible exact z_vi_14 (by assumption) (by assumption)) | (with_reducible exact z_vi_8 (by assumption) (by assumption)) | (with_reducible exact z_vinN (by assumption) (by assumption) (by decide)) | (with_reducible exact z_vin1 (by assumption) (by assumption) (by decide)) | ((try simp only [m_leave] at q); (try simp only [ge_iff_le, gt_iff_lt, ← Int32.not_lt, Classical.not_not] at q); (try simp only [*, if_true, if_false, ite_self, true_or, or_true, false_or, or_false, true_and, and_true, false_and, and_false, not_true_eq_false, not_false_eq_true, cond_true, cond_false, decide_true, decide_false, Bool.true_and, Bool.and_true, Bool.false_and, Bool.and_false, Bool.true_or, Bool.or_true, Bool.false_or, Bool.or_false, Bool.not_true, Bool.not_false, ne_eq, Nat.reduceEqDiff] at q); with_reducible exact q))) | (simp_all [m_leave]; done))
theorem e_X6_id {h : Nat} {a0 : zId} {M : zMem} {K : zK} (ha0 : (a0.1 == 99) = false) (q : z_run (z_nop k_X6_id) (z_call h) K 0 [.inr (.inr a0)] [] M) : z_call (h + 1) 79 [.inr (.inr a0)] M K := ⟨by simp only [List.all_cons, List.all_nil, z_isU, ha0]; rfl, q⟩
theorem c_X6_id_0 : z_nop k_X6_id 0 = o_aload 0 := rfl
theorem c_X6_id_1 : z_nop k_X6_id 1 = o_get 7 1 := rfl
theorem c_X6_id_2 : z_nop k_X6_id 2 = o_ic 16 := rfl
theorem c_X6_id_3 : z_nop k_X6_id 3 = o_bin (fun x y => (x.toUInt32 >>> (y.toUInt32 &&& Int32.toUInt32 31)).toInt32) := rfl
theorem c_X6_id_4 : z_nop k_X6_id 4 = o_iret := rfl

def z_ush (x : Int32) (y : Int32) : Int32 := (x.toUInt32 >>> (y.toUInt32 &&& Int32.toUInt32 31)).toInt32
def r_id (M : zMem) (w i : Nat) : Int32 := z_ush (M.1 7 w i 1) 16
set_option maxRecDepth 100000 in
theorem s_id {h w i : Nat} {M : zMem} {K : zK} (q : K (some (.inl (r_id M w i))) M) : z_call (h + 1) 79 [.inr (.inr (7, w, i))] M K := by
  refine e_X6_id rfl ?_
  refine z_wp_run (cut := []) 7 _ _ _ _ ?_
  repeat' (first | (simp only [z_wp, Bool.false_eq_true, ↓reduceIte, z_e10, z_e01, eq_self, Int32.reduceLT, Int32.reduceLE, Int32.reduceGT, Int32.reduceGE, z_in, cond_true, cond_false, Nat.reduceAdd, Nat.reduceBEq, z_nth, z_set, z_clr, z_st1, z_st2, z_isL, z_opt, z_pop, z_cats, z_cat, c_X6_id_0, c_X6_id_1, c_X6_id_2, c_X6_id_3, c_X6_id_4, o_aload, o_bin, o_get, o_ic, o_iret, z_cv0, z_cl0, z_cv1, z_cl1, z_cv2, z_cl2, z_cv3, z_cl3, z_cv4, z_cl4, z_cv5, z_cl5, z_cv6, z_cl6, z_cv7, z_cl7, z_cv8, z_cl8, z_cv9, z_cl9, z_cv10, z_cl10, z_cv11, z_cl11, z_cv12, z_cl12, z_cv13, z_cl13, z_len, z_elt, z_isI, z_isJ, Nat.reduceEqDiff, Nat.reduceLeDiff, Nat.reduceLT, Nat.reduceSub, Nat.reduceMul, not_false_eq_true, not_true_eq_false, true_and, and_true, true_or, or_true, false_or, or_false, true_implies, false_implies, implies_true, forall_const, and_self, ne_eq, Classical.not_not, z_up1, z_up2, z_cp1, z_cp2, z_upL1, z_upL2, if_true, if_false, and_false, false_and]) | (with_reducible refine And.intro ?_ ?_) | (with_reducible intro _))
  all_goals (first | (with_reducible exact q) | ((try simp only [ge_iff_le, gt_iff_lt, ← Int32.not_lt, Classical.not_not] at *); (first | (with_reducible rfl) | rfl | (with_reducible exact z_vi_24 (by assumption) (by assumption)) | (with_reducible exact z_vi_4 (by assumption) (by assumption)) | (with_reducible exact z_vi_512 (by assumption) (by assumption)) | (with_reducible exact z_vi_14 (by assumption) (by assumption)) | (with_reducible exact z_vi_8 (by assumption) (by assumption)) | (with_reducible exact z_vinN (by assumption) (by assumption) (by decide)) | (with_reducible exact z_vin1 (by assumption) (by assumption) (by decide)) | ((try simp only [r_id, z_ush] at q); (try simp only [ge_iff_le, gt_iff_lt, ← Int32.not_lt, Classical.not_not] at q); (try simp only [*, if_true, if_false, ite_self, true_or, or_true, false_or, or_false, true_and, and_true, false_and, and_false, not_true_eq_false, not_false_eq_true, cond_true, cond_false, decide_true, decide_false, Bool.true_and, Bool.and_true, Bool.false_and, Bool.and_false, Bool.true_or, Bool.or_true, Bool.false_or, Bool.or_false, Bool.not_true, Bool.not_false, ne_eq, Nat.reduceEqDiff] at q); with_reducible exact q))) | (simp_all [r_id, z_ush]; done))
theorem e_X6_span {h : Nat} {a0 : zId} {a1 : Int32} {a2 : Int32} {M : zMem} {K : zK} (ha0 : (a0.1 == 99) = false) (q : z_run (z_nop k_X6_span) (z_call h) K 0 [.inr (.inr a0), .inl a1, .inl a2] [] M) : z_call (h + 1) 80 [.inr (.inr a0), .inl a1, .inl a2] M K := ⟨by simp only [List.all_cons, List.all_nil, z_isU, ha0]; rfl, q⟩
theorem c_X6_span_0 : z_nop k_X6_span 0 = o_iload 2 := rfl
theorem c_X6_span_1 : z_nop k_X6_span 1 = o_if (fun x => x ≠ 0) 4 := rfl
theorem c_X6_span_2 : z_nop k_X6_span 2 = o_ic 0 := rfl
theorem c_X6_span_3 : z_nop k_X6_span 3 = o_goto 12 := rfl
theorem c_X6_span_4 : z_nop k_X6_span 4 = o_aload 0 := rfl
theorem c_X6_span_5 : z_nop k_X6_span 5 = o_get 7 1 := rfl
theorem c_X6_span_6 : z_nop k_X6_span 6 = o_iload 1 := rfl
theorem c_X6_span_7 : z_nop k_X6_span 7 = o_bin (fun x y => x <<< (y &&& 31)) := rfl
theorem c_X6_span_8 : z_nop k_X6_span 8 = o_ic 32 := rfl
theorem c_X6_span_9 : z_nop k_X6_span 9 = o_iload 2 := rfl
theorem c_X6_span_10 : z_nop k_X6_span 10 = o_bin (fun x y => x - y) := rfl
theorem c_X6_span_11 : z_nop k_X6_span 11 = o_bin (fun x y => (x.toUInt32 >>> (y.toUInt32 &&& Int32.toUInt32 31)).toInt32) := rfl
theorem c_X6_span_12 : z_nop k_X6_span 12 = o_iret := rfl

def r_span (M : zMem) (w i : Nat) (p n : Int32) : Int32 := if n = 0 then 0 else z_ush (M.1 7 w i 1 <<< (p &&& 31)) (32 - n)
set_option maxRecDepth 100000 in
theorem s_span {h w i : Nat} {M : zMem} {p n : Int32} {K : zK} (q : K (some (.inl (r_span M w i p n))) M) : z_call (h + 1) 80 [.inr (.inr (7, w, i)), .inl p, .inl n] M K := by
  refine e_X6_span rfl ?_
  refine z_wp_run (cut := []) 15 _ _ _ _ ?_
  repeat' (first | (simp only [z_wp, Bool.false_eq_true, ↓reduceIte, z_e10, z_e01, eq_self, Int32.reduceLT, Int32.reduceLE, Int32.reduceGT, Int32.reduceGE, z_in, cond_true, cond_false, Nat.reduceAdd, Nat.reduceBEq, z_nth, z_set, z_clr, z_st1, z_st2, z_isL, z_opt, z_pop, z_cats, z_cat, c_X6_span_0, c_X6_span_1, c_X6_span_2, c_X6_span_3, c_X6_span_4, c_X6_span_5, c_X6_span_6, c_X6_span_7, c_X6_span_8, c_X6_span_9, c_X6_span_10, c_X6_span_11, c_X6_span_12, o_aload, o_bin, o_get, o_goto, o_ic, o_if, o_iload, o_iret, z_cv0, z_cl0, z_cv1, z_cl1, z_cv2, z_cl2, z_cv3, z_cl3, z_cv4, z_cl4, z_cv5, z_cl5, z_cv6, z_cl6, z_cv7, z_cl7, z_cv8, z_cl8, z_cv9, z_cl9, z_cv10, z_cl10, z_cv11, z_cl11, z_cv12, z_cl12, z_cv13, z_cl13, z_len, z_elt, z_isI, z_isJ, Nat.reduceEqDiff, Nat.reduceLeDiff, Nat.reduceLT, Nat.reduceSub, Nat.reduceMul, not_false_eq_true, not_true_eq_false, true_and, and_true, true_or, or_true, false_or, or_false, true_implies, false_implies, implies_true, forall_const, and_self, ne_eq, Classical.not_not, z_up1, z_up2, z_cp1, z_cp2, z_upL1, z_upL2, if_true, if_false, and_false, false_and]) | (with_reducible refine And.intro ?_ ?_) | (with_reducible intro _))
  all_goals (first | (with_reducible exact q) | ((try simp only [ge_iff_le, gt_iff_lt, ← Int32.not_lt, Classical.not_not] at *); (first | (with_reducible rfl) | rfl | (with_reducible exact z_vi_24 (by assumption) (by assumption)) | (with_reducible exact z_vi_4 (by assumption) (by assumption)) | (with_reducible exact z_vi_512 (by assumption) (by assumption)) | (with_reducible exact z_vi_14 (by assumption) (by assumption)) | (with_reducible exact z_vi_8 (by assumption) (by assumption)) | (with_reducible exact z_vinN (by assumption) (by assumption) (by decide)) | (with_reducible exact z_vin1 (by assumption) (by assumption) (by decide)) | ((try simp only [r_span, z_ush] at q); (try simp only [ge_iff_le, gt_iff_lt, ← Int32.not_lt, Classical.not_not] at q); (try simp only [*, if_true, if_false, ite_self, true_or, or_true, false_or, or_false, true_and, and_true, false_and, and_false, not_true_eq_false, not_false_eq_true, cond_true, cond_false, decide_true, decide_false, Bool.true_and, Bool.and_true, Bool.false_and, Bool.and_false, Bool.true_or, Bool.or_true, Bool.false_or, Bool.or_false, Bool.not_true, Bool.not_false, ne_eq, Nat.reduceEqDiff] at q); with_reducible exact q))) | (simp_all [r_span, z_ush]; done))
theorem e_X6_flag {h : Nat} {a0 : zId} {a1 : Int32} {M : zMem} {K : zK} (ha0 : (a0.1 == 99) = false) (q : z_run (z_nop k_X6_flag) (z_call h) K 0 [.inr (.inr a0), .inl a1] [] M) : z_call (h + 1) 81 [.inr (.inr a0), .inl a1] M K := ⟨by simp only [List.all_cons, List.all_nil, z_isU, ha0]; rfl, q⟩
theorem c_X6_flag_0 : z_nop k_X6_flag 0 = o_aload 0 := rfl
theorem c_X6_flag_1 : z_nop k_X6_flag 1 = o_get 7 3 := rfl
theorem c_X6_flag_2 : z_nop k_X6_flag 2 = o_iload 1 := rfl
theorem c_X6_flag_3 : z_nop k_X6_flag 3 = o_bin (fun x y => x >>> (y &&& 31)) := rfl
theorem c_X6_flag_4 : z_nop k_X6_flag 4 = o_ic 1 := rfl
theorem c_X6_flag_5 : z_nop k_X6_flag 5 = o_bin (fun x y => x &&& y) := rfl
theorem c_X6_flag_6 : z_nop k_X6_flag 6 = o_iret := rfl

def r_flag (M : zMem) (w i : Nat) (f : Int32) : Int32 := M.1 7 w i 3 >>> (f &&& 31) &&& 1
set_option maxRecDepth 100000 in
theorem s_flag {h w i : Nat} {M : zMem} {f : Int32} {K : zK} (q : K (some (.inl (r_flag M w i f))) M) : z_call (h + 1) 81 [.inr (.inr (7, w, i)), .inl f] M K := by
  refine e_X6_flag rfl ?_
  refine z_wp_run (cut := []) 9 _ _ _ _ ?_
  repeat' (first | (simp only [z_wp, Bool.false_eq_true, ↓reduceIte, z_e10, z_e01, eq_self, Int32.reduceLT, Int32.reduceLE, Int32.reduceGT, Int32.reduceGE, z_in, cond_true, cond_false, Nat.reduceAdd, Nat.reduceBEq, z_nth, z_set, z_clr, z_st1, z_st2, z_isL, z_opt, z_pop, z_cats, z_cat, c_X6_flag_0, c_X6_flag_1, c_X6_flag_2, c_X6_flag_3, c_X6_flag_4, c_X6_flag_5, c_X6_flag_6, o_aload, o_bin, o_get, o_ic, o_iload, o_iret, z_cv0, z_cl0, z_cv1, z_cl1, z_cv2, z_cl2, z_cv3, z_cl3, z_cv4, z_cl4, z_cv5, z_cl5, z_cv6, z_cl6, z_cv7, z_cl7, z_cv8, z_cl8, z_cv9, z_cl9, z_cv10, z_cl10, z_cv11, z_cl11, z_cv12, z_cl12, z_cv13, z_cl13, z_len, z_elt, z_isI, z_isJ, Nat.reduceEqDiff, Nat.reduceLeDiff, Nat.reduceLT, Nat.reduceSub, Nat.reduceMul, not_false_eq_true, not_true_eq_false, true_and, and_true, true_or, or_true, false_or, or_false, true_implies, false_implies, implies_true, forall_const, and_self, ne_eq, Classical.not_not, z_up1, z_up2, z_cp1, z_cp2, z_upL1, z_upL2, if_true, if_false, and_false, false_and]) | (with_reducible refine And.intro ?_ ?_) | (with_reducible intro _))
  all_goals (first | (with_reducible exact q) | ((try simp only [ge_iff_le, gt_iff_lt, ← Int32.not_lt, Classical.not_not] at *); (first | (with_reducible rfl) | rfl | (with_reducible exact z_vi_24 (by assumption) (by assumption)) | (with_reducible exact z_vi_4 (by assumption) (by assumption)) | (with_reducible exact z_vi_512 (by assumption) (by assumption)) | (with_reducible exact z_vi_14 (by assumption) (by assumption)) | (with_reducible exact z_vi_8 (by assumption) (by assumption)) | (with_reducible exact z_vinN (by assumption) (by assumption) (by decide)) | (with_reducible exact z_vin1 (by assumption) (by assumption) (by decide)) | ((try simp only [r_flag] at q); (try simp only [ge_iff_le, gt_iff_lt, ← Int32.not_lt, Classical.not_not] at q); (try simp only [*, if_true, if_false, ite_self, true_or, or_true, false_or, or_false, true_and, and_true, false_and, and_false, not_true_eq_false, not_false_eq_true, cond_true, cond_false, decide_true, decide_false, Bool.true_and, Bool.and_true, Bool.false_and, Bool.and_false, Bool.true_or, Bool.or_true, Bool.false_or, Bool.or_false, Bool.not_true, Bool.not_false, ne_eq, Nat.reduceEqDiff] at q); with_reducible exact q))) | (simp_all [r_flag]; done))
theorem e_X6_isReachedBy {h : Nat} {a0 : zId} {a1 : Int32} {M : zMem} {K : zK} (ha0 : (a0.1 == 99) = false) (q : z_run (z_nop k_X6_isReachedBy) (z_call h) K 0 [.inr (.inr a0), .inl a1] [] M) : z_call (h + 1) 82 [.inr (.inr a0), .inl a1] M K := ⟨by simp only [List.all_cons, List.all_nil, z_isU, ha0]; rfl, q⟩
theorem c_X6_isReachedBy_0 : z_nop k_X6_isReachedBy 0 = o_aload 0 := rfl
theorem c_X6_isReachedBy_1 : z_nop k_X6_isReachedBy 1 = o_get 7 2 := rfl
theorem c_X6_isReachedBy_2 : z_nop k_X6_isReachedBy 2 = o_iload 1 := rfl
theorem c_X6_isReachedBy_3 : z_nop k_X6_isReachedBy 3 = o_bin (fun x y => x >>> (y &&& 31)) := rfl
theorem c_X6_isReachedBy_4 : z_nop k_X6_isReachedBy 4 = o_ic 1 := rfl
theorem c_X6_isReachedBy_5 : z_nop k_X6_isReachedBy 5 = o_bin (fun x y => x &&& y) := rfl
theorem c_X6_isReachedBy_6 : z_nop k_X6_isReachedBy 6 = o_ic 1 := rfl
theorem c_X6_isReachedBy_7 : z_nop k_X6_isReachedBy 7 = o_icmp (fun x y => x ≠ y) 10 := rfl
theorem c_X6_isReachedBy_8 : z_nop k_X6_isReachedBy 8 = o_ic 1 := rfl
theorem c_X6_isReachedBy_9 : z_nop k_X6_isReachedBy 9 = o_goto 11 := rfl
theorem c_X6_isReachedBy_10 : z_nop k_X6_isReachedBy 10 = o_ic 0 := rfl
theorem c_X6_isReachedBy_11 : z_nop k_X6_isReachedBy 11 = o_zret := rfl

def r_isReachedBy (M : zMem) (w i : Nat) (r : Int32) : Int32 := if M.1 7 w i 2 >>> (r &&& 31) &&& 1 = 1 then 1 else 0
set_option maxRecDepth 100000 in
theorem s_isReachedBy {h w i : Nat} {M : zMem} {r : Int32} {K : zK} (q : K (some (.inl (r_isReachedBy M w i r))) M) : z_call (h + 1) 82 [.inr (.inr (7, w, i)), .inl r] M K := by
  refine e_X6_isReachedBy rfl ?_
  refine z_wp_run (cut := []) 14 _ _ _ _ ?_
  repeat' (first | (simp only [z_wp, Bool.false_eq_true, ↓reduceIte, z_e10, z_e01, eq_self, Int32.reduceLT, Int32.reduceLE, Int32.reduceGT, Int32.reduceGE, z_in, cond_true, cond_false, Nat.reduceAdd, Nat.reduceBEq, z_nth, z_set, z_clr, z_st1, z_st2, z_isL, z_opt, z_pop, z_cats, z_cat, c_X6_isReachedBy_0, c_X6_isReachedBy_1, c_X6_isReachedBy_2, c_X6_isReachedBy_3, c_X6_isReachedBy_4, c_X6_isReachedBy_5, c_X6_isReachedBy_6, c_X6_isReachedBy_7, c_X6_isReachedBy_8, c_X6_isReachedBy_9, c_X6_isReachedBy_10, c_X6_isReachedBy_11, o_aload, o_bin, o_get, o_goto, o_ic, o_icmp, o_iload, o_zret, z_cv0, z_cl0, z_cv1, z_cl1, z_cv2, z_cl2, z_cv3, z_cl3, z_cv4, z_cl4, z_cv5, z_cl5, z_cv6, z_cl6, z_cv7, z_cl7, z_cv8, z_cl8, z_cv9, z_cl9, z_cv10, z_cl10, z_cv11, z_cl11, z_cv12, z_cl12, z_cv13, z_cl13, z_len, z_elt, z_isI, z_isJ, Nat.reduceEqDiff, Nat.reduceLeDiff, Nat.reduceLT, Nat.reduceSub, Nat.reduceMul, not_false_eq_true, not_true_eq_false, true_and, and_true, true_or, or_true, false_or, or_false, true_implies, false_implies, implies_true, forall_const, and_self, ne_eq, Classical.not_not, z_up1, z_up2, z_cp1, z_cp2, z_upL1, z_upL2, if_true, if_false, and_false, false_and]) | (with_reducible refine And.intro ?_ ?_) | (with_reducible intro _))
  all_goals (first | (with_reducible exact q) | ((try simp only [ge_iff_le, gt_iff_lt, ← Int32.not_lt, Classical.not_not] at *); (first | (with_reducible rfl) | rfl | (with_reducible exact z_vi_24 (by assumption) (by assumption)) | (with_reducible exact z_vi_4 (by assumption) (by assumption)) | (with_reducible exact z_vi_512 (by assumption) (by assumption)) | (with_reducible exact z_vi_14 (by assumption) (by assumption)) | (with_reducible exact z_vi_8 (by assumption) (by assumption)) | (with_reducible exact z_vinN (by assumption) (by assumption) (by decide)) | (with_reducible exact z_vin1 (by assumption) (by assumption) (by decide)) | ((try simp only [r_isReachedBy] at q); (try simp only [ge_iff_le, gt_iff_lt, ← Int32.not_lt, Classical.not_not] at q); (try simp only [*, if_true, if_false, ite_self, true_or, or_true, false_or, or_false, true_and, and_true, false_and, and_false, not_true_eq_false, not_false_eq_true, cond_true, cond_false, decide_true, decide_false, Bool.true_and, Bool.and_true, Bool.false_and, Bool.and_false, Bool.true_or, Bool.or_true, Bool.false_or, Bool.or_false, Bool.not_true, Bool.not_false, ne_eq, Nat.reduceEqDiff] at q); with_reducible exact q))) | (simp_all [r_isReachedBy]; done))
theorem e_X6_hasPower {h : Nat} {a0 : zId} {M : zMem} {K : zK} (ha0 : (a0.1 == 99) = false) (q : z_run (z_nop k_X6_hasPower) (z_call h) K 0 [.inr (.inr a0)] [] M) : z_call (h + 1) 83 [.inr (.inr a0)] M K := ⟨by simp only [List.all_cons, List.all_nil, z_isU, ha0]; rfl, q⟩
theorem c_X6_hasPower_0 : z_nop k_X6_hasPower 0 = o_aload 0 := rfl
theorem c_X6_hasPower_1 : z_nop k_X6_hasPower 1 = o_get 7 9 := rfl
theorem c_X6_hasPower_2 : z_nop k_X6_hasPower 2 = o_ic (-1) := rfl
theorem c_X6_hasPower_3 : z_nop k_X6_hasPower 3 = o_icmp (fun x y => x ≠ y) 6 := rfl
theorem c_X6_hasPower_4 : z_nop k_X6_hasPower 4 = o_ic 1 := rfl
theorem c_X6_hasPower_5 : z_nop k_X6_hasPower 5 = o_goto 7 := rfl
theorem c_X6_hasPower_6 : z_nop k_X6_hasPower 6 = o_ic 0 := rfl
theorem c_X6_hasPower_7 : z_nop k_X6_hasPower 7 = o_zret := rfl

def r_hasPower (M : zMem) (w i : Nat) : Int32 := if M.1 7 w i 9 = -1 then 1 else 0
set_option maxRecDepth 100000 in
theorem s_hasPower {h w i : Nat} {M : zMem} {K : zK} (q : K (some (.inl (r_hasPower M w i))) M) : z_call (h + 1) 83 [.inr (.inr (7, w, i))] M K := by
  refine e_X6_hasPower rfl ?_
  refine z_wp_run (cut := []) 10 _ _ _ _ ?_
  repeat' (first | (simp only [z_wp, Bool.false_eq_true, ↓reduceIte, z_e10, z_e01, eq_self, Int32.reduceLT, Int32.reduceLE, Int32.reduceGT, Int32.reduceGE, z_in, cond_true, cond_false, Nat.reduceAdd, Nat.reduceBEq, z_nth, z_set, z_clr, z_st1, z_st2, z_isL, z_opt, z_pop, z_cats, z_cat, c_X6_hasPower_0, c_X6_hasPower_1, c_X6_hasPower_2, c_X6_hasPower_3, c_X6_hasPower_4, c_X6_hasPower_5, c_X6_hasPower_6, c_X6_hasPower_7, o_aload, o_get, o_goto, o_ic, o_icmp, o_zret, z_cv0, z_cl0, z_cv1, z_cl1, z_cv2, z_cl2, z_cv3, z_cl3, z_cv4, z_cl4, z_cv5, z_cl5, z_cv6, z_cl6, z_cv7, z_cl7, z_cv8, z_cl8, z_cv9, z_cl9, z_cv10, z_cl10, z_cv11, z_cl11, z_cv12, z_cl12, z_cv13, z_cl13, z_len, z_elt, z_isI, z_isJ, Nat.reduceEqDiff, Nat.reduceLeDiff, Nat.reduceLT, Nat.reduceSub, Nat.reduceMul, not_false_eq_true, not_true_eq_false, true_and, and_true, true_or, or_true, false_or, or_false, true_implies, false_implies, implies_true, forall_const, and_self, ne_eq, Classical.not_not, z_up1, z_up2, z_cp1, z_cp2, z_upL1, z_upL2, if_true, if_false, and_false, false_and]) | (with_reducible refine And.intro ?_ ?_) | (with_reducible intro _))
  all_goals (first | (with_reducible exact q) | ((try simp only [ge_iff_le, gt_iff_lt, ← Int32.not_lt, Classical.not_not] at *); (first | (with_reducible rfl) | rfl | (with_reducible exact z_vi_24 (by assumption) (by assumption)) | (with_reducible exact z_vi_4 (by assumption) (by assumption)) | (with_reducible exact z_vi_512 (by assumption) (by assumption)) | (with_reducible exact z_vi_14 (by assumption) (by assumption)) | (with_reducible exact z_vi_8 (by assumption) (by assumption)) | (with_reducible exact z_vinN (by assumption) (by assumption) (by decide)) | (with_reducible exact z_vin1 (by assumption) (by assumption) (by decide)) | ((try simp only [r_hasPower] at q); (try simp only [ge_iff_le, gt_iff_lt, ← Int32.not_lt, Classical.not_not] at q); (try simp only [*, if_true, if_false, ite_self, true_or, or_true, false_or, or_false, true_and, and_true, false_and, and_false, not_true_eq_false, not_false_eq_true, cond_true, cond_false, decide_true, decide_false, Bool.true_and, Bool.and_true, Bool.false_and, Bool.and_false, Bool.true_or, Bool.or_true, Bool.false_or, Bool.or_false, Bool.not_true, Bool.not_false, ne_eq, Nat.reduceEqDiff] at q); with_reducible exact q))) | (simp_all [r_hasPower]; done))
theorem e_X6_setFlag {h : Nat} {a0 : zId} {a1 : Int32} {a2 : Int32} {a3 : Int32} {M : zMem} {K : zK} (ha0 : (a0.1 == 99) = false) (q : z_run (z_nop k_X6_setFlag) (z_call h) K 0 [.inr (.inr a0), .inl a1, .inl a2, .inl a3] [] M) : z_call (h + 1) 84 [.inr (.inr a0), .inl a1, .inl a2, .inl a3] M K := ⟨by simp only [List.all_cons, List.all_nil, z_isU, ha0]; rfl, q⟩
theorem c_X6_setFlag_0 : z_nop k_X6_setFlag 0 = o_aload 0 := rfl
theorem c_X6_setFlag_1 : z_nop k_X6_setFlag 1 = o_iload 2 := rfl
theorem c_X6_setFlag_2 : z_nop k_X6_setFlag 2 = o_ic 1 := rfl
theorem c_X6_setFlag_3 : z_nop k_X6_setFlag 3 = o_icmp (fun x y => x ≠ y) 11 := rfl
theorem c_X6_setFlag_4 : z_nop k_X6_setFlag 4 = o_aload 0 := rfl
theorem c_X6_setFlag_5 : z_nop k_X6_setFlag 5 = o_get 7 3 := rfl
theorem c_X6_setFlag_6 : z_nop k_X6_setFlag 6 = o_ic 1 := rfl
theorem c_X6_setFlag_7 : z_nop k_X6_setFlag 7 = o_iload 1 := rfl
theorem c_X6_setFlag_8 : z_nop k_X6_setFlag 8 = o_bin (fun x y => x <<< (y &&& 31)) := rfl
theorem c_X6_setFlag_9 : z_nop k_X6_setFlag 9 = o_bin (fun x y => x ||| y) := rfl
theorem c_X6_setFlag_10 : z_nop k_X6_setFlag 10 = o_goto 19 := rfl
theorem c_X6_setFlag_11 : z_nop k_X6_setFlag 11 = o_aload 0 := rfl
theorem c_X6_setFlag_12 : z_nop k_X6_setFlag 12 = o_get 7 3 := rfl
theorem c_X6_setFlag_13 : z_nop k_X6_setFlag 13 = o_ic 1 := rfl
theorem c_X6_setFlag_14 : z_nop k_X6_setFlag 14 = o_iload 1 := rfl
theorem c_X6_setFlag_15 : z_nop k_X6_setFlag 15 = o_bin (fun x y => x <<< (y &&& 31)) := rfl
theorem c_X6_setFlag_16 : z_nop k_X6_setFlag 16 = o_ic (-1) := rfl
theorem c_X6_setFlag_17 : z_nop k_X6_setFlag 17 = o_bin (fun x y => x ^^^ y) := rfl
theorem c_X6_setFlag_18 : z_nop k_X6_setFlag 18 = o_bin (fun x y => x &&& y) := rfl
theorem c_X6_setFlag_19 : z_nop k_X6_setFlag 19 = o_put 7 3 := rfl
theorem c_X6_setFlag_20 : z_nop k_X6_setFlag 20 = o_iload 1 := rfl
theorem c_X6_setFlag_21 : z_nop k_X6_setFlag 21 = o_ic 1 := rfl
theorem c_X6_setFlag_22 : z_nop k_X6_setFlag 22 = o_icmp (fun x y => x ≠ y) 29 := rfl
theorem c_X6_setFlag_23 : z_nop k_X6_setFlag 23 = o_iload 2 := rfl
theorem c_X6_setFlag_24 : z_nop k_X6_setFlag 24 = o_ic 1 := rfl
theorem c_X6_setFlag_25 : z_nop k_X6_setFlag 25 = o_icmp (fun x y => x ≠ y) 29 := rfl
theorem c_X6_setFlag_26 : z_nop k_X6_setFlag 26 = o_aload 0 := rfl
theorem c_X6_setFlag_27 : z_nop k_X6_setFlag 27 = o_iload 3 := rfl
theorem c_X6_setFlag_28 : z_nop k_X6_setFlag 28 = o_put 7 8 := rfl
theorem c_X6_setFlag_29 : z_nop k_X6_setFlag 29 = o_ret := rfl

def m_setFlag (M : zMem) (w i : Nat) (f v t : Int32) : zMem :=
  if v = 1 then (if f = 1 then z_up (z_up M 7 w i 3 (M.1 7 w i 3 ||| 1 <<< (f &&& 31))) 7 w i 8 t else z_up M 7 w i 3 (M.1 7 w i 3 ||| 1 <<< (f &&& 31)))
  else z_up M 7 w i 3 (M.1 7 w i 3 &&& (1 <<< (f &&& 31) ^^^ -1))
set_option maxRecDepth 100000 in
theorem s_setFlag {h : Nat} {M : zMem} {w i : Nat} {f v t : Int32} {K : zK} (q : K none (m_setFlag M w i f v t)) : z_call (h + 1) 84 [.inr (.inr (7, w, i)), .inl f, .inl v, .inl t] M K := by
  refine e_X6_setFlag rfl ?_
  refine z_wp_run (cut := []) 32 _ _ _ _ ?_
  repeat' (first | (simp only [z_wp, Bool.false_eq_true, ↓reduceIte, z_e10, z_e01, eq_self, Int32.reduceLT, Int32.reduceLE, Int32.reduceGT, Int32.reduceGE, z_in, cond_true, cond_false, Nat.reduceAdd, Nat.reduceBEq, z_nth, z_set, z_clr, z_st1, z_st2, z_isL, z_opt, z_pop, z_cats, z_cat, c_X6_setFlag_0, c_X6_setFlag_1, c_X6_setFlag_2, c_X6_setFlag_3, c_X6_setFlag_4, c_X6_setFlag_5, c_X6_setFlag_6, c_X6_setFlag_7, c_X6_setFlag_8, c_X6_setFlag_9, c_X6_setFlag_10, c_X6_setFlag_11, c_X6_setFlag_12, c_X6_setFlag_13, c_X6_setFlag_14, c_X6_setFlag_15, c_X6_setFlag_16, c_X6_setFlag_17, c_X6_setFlag_18, c_X6_setFlag_19, c_X6_setFlag_20, c_X6_setFlag_21, c_X6_setFlag_22, c_X6_setFlag_23, c_X6_setFlag_24, c_X6_setFlag_25, c_X6_setFlag_26, c_X6_setFlag_27, c_X6_setFlag_28, c_X6_setFlag_29, o_aload, o_bin, o_get, o_goto, o_ic, o_icmp, o_iload, o_put, o_ret, z_cv0, z_cl0, z_cv1, z_cl1, z_cv2, z_cl2, z_cv3, z_cl3, z_cv4, z_cl4, z_cv5, z_cl5, z_cv6, z_cl6, z_cv7, z_cl7, z_cv8, z_cl8, z_cv9, z_cl9, z_cv10, z_cl10, z_cv11, z_cl11, z_cv12, z_cl12, z_cv13, z_cl13, z_len, z_elt, z_isI, z_isJ, Nat.reduceEqDiff, Nat.reduceLeDiff, Nat.reduceLT, Nat.reduceSub, Nat.reduceMul, not_false_eq_true, not_true_eq_false, true_and, and_true, true_or, or_true, false_or, or_false, true_implies, false_implies, implies_true, forall_const, and_self, ne_eq, Classical.not_not, z_up1, z_up2, z_cp1, z_cp2, z_upL1, z_upL2, if_true, if_false, and_false, false_and]) | (with_reducible refine And.intro ?_ ?_) | (with_reducible intro _))
  all_goals (first | (with_reducible exact q) | ((try simp only [ge_iff_le, gt_iff_lt, ← Int32.not_lt, Classical.not_not] at *); (first | (with_reducible rfl) | rfl | (with_reducible exact z_vi_24 (by assumption) (by assumption)) | (with_reducible exact z_vi_4 (by assumption) (by assumption)) | (with_reducible exact z_vi_512 (by assumption) (by assumption)) | (with_reducible exact z_vi_14 (by assumption) (by assumption)) | (with_reducible exact z_vi_8 (by assumption) (by assumption)) | (with_reducible exact z_vinN (by assumption) (by assumption) (by decide)) | (with_reducible exact z_vin1 (by assumption) (by assumption) (by decide)) | ((try simp only [m_setFlag] at q); (try simp only [ge_iff_le, gt_iff_lt, ← Int32.not_lt, Classical.not_not] at q); (try simp only [*, if_true, if_false, ite_self, true_or, or_true, false_or, or_false, true_and, and_true, false_and, and_false, not_true_eq_false, not_false_eq_true, cond_true, cond_false, decide_true, decide_false, Bool.true_and, Bool.and_true, Bool.false_and, Bool.and_false, Bool.true_or, Bool.or_true, Bool.false_or, Bool.or_false, Bool.not_true, Bool.not_false, ne_eq, Nat.reduceEqDiff] at q); with_reducible exact q))) | (simp_all [m_setFlag]; done))
theorem e_X6_tells {h : Nat} {a0 : zId} {a1 : Int32} {a2 : Int32} {M : zMem} {K : zK} (ha0 : (a0.1 == 99) = false) (q : z_run (z_nop k_X6_tells) (z_call h) K 0 [.inr (.inr a0), .inl a1, .inl a2] [] M) : z_call (h + 1) 85 [.inr (.inr a0), .inl a1, .inl a2] M K := ⟨by simp only [List.all_cons, List.all_nil, z_isU, ha0]; rfl, q⟩
theorem c_X6_tells_0 : z_nop k_X6_tells 0 = o_iload 1 := rfl
theorem c_X6_tells_1 : z_nop k_X6_tells 1 = o_tsw 0 [2, 2, 2, 2, 2, 6, 13, 16, 19, 22, 25, 28, 40, 50] 53 := rfl
theorem c_X6_tells_2 : z_nop k_X6_tells 2 = o_aload 0 := rfl
theorem c_X6_tells_3 : z_nop k_X6_tells 3 = o_iload 1 := rfl
theorem c_X6_tells_4 : z_nop k_X6_tells 4 = o_callv 7 81 2 := rfl
theorem c_X6_tells_5 : z_nop k_X6_tells 5 = o_iret := rfl
theorem c_X6_tells_6 : z_nop k_X6_tells 6 = o_aload 0 := rfl
theorem c_X6_tells_7 : z_nop k_X6_tells 7 = o_callv 7 83 1 := rfl
theorem c_X6_tells_8 : z_nop k_X6_tells 8 = o_if (fun x => x = 0) 11 := rfl
theorem c_X6_tells_9 : z_nop k_X6_tells 9 = o_ic 1 := rfl
theorem c_X6_tells_10 : z_nop k_X6_tells 10 = o_goto 12 := rfl
theorem c_X6_tells_11 : z_nop k_X6_tells 11 = o_ic 0 := rfl
theorem c_X6_tells_12 : z_nop k_X6_tells 12 = o_iret := rfl
theorem c_X6_tells_13 : z_nop k_X6_tells 13 = o_aload 0 := rfl
theorem c_X6_tells_14 : z_nop k_X6_tells 14 = o_get 7 4 := rfl
theorem c_X6_tells_15 : z_nop k_X6_tells 15 = o_iret := rfl
theorem c_X6_tells_16 : z_nop k_X6_tells 16 = o_aload 0 := rfl
theorem c_X6_tells_17 : z_nop k_X6_tells 17 = o_get 7 5 := rfl
theorem c_X6_tells_18 : z_nop k_X6_tells 18 = o_iret := rfl
theorem c_X6_tells_19 : z_nop k_X6_tells 19 = o_aload 0 := rfl
theorem c_X6_tells_20 : z_nop k_X6_tells 20 = o_get 7 2 := rfl
theorem c_X6_tells_21 : z_nop k_X6_tells 21 = o_iret := rfl
theorem c_X6_tells_22 : z_nop k_X6_tells 22 = o_aload 0 := rfl
theorem c_X6_tells_23 : z_nop k_X6_tells 23 = o_get 7 6 := rfl
theorem c_X6_tells_24 : z_nop k_X6_tells 24 = o_iret := rfl
theorem c_X6_tells_25 : z_nop k_X6_tells 25 = o_aload 0 := rfl
theorem c_X6_tells_26 : z_nop k_X6_tells 26 = o_get 7 7 := rfl
theorem c_X6_tells_27 : z_nop k_X6_tells 27 = o_iret := rfl
theorem c_X6_tells_28 : z_nop k_X6_tells 28 = o_aload 0 := rfl
theorem c_X6_tells_29 : z_nop k_X6_tells 29 = o_ic 1 := rfl
theorem c_X6_tells_30 : z_nop k_X6_tells 30 = o_callv 7 81 2 := rfl
theorem c_X6_tells_31 : z_nop k_X6_tells 31 = o_ic 1 := rfl
theorem c_X6_tells_32 : z_nop k_X6_tells 32 = o_icmp (fun x y => x ≠ y) 38 := rfl
theorem c_X6_tells_33 : z_nop k_X6_tells 33 = o_iload 2 := rfl
theorem c_X6_tells_34 : z_nop k_X6_tells 34 = o_aload 0 := rfl
theorem c_X6_tells_35 : z_nop k_X6_tells 35 = o_get 7 8 := rfl
theorem c_X6_tells_36 : z_nop k_X6_tells 36 = o_bin (fun x y => x - y) := rfl
theorem c_X6_tells_37 : z_nop k_X6_tells 37 = o_goto 39 := rfl
theorem c_X6_tells_38 : z_nop k_X6_tells 38 = o_ic (-1) := rfl
theorem c_X6_tells_39 : z_nop k_X6_tells 39 = o_iret := rfl
theorem c_X6_tells_40 : z_nop k_X6_tells 40 = o_aload 0 := rfl
theorem c_X6_tells_41 : z_nop k_X6_tells 41 = o_callv 7 83 1 := rfl
theorem c_X6_tells_42 : z_nop k_X6_tells 42 = o_if (fun x => x = 0) 45 := rfl
theorem c_X6_tells_43 : z_nop k_X6_tells 43 = o_ic (-1) := rfl
theorem c_X6_tells_44 : z_nop k_X6_tells 44 = o_goto 49 := rfl
theorem c_X6_tells_45 : z_nop k_X6_tells 45 = o_iload 2 := rfl
theorem c_X6_tells_46 : z_nop k_X6_tells 46 = o_aload 0 := rfl
theorem c_X6_tells_47 : z_nop k_X6_tells 47 = o_get 7 9 := rfl
theorem c_X6_tells_48 : z_nop k_X6_tells 48 = o_bin (fun x y => x - y) := rfl
theorem c_X6_tells_49 : z_nop k_X6_tells 49 = o_iret := rfl
theorem c_X6_tells_50 : z_nop k_X6_tells 50 = o_aload 0 := rfl
theorem c_X6_tells_51 : z_nop k_X6_tells 51 = o_callv 7 79 1 := rfl
theorem c_X6_tells_52 : z_nop k_X6_tells 52 = o_iret := rfl
theorem c_X6_tells_53 : z_nop k_X6_tells 53 = o_ic (-2) := rfl
theorem c_X6_tells_54 : z_nop k_X6_tells 54 = o_iret := rfl

def r_tagTells (M : zMem) (w i : Nat) (k t : Int32) : Int32 :=
  if k = 0 ∨ k = 1 ∨ k = 2 ∨ k = 3 ∨ k = 4 then r_flag M w i k
  else if k = 5 then (if M.1 7 w i 9 = -1 then 1 else 0)
  else if k = 6 then M.1 7 w i 4 else if k = 7 then M.1 7 w i 5 else if k = 8 then M.1 7 w i 2 else if k = 9 then M.1 7 w i 6 else if k = 10 then M.1 7 w i 7
  else if k = 11 then (if r_flag M w i 1 = 1 then t - M.1 7 w i 8 else -1)
  else if k = 12 then (if M.1 7 w i 9 = -1 then -1 else t - M.1 7 w i 9)
  else if k = 13 then r_id M w i else -2
set_option maxRecDepth 100000 in
theorem s_tagTells {h w i : Nat} {M : zMem} {k t : Int32} {K : zK} (q : K (some (.inl (r_tagTells M w i k t))) M) : z_call (h + 2) 85 [.inr (.inr (7, w, i)), .inl k, .inl t] M K := by
  refine e_X6_tells rfl ?_
  refine z_wp_run (cut := [5, 8, 31, 42, 52]) 57 _ _ _ _ ?_
  repeat' (first | (simp only [z_wp, Bool.false_eq_true, ↓reduceIte, z_e10, z_e01, eq_self, Int32.reduceLT, Int32.reduceLE, Int32.reduceGT, Int32.reduceGE, z_in, cond_true, cond_false, Nat.reduceAdd, Nat.reduceBEq, z_nth, z_set, z_clr, z_st1, z_st2, z_isL, z_opt, z_pop, z_cats, z_cat, c_X6_tells_0, c_X6_tells_1, c_X6_tells_2, c_X6_tells_3, c_X6_tells_4, c_X6_tells_5, c_X6_tells_6, c_X6_tells_7, c_X6_tells_8, c_X6_tells_9, c_X6_tells_10, c_X6_tells_11, c_X6_tells_12, c_X6_tells_13, c_X6_tells_14, c_X6_tells_15, c_X6_tells_16, c_X6_tells_17, c_X6_tells_18, c_X6_tells_19, c_X6_tells_20, c_X6_tells_21, c_X6_tells_22, c_X6_tells_23, c_X6_tells_24, c_X6_tells_25, c_X6_tells_26, c_X6_tells_27, c_X6_tells_28, c_X6_tells_29, c_X6_tells_30, c_X6_tells_31, c_X6_tells_32, c_X6_tells_33, c_X6_tells_34, c_X6_tells_35, c_X6_tells_36, c_X6_tells_37, c_X6_tells_38, c_X6_tells_39, c_X6_tells_40, c_X6_tells_41, c_X6_tells_42, c_X6_tells_43, c_X6_tells_44, c_X6_tells_45, c_X6_tells_46, c_X6_tells_47, c_X6_tells_48, c_X6_tells_49, c_X6_tells_50, c_X6_tells_51, c_X6_tells_52, c_X6_tells_53, c_X6_tells_54, o_aload, o_bin, o_callv, o_get, o_goto, o_ic, o_icmp, o_if, o_iload, o_iret, o_tsw, z_cv0, z_cl0, z_cv1, z_cl1, z_cv2, z_cl2, z_cv3, z_cl3, z_cv4, z_cl4, z_cv5, z_cl5, z_cv6, z_cl6, z_cv7, z_cl7, z_cv8, z_cl8, z_cv9, z_cl9, z_cv10, z_cl10, z_cv11, z_cl11, z_cv12, z_cl12, z_cv13, z_cl13, z_len, z_elt, z_isI, z_isJ, Nat.reduceEqDiff, Nat.reduceLeDiff, Nat.reduceLT, Nat.reduceSub, Nat.reduceMul, not_false_eq_true, not_true_eq_false, true_and, and_true, true_or, or_true, false_or, or_false, true_implies, false_implies, implies_true, forall_const, and_self, ne_eq, Classical.not_not, z_up1, z_up2, z_cp1, z_cp2, z_upL1, z_upL2, if_true, if_false, and_false, false_and, z_cases, Int.reduceAdd]) | (refine s_flag ?_) | (refine s_hasPower ?_) | (refine s_id ?_) | (with_reducible refine And.intro ?_ ?_) | (with_reducible intro _) | (with_reducible refine z_go (i := 5) (cut := [5, 8, 31, 42, 52]) 57 ?_) | (with_reducible refine z_go (i := 8) (cut := [5, 8, 31, 42, 52]) 57 ?_) | (with_reducible refine z_go (i := 31) (cut := [5, 8, 31, 42, 52]) 57 ?_) | (with_reducible refine z_go (i := 42) (cut := [5, 8, 31, 42, 52]) 57 ?_) | (with_reducible refine z_go (i := 52) (cut := [5, 8, 31, 42, 52]) 57 ?_))
  all_goals (first | (with_reducible exact q) | ((try simp only [ge_iff_le, gt_iff_lt, ← Int32.not_lt, Classical.not_not] at *); (first | (with_reducible rfl) | rfl | (with_reducible exact z_vi_24 (by assumption) (by assumption)) | (with_reducible exact z_vi_4 (by assumption) (by assumption)) | (with_reducible exact z_vi_512 (by assumption) (by assumption)) | (with_reducible exact z_vi_14 (by assumption) (by assumption)) | (with_reducible exact z_vi_8 (by assumption) (by assumption)) | (with_reducible exact z_vinN (by assumption) (by assumption) (by decide)) | (with_reducible exact z_vin1 (by assumption) (by assumption) (by decide)) | ((try simp only [r_tagTells, r_hasPower] at q); (try simp only [ge_iff_le, gt_iff_lt, ← Int32.not_lt, Classical.not_not] at q); (try simp only [*, if_true, if_false, ite_self, true_or, or_true, false_or, or_false, true_and, and_true, false_and, and_false, not_true_eq_false, not_false_eq_true, cond_true, cond_false, decide_true, decide_false, Bool.true_and, Bool.and_true, Bool.false_and, Bool.and_false, Bool.true_or, Bool.or_true, Bool.false_or, Bool.or_false, Bool.not_true, Bool.not_false, ne_eq, Nat.reduceEqDiff] at q); with_reducible exact q))) | (simp_all [r_tagTells, r_hasPower]; done))
theorem e_X6_copyFrom {h : Nat} {a0 : zId} {a1 : zId} {M : zMem} {K : zK} (ha0 : (a0.1 == 99) = false) (ha1 : (a1.1 == 99) = false) (q : z_run (z_nop k_X6_copyFrom) (z_call h) K 0 [.inr (.inr a0), .inr (.inr a1)] [] M) : z_call (h + 1) 86 [.inr (.inr a0), .inr (.inr a1)] M K := ⟨by simp only [List.all_cons, List.all_nil, z_isU, ha0, ha1]; rfl, q⟩
theorem c_X6_copyFrom_0 : z_nop k_X6_copyFrom 0 = o_aload 0 := rfl
theorem c_X6_copyFrom_1 : z_nop k_X6_copyFrom 1 = o_aload 1 := rfl
theorem c_X6_copyFrom_2 : z_nop k_X6_copyFrom 2 = o_get 7 0 := rfl
theorem c_X6_copyFrom_3 : z_nop k_X6_copyFrom 3 = o_putz 7 0 := rfl
theorem c_X6_copyFrom_4 : z_nop k_X6_copyFrom 4 = o_aload 0 := rfl
theorem c_X6_copyFrom_5 : z_nop k_X6_copyFrom 5 = o_aload 1 := rfl
theorem c_X6_copyFrom_6 : z_nop k_X6_copyFrom 6 = o_get 7 1 := rfl
theorem c_X6_copyFrom_7 : z_nop k_X6_copyFrom 7 = o_put 7 1 := rfl
theorem c_X6_copyFrom_8 : z_nop k_X6_copyFrom 8 = o_aload 0 := rfl
theorem c_X6_copyFrom_9 : z_nop k_X6_copyFrom 9 = o_aload 1 := rfl
theorem c_X6_copyFrom_10 : z_nop k_X6_copyFrom 10 = o_get 7 2 := rfl
theorem c_X6_copyFrom_11 : z_nop k_X6_copyFrom 11 = o_put 7 2 := rfl
theorem c_X6_copyFrom_12 : z_nop k_X6_copyFrom 12 = o_aload 0 := rfl
theorem c_X6_copyFrom_13 : z_nop k_X6_copyFrom 13 = o_aload 1 := rfl
theorem c_X6_copyFrom_14 : z_nop k_X6_copyFrom 14 = o_get 7 3 := rfl
theorem c_X6_copyFrom_15 : z_nop k_X6_copyFrom 15 = o_put 7 3 := rfl
theorem c_X6_copyFrom_16 : z_nop k_X6_copyFrom 16 = o_aload 0 := rfl
theorem c_X6_copyFrom_17 : z_nop k_X6_copyFrom 17 = o_aload 1 := rfl
theorem c_X6_copyFrom_18 : z_nop k_X6_copyFrom 18 = o_get 7 4 := rfl
theorem c_X6_copyFrom_19 : z_nop k_X6_copyFrom 19 = o_put 7 4 := rfl
theorem c_X6_copyFrom_20 : z_nop k_X6_copyFrom 20 = o_aload 0 := rfl
theorem c_X6_copyFrom_21 : z_nop k_X6_copyFrom 21 = o_aload 1 := rfl
theorem c_X6_copyFrom_22 : z_nop k_X6_copyFrom 22 = o_get 7 5 := rfl
theorem c_X6_copyFrom_23 : z_nop k_X6_copyFrom 23 = o_put 7 5 := rfl
theorem c_X6_copyFrom_24 : z_nop k_X6_copyFrom 24 = o_aload 0 := rfl
theorem c_X6_copyFrom_25 : z_nop k_X6_copyFrom 25 = o_aload 1 := rfl
theorem c_X6_copyFrom_26 : z_nop k_X6_copyFrom 26 = o_get 7 6 := rfl
theorem c_X6_copyFrom_27 : z_nop k_X6_copyFrom 27 = o_put 7 6 := rfl
theorem c_X6_copyFrom_28 : z_nop k_X6_copyFrom 28 = o_aload 0 := rfl
theorem c_X6_copyFrom_29 : z_nop k_X6_copyFrom 29 = o_aload 1 := rfl
theorem c_X6_copyFrom_30 : z_nop k_X6_copyFrom 30 = o_get 7 7 := rfl
theorem c_X6_copyFrom_31 : z_nop k_X6_copyFrom 31 = o_put 7 7 := rfl
theorem c_X6_copyFrom_32 : z_nop k_X6_copyFrom 32 = o_aload 0 := rfl
theorem c_X6_copyFrom_33 : z_nop k_X6_copyFrom 33 = o_aload 1 := rfl
theorem c_X6_copyFrom_34 : z_nop k_X6_copyFrom 34 = o_get 7 8 := rfl
theorem c_X6_copyFrom_35 : z_nop k_X6_copyFrom 35 = o_put 7 8 := rfl
theorem c_X6_copyFrom_36 : z_nop k_X6_copyFrom 36 = o_aload 0 := rfl
theorem c_X6_copyFrom_37 : z_nop k_X6_copyFrom 37 = o_aload 1 := rfl
theorem c_X6_copyFrom_38 : z_nop k_X6_copyFrom 38 = o_get 7 9 := rfl
theorem c_X6_copyFrom_39 : z_nop k_X6_copyFrom 39 = o_put 7 9 := rfl
theorem c_X6_copyFrom_40 : z_nop k_X6_copyFrom 40 = o_ret := rfl

def m_tagCopy (M : zMem) (w i w2 : Nat) : zMem := z_up (z_up (z_up (z_up (z_up (z_up (z_up (z_up (z_up (z_up M 7 w i 0 (M.1 7 w2 i 0)) 7 w i 1 (M.1 7 w2 i 1)) 7 w i 2 (M.1 7 w2 i 2)) 7 w i 3 (M.1 7 w2 i 3)) 7 w i 4 (M.1 7 w2 i 4)) 7 w i 5 (M.1 7 w2 i 5)) 7 w i 6 (M.1 7 w2 i 6)) 7 w i 7 (M.1 7 w2 i 7)) 7 w i 8 (M.1 7 w2 i 8)) 7 w i 9 (M.1 7 w2 i 9)
set_option maxRecDepth 100000 in
theorem s_tagCopy {h w i w2 : Nat} {M : zMem} {K : zK} (h01 : M.1 7 w2 i 0 = 0 ∨ M.1 7 w2 i 0 = 1) (q : K none (m_tagCopy M w i w2)) : z_call (h + 1) 86 [.inr (.inr (7, w, i)), .inr (.inr (7, w2, i))] M K := by
  refine e_X6_copyFrom rfl rfl ?_
  refine z_wp_run (cut := []) 43 _ _ _ _ ?_
  repeat' (first | (simp only [z_wp, Bool.false_eq_true, ↓reduceIte, z_e10, z_e01, eq_self, Int32.reduceLT, Int32.reduceLE, Int32.reduceGT, Int32.reduceGE, z_in, cond_true, cond_false, Nat.reduceAdd, Nat.reduceBEq, z_nth, z_set, z_clr, z_st1, z_st2, z_isL, z_opt, z_pop, z_cats, z_cat, c_X6_copyFrom_0, c_X6_copyFrom_1, c_X6_copyFrom_2, c_X6_copyFrom_3, c_X6_copyFrom_4, c_X6_copyFrom_5, c_X6_copyFrom_6, c_X6_copyFrom_7, c_X6_copyFrom_8, c_X6_copyFrom_9, c_X6_copyFrom_10, c_X6_copyFrom_11, c_X6_copyFrom_12, c_X6_copyFrom_13, c_X6_copyFrom_14, c_X6_copyFrom_15, c_X6_copyFrom_16, c_X6_copyFrom_17, c_X6_copyFrom_18, c_X6_copyFrom_19, c_X6_copyFrom_20, c_X6_copyFrom_21, c_X6_copyFrom_22, c_X6_copyFrom_23, c_X6_copyFrom_24, c_X6_copyFrom_25, c_X6_copyFrom_26, c_X6_copyFrom_27, c_X6_copyFrom_28, c_X6_copyFrom_29, c_X6_copyFrom_30, c_X6_copyFrom_31, c_X6_copyFrom_32, c_X6_copyFrom_33, c_X6_copyFrom_34, c_X6_copyFrom_35, c_X6_copyFrom_36, c_X6_copyFrom_37, c_X6_copyFrom_38, c_X6_copyFrom_39, c_X6_copyFrom_40, o_aload, o_get, o_put, o_putz, o_ret, z_cv0, z_cl0, z_cv1, z_cl1, z_cv2, z_cl2, z_cv3, z_cl3, z_cv4, z_cl4, z_cv5, z_cl5, z_cv6, z_cl6, z_cv7, z_cl7, z_cv8, z_cl8, z_cv9, z_cl9, z_cv10, z_cl10, z_cv11, z_cl11, z_cv12, z_cl12, z_cv13, z_cl13, z_len, z_elt, z_isI, z_isJ, Nat.reduceEqDiff, Nat.reduceLeDiff, Nat.reduceLT, Nat.reduceSub, Nat.reduceMul, not_false_eq_true, not_true_eq_false, true_and, and_true, true_or, or_true, false_or, or_false, true_implies, false_implies, implies_true, forall_const, and_self, ne_eq, Classical.not_not, z_up1, z_up2, z_cp1, z_cp2, z_upL1, z_upL2, if_true, if_false, and_false, false_and]) | (with_reducible refine And.intro ?_ ?_) | (with_reducible intro _))
  all_goals (first | (with_reducible exact q) | ((try simp only [ge_iff_le, gt_iff_lt, ← Int32.not_lt, Classical.not_not] at *); (first | (with_reducible rfl) | rfl | (with_reducible exact z_vi_24 (by assumption) (by assumption)) | (with_reducible exact z_vi_4 (by assumption) (by assumption)) | (with_reducible exact z_vi_512 (by assumption) (by assumption)) | (with_reducible exact z_vi_14 (by assumption) (by assumption)) | (with_reducible exact z_vi_8 (by assumption) (by assumption)) | (with_reducible exact z_vinN (by assumption) (by assumption) (by decide)) | (with_reducible exact z_vin1 (by assumption) (by assumption) (by decide)) | ((try simp only [m_tagCopy] at q); (try simp only [ge_iff_le, gt_iff_lt, ← Int32.not_lt, Classical.not_not] at q); (try simp only [*, if_true, if_false, ite_self, true_or, or_true, false_or, or_false, true_and, and_true, false_and, and_false, not_true_eq_false, not_false_eq_true, cond_true, cond_false, decide_true, decide_false, Bool.true_and, Bool.and_true, Bool.false_and, Bool.and_false, Bool.true_or, Bool.or_true, Bool.false_or, Bool.or_false, Bool.not_true, Bool.not_false, ne_eq, Nat.reduceEqDiff] at q); with_reducible exact q))) | (simp_all [m_tagCopy]; done))
