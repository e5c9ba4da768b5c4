/-! Chances: hope, best, guess -/
theorem e_X0_bestFor {h : Nat} {a0 : zId} {a1 : Int32} {M : zMem} {K : zK} (ha0 : (a0.1 == 99) = false) (q : z_run (z_nop k_X0_bestFor) (z_call h) K 0 [.inr (.inr a0), .inl a1] [] M) : z_call (h + 1) 9 [.inr (.inr a0), .inl a1] M K := ⟨by simp only [List.all_cons, List.all_nil, z_isU, ha0]; rfl, q⟩
theorem c_X0_bestFor_0 : z_nop k_X0_bestFor 0 = o_iload 1 := rfl
theorem c_X0_bestFor_1 : z_nop k_X0_bestFor 1 = o_ic 1 := rfl
theorem c_X0_bestFor_2 : z_nop k_X0_bestFor 2 = o_icmp (fun x y => x < y) 6 := rfl
theorem c_X0_bestFor_3 : z_nop k_X0_bestFor 3 = o_iload 1 := rfl
theorem c_X0_bestFor_4 : z_nop k_X0_bestFor 4 = o_ic 12 := rfl
theorem c_X0_bestFor_5 : z_nop k_X0_bestFor 5 = o_icmp (fun x y => x ≤ y) 8 := rfl
theorem c_X0_bestFor_6 : z_nop k_X0_bestFor 6 = o_ic (-1) := rfl
theorem c_X0_bestFor_7 : z_nop k_X0_bestFor 7 = o_goto 12 := rfl
theorem c_X0_bestFor_8 : z_nop k_X0_bestFor 8 = o_aload 0 := rfl
theorem c_X0_bestFor_9 : z_nop k_X0_bestFor 9 = o_getr 1 (fun w i => (48, 0, 0)) := rfl
theorem c_X0_bestFor_10 : z_nop k_X0_bestFor 10 = o_iload 1 := rfl
theorem c_X0_bestFor_11 : z_nop k_X0_bestFor 11 = o_cald := rfl
theorem c_X0_bestFor_12 : z_nop k_X0_bestFor 12 = o_iret := rfl

theorem e_X0_mostHopeful {h : Nat} {a0 : Int32} {M : zMem} {K : zK} (q : z_run (z_nop k_X0_mostHopeful) (z_call h) K 0 [.inl a0, z_un, z_un] [] M) : z_call (h + 1) 276 [.inl a0] M K := ⟨by simp only [List.all_cons, List.all_nil, z_isU]; rfl, q⟩
theorem c_X0_mostHopeful_0 : z_nop k_X0_mostHopeful 0 = o_ic 0 := rfl
theorem c_X0_mostHopeful_1 : z_nop k_X0_mostHopeful 1 = o_istore 1 := rfl
theorem c_X0_mostHopeful_2 : z_nop k_X0_mostHopeful 2 = o_ic 1 := rfl
theorem c_X0_mostHopeful_3 : z_nop k_X0_mostHopeful 3 = o_istore 2 := rfl
theorem c_X0_mostHopeful_4 : z_nop k_X0_mostHopeful 4 = o_iload 2 := rfl
theorem c_X0_mostHopeful_5 : z_nop k_X0_mostHopeful 5 = o_ic 4 := rfl
theorem c_X0_mostHopeful_6 : z_nop k_X0_mostHopeful 6 = o_icmp (fun x y => x > y) 19 := rfl
theorem c_X0_mostHopeful_7 : z_nop k_X0_mostHopeful 7 = o_iload 0 := rfl
theorem c_X0_mostHopeful_8 : z_nop k_X0_mostHopeful 8 = o_iload 2 := rfl
theorem c_X0_mostHopeful_9 : z_nop k_X0_mostHopeful 9 = o_call 10 2 := rfl
theorem c_X0_mostHopeful_10 : z_nop k_X0_mostHopeful 10 = o_iload 0 := rfl
theorem c_X0_mostHopeful_11 : z_nop k_X0_mostHopeful 11 = o_iload 1 := rfl
theorem c_X0_mostHopeful_12 : z_nop k_X0_mostHopeful 12 = o_call 10 2 := rfl
theorem c_X0_mostHopeful_13 : z_nop k_X0_mostHopeful 13 = o_lcmp := rfl
theorem c_X0_mostHopeful_14 : z_nop k_X0_mostHopeful 14 = o_if (fun x => x ≤ 0) 17 := rfl
theorem c_X0_mostHopeful_15 : z_nop k_X0_mostHopeful 15 = o_iload 2 := rfl
theorem c_X0_mostHopeful_16 : z_nop k_X0_mostHopeful 16 = o_istore 1 := rfl
theorem c_X0_mostHopeful_17 : z_nop k_X0_mostHopeful 17 = o_iinc 2 1 := rfl
theorem c_X0_mostHopeful_18 : z_nop k_X0_mostHopeful 18 = o_goto 4 := rfl
theorem c_X0_mostHopeful_19 : z_nop k_X0_mostHopeful 19 = o_iload 1 := rfl
theorem c_X0_mostHopeful_20 : z_nop k_X0_mostHopeful 20 = o_iret := rfl

def r_bst (n : Int32) : Nat → Int32
  | 0 => 0
  | k + 1 => if r_hopeIn n (r_bst n k) < r_hopeIn n (nI (k + 1)) then nI (k + 1) else r_bst n k
theorem z_bsE : ∀ j, j < 13 → 1 ≤ j → z_bs j = r_bst (nI j) 4 := by decide +kernel
set_option maxRecDepth 100000 in
theorem s_bestFor0 {h : Nat} {M : zMem} {n : Int32} {K : zK} (hb : n < 1 ∨ ¬ n ≤ 12) (q : K (some (.inl (-1))) M) : z_call (h + 4) 9 [.inr (.inr (1, 0, 0)), .inl n] M K := by
  rcases hb with c | c
  · refine e_X0_bestFor rfl ?_
    refine z_wp_run (cut := []) 15 _ _ _ _ ?_
    repeat' (first | (simp only [z_wp, Bool.false_eq_true, ↓reduceIte, z_e10, z_e01, eq_self, Int32.reduceLT, Int32.reduceLE, Int32.reduceGT, Int32.reduceGE, z_in, cond_true, cond_false, Nat.reduceAdd, Nat.reduceBEq, z_nth, z_set, z_clr, z_st1, z_st2, z_isL, z_opt, z_pop, z_cats, z_cat, c_X0_bestFor_0, c_X0_bestFor_1, c_X0_bestFor_2, c_X0_bestFor_3, c_X0_bestFor_4, c_X0_bestFor_5, c_X0_bestFor_6, c_X0_bestFor_7, c_X0_bestFor_8, c_X0_bestFor_9, c_X0_bestFor_10, c_X0_bestFor_11, c_X0_bestFor_12, o_aload, o_cald, o_getr, o_goto, o_ic, o_icmp, o_iload, o_iret, z_cv0, z_cl0, z_cv1, z_cl1, z_cv2, z_cl2, z_cv3, z_cl3, z_cv4, z_cl4, z_cv5, z_cl5, z_cv6, z_cl6, z_cv7, z_cl7, z_cv8, z_cl8, z_cv9, z_cl9, z_cv10, z_cl10, z_cv11, z_cl11, z_cv12, z_cl12, z_cv13, z_cl13, z_len, z_elt, z_isI, z_isJ, Nat.reduceEqDiff, Nat.reduceLeDiff, Nat.reduceLT, Nat.reduceSub, Nat.reduceMul, not_false_eq_true, not_true_eq_false, true_and, and_true, true_or, or_true, false_or, or_false, true_implies, false_implies, implies_true, forall_const, and_self, ne_eq, Classical.not_not, z_up1, z_up2, z_cp1, z_cp2, z_upL1, z_upL2, if_true, if_false, and_false, false_and, c]) | (with_reducible refine And.intro ?_ ?_) | (with_reducible intro _))
    all_goals (exact q)
  · refine e_X0_bestFor rfl ?_
    refine z_wp_run (cut := []) 15 _ _ _ _ ?_
    repeat' (first | (simp only [z_wp, Bool.false_eq_true, ↓reduceIte, z_e10, z_e01, eq_self, Int32.reduceLT, Int32.reduceLE, Int32.reduceGT, Int32.reduceGE, z_in, cond_true, cond_false, Nat.reduceAdd, Nat.reduceBEq, z_nth, z_set, z_clr, z_st1, z_st2, z_isL, z_opt, z_pop, z_cats, z_cat, c_X0_bestFor_0, c_X0_bestFor_1, c_X0_bestFor_2, c_X0_bestFor_3, c_X0_bestFor_4, c_X0_bestFor_5, c_X0_bestFor_6, c_X0_bestFor_7, c_X0_bestFor_8, c_X0_bestFor_9, c_X0_bestFor_10, c_X0_bestFor_11, c_X0_bestFor_12, o_aload, o_cald, o_getr, o_goto, o_ic, o_icmp, o_iload, o_iret, z_cv0, z_cl0, z_cv1, z_cl1, z_cv2, z_cl2, z_cv3, z_cl3, z_cv4, z_cl4, z_cv5, z_cl5, z_cv6, z_cl6, z_cv7, z_cl7, z_cv8, z_cl8, z_cv9, z_cl9, z_cv10, z_cl10, z_cv11, z_cl11, z_cv12, z_cl12, z_cv13, z_cl13, z_len, z_elt, z_isI, z_isJ, Nat.reduceEqDiff, Nat.reduceLeDiff, Nat.reduceLT, Nat.reduceSub, Nat.reduceMul, not_false_eq_true, not_true_eq_false, true_and, and_true, true_or, or_true, false_or, or_false, true_implies, false_implies, implies_true, forall_const, and_self, ne_eq, Classical.not_not, z_up1, z_up2, z_cp1, z_cp2, z_upL1, z_upL2, if_true, if_false, and_false, false_and, c]) | (with_reducible refine And.intro ?_ ?_) | (with_reducible intro _))
    all_goals (exact q)
theorem z_n12 {n : Int32} (h1 : ¬ n < 1) (h2 : n ≤ 12) : ∃ j, n = nI j ∧ 1 ≤ j ∧ j ≤ 12 := by
  obtain ⟨g1, g2⟩ := z_nnat (x := n) (fun z => h1 (Int32.lt_of_lt_of_le z (by decide)))
  refine ⟨n.toNatClampNeg, g1, ?_, ?_⟩
  · rcases Nat.eq_zero_or_pos n.toNatClampNeg with z | z
    · rw [z] at g1
      exact (h1 (by rw [g1]; decide)).elim
    · exact z
  · rw [g1] at h2
    exact (nI_leI g2 (b := 12) (by decide)).mp h2
set_option maxRecDepth 100000 in
theorem s_bestFor {h : Nat} {M : zMem} {n : Int32} {K : zK} (h1 : ¬ n < 1) (h2 : n ≤ 12) (q : K (some (.inl (r_bst n 4))) M) : z_call (h + 4) 9 [.inr (.inr (1, 0, 0)), .inl n] M K := by
  obtain ⟨j, rfl, j1, j2⟩ := z_n12 h1 h2
  have e7 : vp_in (nI j) 13 := vp_in_nI (by omega) (by decide)
  have e8 : (nI j).toNatClampNeg = j := nI_clamp (by omega)
  rw [← z_bsE j (by omega) j1] at q
  refine e_X0_bestFor rfl ?_
  refine z_wp_run (cut := []) 15 _ _ _ _ ?_
  repeat' (first | (simp only [z_wp, Bool.false_eq_true, ↓reduceIte, z_e10, z_e01, eq_self, Int32.reduceLT, Int32.reduceLE, Int32.reduceGT, Int32.reduceGE, z_in, cond_true, cond_false, Nat.reduceAdd, Nat.reduceBEq, z_nth, z_set, z_clr, z_st1, z_st2, z_isL, z_opt, z_pop, z_cats, z_cat, c_X0_bestFor_0, c_X0_bestFor_1, c_X0_bestFor_2, c_X0_bestFor_3, c_X0_bestFor_4, c_X0_bestFor_5, c_X0_bestFor_6, c_X0_bestFor_7, c_X0_bestFor_8, c_X0_bestFor_9, c_X0_bestFor_10, c_X0_bestFor_11, c_X0_bestFor_12, o_aload, o_cald, o_getr, o_goto, o_ic, o_icmp, o_iload, o_iret, z_cv0, z_cl0, z_cv1, z_cl1, z_cv2, z_cl2, z_cv3, z_cl3, z_cv4, z_cl4, z_cv5, z_cl5, z_cv6, z_cl6, z_cv7, z_cl7, z_cv8, z_cl8, z_cv9, z_cl9, z_cv10, z_cl10, z_cv11, z_cl11, z_cv12, z_cl12, z_cv13, z_cl13, z_len, z_elt, z_isI, z_isJ, Nat.reduceEqDiff, Nat.reduceLeDiff, Nat.reduceLT, Nat.reduceSub, Nat.reduceMul, not_false_eq_true, not_true_eq_false, true_and, and_true, true_or, or_true, false_or, or_false, true_implies, false_implies, implies_true, forall_const, and_self, ne_eq, Classical.not_not, z_up1, z_up2, z_cp1, z_cp2, z_upL1, z_upL2, if_true, if_false, and_false, false_and, h1, h2, e7, e8]) | (with_reducible refine And.intro ?_ ?_) | (with_reducible intro _))
  all_goals (exact q)
set_option maxRecDepth 100000 in
theorem s_mostHopeful {h : Nat} {M : zMem} {n : Int32} {K : zK} (h1 : ¬ n < 1) (h2 : n ≤ 12) (q : K (some (.inl (r_bst n 4))) M) : z_call (h + 4) 276 [.inl n] M K := by
  have g1 : n - 1 < 1000 := by
    have a1 := Int32.le_iff_toInt_le.mp (Int32.not_lt.mp h1)
    have a2 := Int32.le_iff_toInt_le.mp h2
    have b1 : (1 : Int32).toInt = 1 := rfl
    have b2 : (12 : Int32).toInt = 12 := rfl
    rw [b1] at a1
    rw [b2] at a2
    apply Int32.lt_iff_toInt_lt.mpr
    rw [Int32.toInt_sub, b1]
    have b3 : (1000 : Int32).toInt = 1000 := rfl
    have b4 : (n.toInt - 1).bmod (2 ^ 32) = n.toInt - 1 := by apply Int.bmod_eq_of_le <;> omega
    rw [b3, b4]
    omega
  have g2 : n < 1000 := Int32.lt_of_le_of_lt h2 (by decide)
  refine e_X0_mostHopeful  ?_
  refine z_wp_run (cut := [4, 10, 13]) 23 _ _ _ _ ?_
  repeat' (first | (simp only [z_wp, Bool.false_eq_true, ↓reduceIte, z_e10, z_e01, eq_self, Int32.reduceLT, Int32.reduceLE, Int32.reduceGT, Int32.reduceGE, z_in, cond_true, cond_false, Nat.reduceAdd, Nat.reduceBEq, z_nth, z_set, z_clr, z_st1, z_st2, z_isL, z_opt, z_pop, z_cats, z_cat, c_X0_mostHopeful_0, c_X0_mostHopeful_1, c_X0_mostHopeful_2, c_X0_mostHopeful_3, c_X0_mostHopeful_4, c_X0_mostHopeful_5, c_X0_mostHopeful_6, c_X0_mostHopeful_7, c_X0_mostHopeful_8, c_X0_mostHopeful_9, c_X0_mostHopeful_10, c_X0_mostHopeful_11, c_X0_mostHopeful_12, c_X0_mostHopeful_13, c_X0_mostHopeful_14, c_X0_mostHopeful_15, c_X0_mostHopeful_16, c_X0_mostHopeful_17, c_X0_mostHopeful_18, c_X0_mostHopeful_19, c_X0_mostHopeful_20, o_call, o_goto, o_ic, o_icmp, o_if, o_iinc, o_iload, o_iret, o_istore, o_lcmp, z_cv0, z_cl0, z_cv1, z_cl1, z_cv2, z_cl2, z_cv3, z_cl3, z_cv4, z_cl4, z_cv5, z_cl5, z_cv6, z_cl6, z_cv7, z_cl7, z_cv8, z_cl8, z_cv9, z_cl9, z_cv10, z_cl10, z_cv11, z_cl11, z_cv12, z_cl12, z_cv13, z_cl13, z_len, z_elt, z_isI, z_isJ, Nat.reduceEqDiff, Nat.reduceLeDiff, Nat.reduceLT, Nat.reduceSub, Nat.reduceMul, not_false_eq_true, not_true_eq_false, true_and, and_true, true_or, or_true, false_or, or_false, true_implies, false_implies, implies_true, forall_const, and_self, ne_eq, Classical.not_not, z_up1, z_up2, z_cp1, z_cp2, z_upL1, z_upL2, if_true, if_false, and_false, false_and]) | (with_reducible refine And.intro ?_ ?_) | (with_reducible intro _) | (with_reducible refine z_go (i := 10) (cut := [4, 10, 13]) 23 ?_) | (with_reducible refine z_go (i := 13) (cut := [4, 10, 13]) 23 ?_))
  refine z_loop (fun k => z_run (z_nop k_X0_mostHopeful) (z_call (h + 3)) K 4 [.inl n, .inl (r_bst n k), .inl (nI (k + 1))] [] M) 4 ?_ ?_ 0 (by omega)
  · have f1 : (nI (4 + 1) > 4) = True := eq_true (by decide)
    refine z_go (cut := [4, 10, 13]) 23 ?_
    simp only [z_wp, Bool.false_eq_true, ↓reduceIte, z_e10, z_e01, eq_self, Int32.reduceLT, Int32.reduceLE, Int32.reduceGT, Int32.reduceGE, z_in, cond_true, cond_false, Nat.reduceAdd, Nat.reduceBEq, z_nth, z_set, z_clr, z_st1, z_st2, z_isL, z_opt, z_pop, z_cats, z_cat, c_X0_mostHopeful_0, c_X0_mostHopeful_1, c_X0_mostHopeful_2, c_X0_mostHopeful_3, c_X0_mostHopeful_4, c_X0_mostHopeful_5, c_X0_mostHopeful_6, c_X0_mostHopeful_7, c_X0_mostHopeful_8, c_X0_mostHopeful_9, c_X0_mostHopeful_10, c_X0_mostHopeful_11, c_X0_mostHopeful_12, c_X0_mostHopeful_13, c_X0_mostHopeful_14, c_X0_mostHopeful_15, c_X0_mostHopeful_16, c_X0_mostHopeful_17, c_X0_mostHopeful_18, c_X0_mostHopeful_19, c_X0_mostHopeful_20, o_call, o_goto, o_ic, o_icmp, o_if, o_iinc, o_iload, o_iret, o_istore, o_lcmp, z_cv0, z_cl0, z_cv1, z_cl1, z_cv2, z_cl2, z_cv3, z_cl3, z_cv4, z_cl4, z_cv5, z_cl5, z_cv6, z_cl6, z_cv7, z_cl7, z_cv8, z_cl8, z_cv9, z_cl9, z_cv10, z_cl10, z_cv11, z_cl11, z_cv12, z_cl12, z_cv13, z_cl13, z_len, z_elt, z_isI, z_isJ, Nat.reduceEqDiff, Nat.reduceLeDiff, Nat.reduceLT, Nat.reduceSub, Nat.reduceMul, not_false_eq_true, not_true_eq_false, true_and, and_true, true_or, or_true, false_or, or_false, true_implies, false_implies, implies_true, forall_const, and_self, ne_eq, Classical.not_not, z_up1, z_up2, z_cp1, z_cp2, z_upL1, z_upL2, if_true, if_false, and_false, false_and, f1]
    exact q
  · intro k hk ih
    have f1 : (nI (k + 1) > 4) = False := eq_false (nI_nlt (a := 4) (b := k + 1) (by omega) (by decide))
    have f3 : nI (k + 1) + 1 = nI (k + 1 + 1) := nI_1 _
    unfold r_bst at ih
    refine z_go (cut := [4, 10, 13]) 40 ?_
    simp only [z_wp, Bool.false_eq_true, ↓reduceIte, z_e10, z_e01, eq_self, Int32.reduceLT, Int32.reduceLE, Int32.reduceGT, Int32.reduceGE, z_in, cond_true, cond_false, Nat.reduceAdd, Nat.reduceBEq, z_nth, z_set, z_clr, z_st1, z_st2, z_isL, z_opt, z_pop, z_cats, z_cat, c_X0_mostHopeful_0, c_X0_mostHopeful_1, c_X0_mostHopeful_2, c_X0_mostHopeful_3, c_X0_mostHopeful_4, c_X0_mostHopeful_5, c_X0_mostHopeful_6, c_X0_mostHopeful_7, c_X0_mostHopeful_8, c_X0_mostHopeful_9, c_X0_mostHopeful_10, c_X0_mostHopeful_11, c_X0_mostHopeful_12, c_X0_mostHopeful_13, c_X0_mostHopeful_14, c_X0_mostHopeful_15, c_X0_mostHopeful_16, c_X0_mostHopeful_17, c_X0_mostHopeful_18, c_X0_mostHopeful_19, c_X0_mostHopeful_20, o_call, o_goto, o_ic, o_icmp, o_if, o_iinc, o_iload, o_iret, o_istore, o_lcmp, z_cv0, z_cl0, z_cv1, z_cl1, z_cv2, z_cl2, z_cv3, z_cl3, z_cv4, z_cl4, z_cv5, z_cl5, z_cv6, z_cl6, z_cv7, z_cl7, z_cv8, z_cl8, z_cv9, z_cl9, z_cv10, z_cl10, z_cv11, z_cl11, z_cv12, z_cl12, z_cv13, z_cl13, z_len, z_elt, z_isI, z_isJ, Nat.reduceEqDiff, Nat.reduceLeDiff, Nat.reduceLT, Nat.reduceSub, Nat.reduceMul, not_false_eq_true, not_true_eq_false, true_and, and_true, true_or, or_true, false_or, or_false, true_implies, false_implies, implies_true, forall_const, and_self, ne_eq, Classical.not_not, z_up1, z_up2, z_cp1, z_cp2, z_upL1, z_upL2, if_true, if_false, and_false, false_and, f1]
    refine s_hopeIn g1 g2 ?_
    refine z_go (cut := [4, 10, 13]) 40 ?_
    simp only [z_wp, Bool.false_eq_true, ↓reduceIte, z_e10, z_e01, eq_self, Int32.reduceLT, Int32.reduceLE, Int32.reduceGT, Int32.reduceGE, z_in, cond_true, cond_false, Nat.reduceAdd, Nat.reduceBEq, z_nth, z_set, z_clr, z_st1, z_st2, z_isL, z_opt, z_pop, z_cats, z_cat, c_X0_mostHopeful_0, c_X0_mostHopeful_1, c_X0_mostHopeful_2, c_X0_mostHopeful_3, c_X0_mostHopeful_4, c_X0_mostHopeful_5, c_X0_mostHopeful_6, c_X0_mostHopeful_7, c_X0_mostHopeful_8, c_X0_mostHopeful_9, c_X0_mostHopeful_10, c_X0_mostHopeful_11, c_X0_mostHopeful_12, c_X0_mostHopeful_13, c_X0_mostHopeful_14, c_X0_mostHopeful_15, c_X0_mostHopeful_16, c_X0_mostHopeful_17, c_X0_mostHopeful_18, c_X0_mostHopeful_19, c_X0_mostHopeful_20, o_call, o_goto, o_ic, o_icmp, o_if, o_iinc, o_iload, o_iret, o_istore, o_lcmp, z_cv0, z_cl0, z_cv1, z_cl1, z_cv2, z_cl2, z_cv3, z_cl3, z_cv4, z_cl4, z_cv5, z_cl5, z_cv6, z_cl6, z_cv7, z_cl7, z_cv8, z_cl8, z_cv9, z_cl9, z_cv10, z_cl10, z_cv11, z_cl11, z_cv12, z_cl12, z_cv13, z_cl13, z_len, z_elt, z_isI, z_isJ, Nat.reduceEqDiff, Nat.reduceLeDiff, Nat.reduceLT, Nat.reduceSub, Nat.reduceMul, not_false_eq_true, not_true_eq_false, true_and, and_true, true_or, or_true, false_or, or_false, true_implies, false_implies, implies_true, forall_const, and_self, ne_eq, Classical.not_not, z_up1, z_up2, z_cp1, z_cp2, z_upL1, z_upL2, if_true, if_false, and_false, false_and]
    refine s_hopeIn g1 g2 ?_
    refine z_go (cut := [4, 10, 13]) 40 ?_
    simp only [z_wp, Bool.false_eq_true, ↓reduceIte, z_e10, z_e01, eq_self, Int32.reduceLT, Int32.reduceLE, Int32.reduceGT, Int32.reduceGE, z_in, cond_true, cond_false, Nat.reduceAdd, Nat.reduceBEq, z_nth, z_set, z_clr, z_st1, z_st2, z_isL, z_opt, z_pop, z_cats, z_cat, c_X0_mostHopeful_0, c_X0_mostHopeful_1, c_X0_mostHopeful_2, c_X0_mostHopeful_3, c_X0_mostHopeful_4, c_X0_mostHopeful_5, c_X0_mostHopeful_6, c_X0_mostHopeful_7, c_X0_mostHopeful_8, c_X0_mostHopeful_9, c_X0_mostHopeful_10, c_X0_mostHopeful_11, c_X0_mostHopeful_12, c_X0_mostHopeful_13, c_X0_mostHopeful_14, c_X0_mostHopeful_15, c_X0_mostHopeful_16, c_X0_mostHopeful_17, c_X0_mostHopeful_18, c_X0_mostHopeful_19, c_X0_mostHopeful_20, o_call, o_goto, o_ic, o_icmp, o_if, o_iinc, o_iload, o_iret, o_istore, o_lcmp, z_cv0, z_cl0, z_cv1, z_cl1, z_cv2, z_cl2, z_cv3, z_cl3, z_cv4, z_cl4, z_cv5, z_cl5, z_cv6, z_cl6, z_cv7, z_cl7, z_cv8, z_cl8, z_cv9, z_cl9, z_cv10, z_cl10, z_cv11, z_cl11, z_cv12, z_cl12, z_cv13, z_cl13, z_len, z_elt, z_isI, z_isJ, Nat.reduceEqDiff, Nat.reduceLeDiff, Nat.reduceLT, Nat.reduceSub, Nat.reduceMul, not_false_eq_true, not_true_eq_false, true_and, and_true, true_or, or_true, false_or, or_false, true_implies, false_implies, implies_true, forall_const, and_self, ne_eq, Classical.not_not, z_up1, z_up2, z_cp1, z_cp2, z_upL1, z_upL2, if_true, if_false, and_false, false_and, z_cmpl, f3]
    refine ⟨fun c => ?_, fun c => ?_⟩
    · rw [if_neg c] at ih
      exact ih
    · rw [if_pos c] at ih
      exact ih
theorem e_X0_hopeOf {h : Nat} {a0 : zId} {a1 : Int32} {a2 : Int32} {a3 : Int32} {M : zMem} {K : zK} (ha0 : (a0.1 == 99) = false) (q : z_run (z_nop k_X0_hopeOf) (z_call h) K 0 [.inr (.inr a0), .inl a1, .inl a2, .inl a3, z_un, z_un, z_un, z_un, z_un, z_un] [] M) : z_call (h + 1) 8 [.inr (.inr a0), .inl a1, .inl a2, .inl a3] M K := ⟨by simp only [List.all_cons, List.all_nil, z_isU, ha0]; rfl, q⟩
theorem c_X0_hopeOf_0 : z_nop k_X0_hopeOf 0 = o_iload 1 := rfl
theorem c_X0_hopeOf_1 : z_nop k_X0_hopeOf 1 = o_iload 2 := rfl
theorem c_X0_hopeOf_2 : z_nop k_X0_hopeOf 2 = o_call 5 2 := rfl
theorem c_X0_hopeOf_3 : z_nop k_X0_hopeOf 3 = o_if (fun x => x = 0) 9 := rfl
theorem c_X0_hopeOf_4 : z_nop k_X0_hopeOf 4 = o_iload 3 := rfl
theorem c_X0_hopeOf_5 : z_nop k_X0_hopeOf 5 = o_if (fun x => x < 0) 9 := rfl
theorem c_X0_hopeOf_6 : z_nop k_X0_hopeOf 6 = o_iload 3 := rfl
theorem c_X0_hopeOf_7 : z_nop k_X0_hopeOf 7 = o_ic 1 := rfl
theorem c_X0_hopeOf_8 : z_nop k_X0_hopeOf 8 = o_icmp (fun x y => x ≤ y) 11 := rfl
theorem c_X0_hopeOf_9 : z_nop k_X0_hopeOf 9 = o_lc (-1) := rfl
theorem c_X0_hopeOf_10 : z_nop k_X0_hopeOf 10 = o_lret := rfl
theorem c_X0_hopeOf_11 : z_nop k_X0_hopeOf 11 = o_iload 1 := rfl
theorem c_X0_hopeOf_12 : z_nop k_X0_hopeOf 12 = o_ic 1 := rfl
theorem c_X0_hopeOf_13 : z_nop k_X0_hopeOf 13 = o_iload 2 := rfl
theorem c_X0_hopeOf_14 : z_nop k_X0_hopeOf 14 = o_bin (fun x y => x <<< (y &&& 31)) := rfl
theorem c_X0_hopeOf_15 : z_nop k_X0_hopeOf 15 = o_call 7 2 := rfl
theorem c_X0_hopeOf_16 : z_nop k_X0_hopeOf 16 = o_lstore 4 := rfl
theorem c_X0_hopeOf_17 : z_nop k_X0_hopeOf 17 = o_ic 1 := rfl
theorem c_X0_hopeOf_18 : z_nop k_X0_hopeOf 18 = o_iload 2 := rfl
theorem c_X0_hopeOf_19 : z_nop k_X0_hopeOf 19 = o_bin (fun x y => x <<< (y &&& 31)) := rfl
theorem c_X0_hopeOf_20 : z_nop k_X0_hopeOf 20 = o_i2l := rfl
theorem c_X0_hopeOf_21 : z_nop k_X0_hopeOf 21 = o_iload 1 := rfl
theorem c_X0_hopeOf_22 : z_nop k_X0_hopeOf 22 = o_ic 1 := rfl
theorem c_X0_hopeOf_23 : z_nop k_X0_hopeOf 23 = o_bin (fun x y => x - y) := rfl
theorem c_X0_hopeOf_24 : z_nop k_X0_hopeOf 24 = o_call 4 2 := rfl
theorem c_X0_hopeOf_25 : z_nop k_X0_hopeOf 25 = o_lstore 6 := rfl
theorem c_X0_hopeOf_26 : z_nop k_X0_hopeOf 26 = o_lload 4 := rfl
theorem c_X0_hopeOf_27 : z_nop k_X0_hopeOf 27 = o_lload 6 := rfl
theorem c_X0_hopeOf_28 : z_nop k_X0_hopeOf 28 = o_call 161 2 := rfl
theorem c_X0_hopeOf_29 : z_nop k_X0_hopeOf 29 = o_lstore 8 := rfl
theorem c_X0_hopeOf_30 : z_nop k_X0_hopeOf 30 = o_lload 8 := rfl
theorem c_X0_hopeOf_31 : z_nop k_X0_hopeOf 31 = o_lc 0 := rfl
theorem c_X0_hopeOf_32 : z_nop k_X0_hopeOf 32 = o_lcmp := rfl
theorem c_X0_hopeOf_33 : z_nop k_X0_hopeOf 33 = o_if (fun x => x ≠ 0) 36 := rfl
theorem c_X0_hopeOf_34 : z_nop k_X0_hopeOf 34 = o_lc (-1) := rfl
theorem c_X0_hopeOf_35 : z_nop k_X0_hopeOf 35 = o_goto 43 := rfl
theorem c_X0_hopeOf_36 : z_nop k_X0_hopeOf 36 = o_iload 3 := rfl
theorem c_X0_hopeOf_37 : z_nop k_X0_hopeOf 37 = o_if (fun x => x ≠ 0) 40 := rfl
theorem c_X0_hopeOf_38 : z_nop k_X0_hopeOf 38 = o_lload 4 := rfl
theorem c_X0_hopeOf_39 : z_nop k_X0_hopeOf 39 = o_goto 41 := rfl
theorem c_X0_hopeOf_40 : z_nop k_X0_hopeOf 40 = o_lload 6 := rfl
theorem c_X0_hopeOf_41 : z_nop k_X0_hopeOf 41 = o_lload 8 := rfl
theorem c_X0_hopeOf_42 : z_nop k_X0_hopeOf 42 = o_divl (fun x y => x / y) := rfl
theorem c_X0_hopeOf_43 : z_nop k_X0_hopeOf 43 = o_lret := rfl

def r_hopeOf (n q : Int32) (k : Int32) : Int64 :=
  let a := r_hopeAbove n (1 <<< (q &&& 31))
  let b := r_raised ((1 : Int32) <<< (q &&& 31)).toInt64 (n - 1).toNatClampNeg
  let g := r_cd 200 a b
  if g = 0 then -1 else if k = 0 then a / g else b / g
set_option maxRecDepth 100000 in
theorem s_hopeOf0 {h : Nat} {M : zMem} {n q k : Int32} {K : zK} (hb : r_isKnown n q = 0 ∨ k < 0 ∨ ¬ k ≤ 1) (q0 : K (some (.inr (.inl (-1)))) M) : z_call (h + 3) 8 [.inr (.inr (1, 0, 0)), .inl n, .inl q, .inl k] M K := by
  rcases hb with c | c | c
  · refine e_X0_hopeOf rfl ?_
    refine z_wp_run (cut := [3, 16, 25, 29]) 46 _ _ _ _ ?_
    repeat' (first | (simp only [z_wp, Bool.false_eq_true, ↓reduceIte, z_e10, z_e01, eq_self, Int32.reduceLT, Int32.reduceLE, Int32.reduceGT, Int32.reduceGE, z_in, cond_true, cond_false, Nat.reduceAdd, Nat.reduceBEq, z_nth, z_set, z_clr, z_st1, z_st2, z_isL, z_opt, z_pop, z_cats, z_cat, c_X0_hopeOf_0, c_X0_hopeOf_1, c_X0_hopeOf_2, c_X0_hopeOf_3, c_X0_hopeOf_4, c_X0_hopeOf_5, c_X0_hopeOf_6, c_X0_hopeOf_7, c_X0_hopeOf_8, c_X0_hopeOf_9, c_X0_hopeOf_10, c_X0_hopeOf_11, c_X0_hopeOf_12, c_X0_hopeOf_13, c_X0_hopeOf_14, c_X0_hopeOf_15, c_X0_hopeOf_16, c_X0_hopeOf_17, c_X0_hopeOf_18, c_X0_hopeOf_19, c_X0_hopeOf_20, c_X0_hopeOf_21, c_X0_hopeOf_22, c_X0_hopeOf_23, c_X0_hopeOf_24, c_X0_hopeOf_25, c_X0_hopeOf_26, c_X0_hopeOf_27, c_X0_hopeOf_28, c_X0_hopeOf_29, c_X0_hopeOf_30, c_X0_hopeOf_31, c_X0_hopeOf_32, c_X0_hopeOf_33, c_X0_hopeOf_34, c_X0_hopeOf_35, c_X0_hopeOf_36, c_X0_hopeOf_37, c_X0_hopeOf_38, c_X0_hopeOf_39, c_X0_hopeOf_40, c_X0_hopeOf_41, c_X0_hopeOf_42, c_X0_hopeOf_43, o_bin, o_call, o_divl, o_goto, o_i2l, o_ic, o_icmp, o_if, o_iload, o_lc, o_lcmp, o_lload, o_lret, o_lstore, z_cv0, z_cl0, z_cv1, z_cl1, z_cv2, z_cl2, z_cv3, z_cl3, z_cv4, z_cl4, z_cv5, z_cl5, z_cv6, z_cl6, z_cv7, z_cl7, z_cv8, z_cl8, z_cv9, z_cl9, z_cv10, z_cl10, z_cv11, z_cl11, z_cv12, z_cl12, z_cv13, z_cl13, z_len, z_elt, z_isI, z_isJ, Nat.reduceEqDiff, Nat.reduceLeDiff, Nat.reduceLT, Nat.reduceSub, Nat.reduceMul, not_false_eq_true, not_true_eq_false, true_and, and_true, true_or, or_true, false_or, or_false, true_implies, false_implies, implies_true, forall_const, and_self, ne_eq, Classical.not_not, z_up1, z_up2, z_cp1, z_cp2, z_upL1, z_upL2, if_true, if_false, and_false, false_and, c]) | (refine s_isKnown ?_) | (with_reducible refine And.intro ?_ ?_) | (with_reducible intro _) | (with_reducible refine z_go (i := 3) (cut := [3, 16, 25, 29]) 46 ?_) | (with_reducible refine z_go (i := 16) (cut := [3, 16, 25, 29]) 46 ?_) | (with_reducible refine z_go (i := 25) (cut := [3, 16, 25, 29]) 46 ?_) | (with_reducible refine z_go (i := 29) (cut := [3, 16, 25, 29]) 46 ?_))
    all_goals (exact q0)
  · refine e_X0_hopeOf rfl ?_
    refine z_wp_run (cut := [3, 16, 25, 29]) 46 _ _ _ _ ?_
    repeat' (first | (simp only [z_wp, Bool.false_eq_true, ↓reduceIte, z_e10, z_e01, eq_self, Int32.reduceLT, Int32.reduceLE, Int32.reduceGT, Int32.reduceGE, z_in, cond_true, cond_false, Nat.reduceAdd, Nat.reduceBEq, z_nth, z_set, z_clr, z_st1, z_st2, z_isL, z_opt, z_pop, z_cats, z_cat, c_X0_hopeOf_0, c_X0_hopeOf_1, c_X0_hopeOf_2, c_X0_hopeOf_3, c_X0_hopeOf_4, c_X0_hopeOf_5, c_X0_hopeOf_6, c_X0_hopeOf_7, c_X0_hopeOf_8, c_X0_hopeOf_9, c_X0_hopeOf_10, c_X0_hopeOf_11, c_X0_hopeOf_12, c_X0_hopeOf_13, c_X0_hopeOf_14, c_X0_hopeOf_15, c_X0_hopeOf_16, c_X0_hopeOf_17, c_X0_hopeOf_18, c_X0_hopeOf_19, c_X0_hopeOf_20, c_X0_hopeOf_21, c_X0_hopeOf_22, c_X0_hopeOf_23, c_X0_hopeOf_24, c_X0_hopeOf_25, c_X0_hopeOf_26, c_X0_hopeOf_27, c_X0_hopeOf_28, c_X0_hopeOf_29, c_X0_hopeOf_30, c_X0_hopeOf_31, c_X0_hopeOf_32, c_X0_hopeOf_33, c_X0_hopeOf_34, c_X0_hopeOf_35, c_X0_hopeOf_36, c_X0_hopeOf_37, c_X0_hopeOf_38, c_X0_hopeOf_39, c_X0_hopeOf_40, c_X0_hopeOf_41, c_X0_hopeOf_42, c_X0_hopeOf_43, o_bin, o_call, o_divl, o_goto, o_i2l, o_ic, o_icmp, o_if, o_iload, o_lc, o_lcmp, o_lload, o_lret, o_lstore, z_cv0, z_cl0, z_cv1, z_cl1, z_cv2, z_cl2, z_cv3, z_cl3, z_cv4, z_cl4, z_cv5, z_cl5, z_cv6, z_cl6, z_cv7, z_cl7, z_cv8, z_cl8, z_cv9, z_cl9, z_cv10, z_cl10, z_cv11, z_cl11, z_cv12, z_cl12, z_cv13, z_cl13, z_len, z_elt, z_isI, z_isJ, Nat.reduceEqDiff, Nat.reduceLeDiff, Nat.reduceLT, Nat.reduceSub, Nat.reduceMul, not_false_eq_true, not_true_eq_false, true_and, and_true, true_or, or_true, false_or, or_false, true_implies, false_implies, implies_true, forall_const, and_self, ne_eq, Classical.not_not, z_up1, z_up2, z_cp1, z_cp2, z_upL1, z_upL2, if_true, if_false, and_false, false_and, c]) | (refine s_isKnown ?_) | (with_reducible refine And.intro ?_ ?_) | (with_reducible intro _) | (with_reducible refine z_go (i := 3) (cut := [3, 16, 25, 29]) 46 ?_) | (with_reducible refine z_go (i := 16) (cut := [3, 16, 25, 29]) 46 ?_) | (with_reducible refine z_go (i := 25) (cut := [3, 16, 25, 29]) 46 ?_) | (with_reducible refine z_go (i := 29) (cut := [3, 16, 25, 29]) 46 ?_))
    all_goals (exact q0)
  · refine e_X0_hopeOf rfl ?_
    refine z_wp_run (cut := [3, 16, 25, 29]) 46 _ _ _ _ ?_
    repeat' (first | (simp only [z_wp, Bool.false_eq_true, ↓reduceIte, z_e10, z_e01, eq_self, Int32.reduceLT, Int32.reduceLE, Int32.reduceGT, Int32.reduceGE, z_in, cond_true, cond_false, Nat.reduceAdd, Nat.reduceBEq, z_nth, z_set, z_clr, z_st1, z_st2, z_isL, z_opt, z_pop, z_cats, z_cat, c_X0_hopeOf_0, c_X0_hopeOf_1, c_X0_hopeOf_2, c_X0_hopeOf_3, c_X0_hopeOf_4, c_X0_hopeOf_5, c_X0_hopeOf_6, c_X0_hopeOf_7, c_X0_hopeOf_8, c_X0_hopeOf_9, c_X0_hopeOf_10, c_X0_hopeOf_11, c_X0_hopeOf_12, c_X0_hopeOf_13, c_X0_hopeOf_14, c_X0_hopeOf_15, c_X0_hopeOf_16, c_X0_hopeOf_17, c_X0_hopeOf_18, c_X0_hopeOf_19, c_X0_hopeOf_20, c_X0_hopeOf_21, c_X0_hopeOf_22, c_X0_hopeOf_23, c_X0_hopeOf_24, c_X0_hopeOf_25, c_X0_hopeOf_26, c_X0_hopeOf_27, c_X0_hopeOf_28, c_X0_hopeOf_29, c_X0_hopeOf_30, c_X0_hopeOf_31, c_X0_hopeOf_32, c_X0_hopeOf_33, c_X0_hopeOf_34, c_X0_hopeOf_35, c_X0_hopeOf_36, c_X0_hopeOf_37, c_X0_hopeOf_38, c_X0_hopeOf_39, c_X0_hopeOf_40, c_X0_hopeOf_41, c_X0_hopeOf_42, c_X0_hopeOf_43, o_bin, o_call, o_divl, o_goto, o_i2l, o_ic, o_icmp, o_if, o_iload, o_lc, o_lcmp, o_lload, o_lret, o_lstore, z_cv0, z_cl0, z_cv1, z_cl1, z_cv2, z_cl2, z_cv3, z_cl3, z_cv4, z_cl4, z_cv5, z_cl5, z_cv6, z_cl6, z_cv7, z_cl7, z_cv8, z_cl8, z_cv9, z_cl9, z_cv10, z_cl10, z_cv11, z_cl11, z_cv12, z_cl12, z_cv13, z_cl13, z_len, z_elt, z_isI, z_isJ, Nat.reduceEqDiff, Nat.reduceLeDiff, Nat.reduceLT, Nat.reduceSub, Nat.reduceMul, not_false_eq_true, not_true_eq_false, true_and, and_true, true_or, or_true, false_or, or_false, true_implies, false_implies, implies_true, forall_const, and_self, ne_eq, Classical.not_not, z_up1, z_up2, z_cp1, z_cp2, z_upL1, z_upL2, if_true, if_false, and_false, false_and, c]) | (refine s_isKnown ?_) | (with_reducible refine And.intro ?_ ?_) | (with_reducible intro _) | (with_reducible refine z_go (i := 3) (cut := [3, 16, 25, 29]) 46 ?_) | (with_reducible refine z_go (i := 16) (cut := [3, 16, 25, 29]) 46 ?_) | (with_reducible refine z_go (i := 25) (cut := [3, 16, 25, 29]) 46 ?_) | (with_reducible refine z_go (i := 29) (cut := [3, 16, 25, 29]) 46 ?_))
    all_goals (exact q0)
set_option maxRecDepth 100000 in
theorem s_hopeOf {h : Nat} {M : zMem} {n q k : Int32} {K : zK} (h1 : r_isKnown n q = 1) (h2 : ¬ k < 0) (h3 : k ≤ 1) (g1 : n - 1 < 1000) (q0 : K (some (.inr (.inl (r_hopeOf n q k)))) M) : z_call (h + 3) 8 [.inr (.inr (1, 0, 0)), .inl n, .inl q, .inl k] M K := by
  unfold r_hopeOf at q0
  refine e_X0_hopeOf rfl ?_
  refine z_wp_run (cut := [3, 16, 25, 29]) 46 _ _ _ _ ?_
  repeat' (first | (simp only [z_wp, Bool.false_eq_true, ↓reduceIte, z_e10, z_e01, eq_self, Int32.reduceLT, Int32.reduceLE, Int32.reduceGT, Int32.reduceGE, z_in, cond_true, cond_false, Nat.reduceAdd, Nat.reduceBEq, z_nth, z_set, z_clr, z_st1, z_st2, z_isL, z_opt, z_pop, z_cats, z_cat, c_X0_hopeOf_0, c_X0_hopeOf_1, c_X0_hopeOf_2, c_X0_hopeOf_3, c_X0_hopeOf_4, c_X0_hopeOf_5, c_X0_hopeOf_6, c_X0_hopeOf_7, c_X0_hopeOf_8, c_X0_hopeOf_9, c_X0_hopeOf_10, c_X0_hopeOf_11, c_X0_hopeOf_12, c_X0_hopeOf_13, c_X0_hopeOf_14, c_X0_hopeOf_15, c_X0_hopeOf_16, c_X0_hopeOf_17, c_X0_hopeOf_18, c_X0_hopeOf_19, c_X0_hopeOf_20, c_X0_hopeOf_21, c_X0_hopeOf_22, c_X0_hopeOf_23, c_X0_hopeOf_24, c_X0_hopeOf_25, c_X0_hopeOf_26, c_X0_hopeOf_27, c_X0_hopeOf_28, c_X0_hopeOf_29, c_X0_hopeOf_30, c_X0_hopeOf_31, c_X0_hopeOf_32, c_X0_hopeOf_33, c_X0_hopeOf_34, c_X0_hopeOf_35, c_X0_hopeOf_36, c_X0_hopeOf_37, c_X0_hopeOf_38, c_X0_hopeOf_39, c_X0_hopeOf_40, c_X0_hopeOf_41, c_X0_hopeOf_42, c_X0_hopeOf_43, o_bin, o_call, o_divl, o_goto, o_i2l, o_ic, o_icmp, o_if, o_iload, o_lc, o_lcmp, o_lload, o_lret, o_lstore, z_cv0, z_cl0, z_cv1, z_cl1, z_cv2, z_cl2, z_cv3, z_cl3, z_cv4, z_cl4, z_cv5, z_cl5, z_cv6, z_cl6, z_cv7, z_cl7, z_cv8, z_cl8, z_cv9, z_cl9, z_cv10, z_cl10, z_cv11, z_cl11, z_cv12, z_cl12, z_cv13, z_cl13, z_len, z_elt, z_isI, z_isJ, Nat.reduceEqDiff, Nat.reduceLeDiff, Nat.reduceLT, Nat.reduceSub, Nat.reduceMul, not_false_eq_true, not_true_eq_false, true_and, and_true, true_or, or_true, false_or, or_false, true_implies, false_implies, implies_true, forall_const, and_self, ne_eq, Classical.not_not, z_up1, z_up2, z_cp1, z_cp2, z_upL1, z_upL2, if_true, if_false, and_false, false_and, h1, h2, h3, z_cmpe]) | (refine s_isKnown ?_) | (refine (s_hopeAbove g1) ?_) | (refine (s_raised g1) ?_) | (refine s_cd ?_) | (with_reducible refine And.intro ?_ ?_) | (with_reducible intro _) | (with_reducible refine z_go (i := 3) (cut := [3, 16, 25, 29]) 46 ?_) | (with_reducible refine z_go (i := 16) (cut := [3, 16, 25, 29]) 46 ?_) | (with_reducible refine z_go (i := 25) (cut := [3, 16, 25, 29]) 46 ?_) | (with_reducible refine z_go (i := 29) (cut := [3, 16, 25, 29]) 46 ?_))
  all_goals (first | exact q0 | assumption | (simp only [*, if_true, if_false] at q0; exact q0))
theorem e_X0_guessBy {h : Nat} {a0 : zId} {a1 : Int32} {a2 : Int32} {a3 : Int32} {M : zMem} {K : zK} (ha0 : (a0.1 == 99) = false) (q : z_run (z_nop k_X0_guessBy) (z_call h) K 0 [.inr (.inr a0), .inl a1, .inl a2, .inl a3, z_un, z_un, z_un, z_un, z_un, z_un, z_un] [] M) : z_call (h + 1) 11 [.inr (.inr a0), .inl a1, .inl a2, .inl a3] M K := ⟨by simp only [List.all_cons, List.all_nil, z_isU, ha0]; rfl, q⟩
theorem c_X0_guessBy_0 : z_nop k_X0_guessBy 0 = o_iload 1 := rfl
theorem c_X0_guessBy_1 : z_nop k_X0_guessBy 1 = o_if (fun x => x < 0) 17 := rfl
theorem c_X0_guessBy_2 : z_nop k_X0_guessBy 2 = o_iload 1 := rfl
theorem c_X0_guessBy_3 : z_nop k_X0_guessBy 3 = o_ic 16 := rfl
theorem c_X0_guessBy_4 : z_nop k_X0_guessBy 4 = o_icmp (fun x y => x > y) 17 := rfl
theorem c_X0_guessBy_5 : z_nop k_X0_guessBy 5 = o_iload 2 := rfl
theorem c_X0_guessBy_6 : z_nop k_X0_guessBy 6 = o_if (fun x => x < 0) 17 := rfl
theorem c_X0_guessBy_7 : z_nop k_X0_guessBy 7 = o_iload 2 := rfl
theorem c_X0_guessBy_8 : z_nop k_X0_guessBy 8 = o_ic 16 := rfl
theorem c_X0_guessBy_9 : z_nop k_X0_guessBy 9 = o_icmp (fun x y => x > y) 17 := rfl
theorem c_X0_guessBy_10 : z_nop k_X0_guessBy 10 = o_iload 3 := rfl
theorem c_X0_guessBy_11 : z_nop k_X0_guessBy 11 = o_if (fun x => x < 0) 17 := rfl
theorem c_X0_guessBy_12 : z_nop k_X0_guessBy 12 = o_iload 3 := rfl
theorem c_X0_guessBy_13 : z_nop k_X0_guessBy 13 = o_ic 16 := rfl
theorem c_X0_guessBy_14 : z_nop k_X0_guessBy 14 = o_icmp (fun x y => x > y) 17 := rfl
theorem c_X0_guessBy_15 : z_nop k_X0_guessBy 15 = o_ic 1 := rfl
theorem c_X0_guessBy_16 : z_nop k_X0_guessBy 16 = o_goto 18 := rfl
theorem c_X0_guessBy_17 : z_nop k_X0_guessBy 17 = o_ic 0 := rfl
theorem c_X0_guessBy_18 : z_nop k_X0_guessBy 18 = o_istore 4 := rfl
theorem c_X0_guessBy_19 : z_nop k_X0_guessBy 19 = o_iload 4 := rfl
theorem c_X0_guessBy_20 : z_nop k_X0_guessBy 20 = o_if (fun x => x = 0) 36 := rfl
theorem c_X0_guessBy_21 : z_nop k_X0_guessBy 21 = o_iload 1 := rfl
theorem c_X0_guessBy_22 : z_nop k_X0_guessBy 22 = o_iload 2 := rfl
theorem c_X0_guessBy_23 : z_nop k_X0_guessBy 23 = o_bin (fun x y => x + y) := rfl
theorem c_X0_guessBy_24 : z_nop k_X0_guessBy 24 = o_iload 3 := rfl
theorem c_X0_guessBy_25 : z_nop k_X0_guessBy 25 = o_bin (fun x y => x + y) := rfl
theorem c_X0_guessBy_26 : z_nop k_X0_guessBy 26 = o_ic 16 := rfl
theorem c_X0_guessBy_27 : z_nop k_X0_guessBy 27 = o_icmp (fun x y => x > y) 36 := rfl
theorem c_X0_guessBy_28 : z_nop k_X0_guessBy 28 = o_iload 1 := rfl
theorem c_X0_guessBy_29 : z_nop k_X0_guessBy 29 = o_iload 2 := rfl
theorem c_X0_guessBy_30 : z_nop k_X0_guessBy 30 = o_bin (fun x y => x + y) := rfl
theorem c_X0_guessBy_31 : z_nop k_X0_guessBy 31 = o_iload 3 := rfl
theorem c_X0_guessBy_32 : z_nop k_X0_guessBy 32 = o_bin (fun x y => x + y) := rfl
theorem c_X0_guessBy_33 : z_nop k_X0_guessBy 33 = o_call 274 1 := rfl
theorem c_X0_guessBy_34 : z_nop k_X0_guessBy 34 = o_ic 1 := rfl
theorem c_X0_guessBy_35 : z_nop k_X0_guessBy 35 = o_icmp (fun x y => x = y) 38 := rfl
theorem c_X0_guessBy_36 : z_nop k_X0_guessBy 36 = o_ic (-1) := rfl
theorem c_X0_guessBy_37 : z_nop k_X0_guessBy 37 = o_iret := rfl
theorem c_X0_guessBy_38 : z_nop k_X0_guessBy 38 = o_ic (-1) := rfl
theorem c_X0_guessBy_39 : z_nop k_X0_guessBy 39 = o_istore 5 := rfl
theorem c_X0_guessBy_40 : z_nop k_X0_guessBy 40 = o_lc 0 := rfl
theorem c_X0_guessBy_41 : z_nop k_X0_guessBy 41 = o_lstore 6 := rfl
theorem c_X0_guessBy_42 : z_nop k_X0_guessBy 42 = o_iload 2 := rfl
theorem c_X0_guessBy_43 : z_nop k_X0_guessBy 43 = o_istore 8 := rfl
theorem c_X0_guessBy_44 : z_nop k_X0_guessBy 44 = o_iload 8 := rfl
theorem c_X0_guessBy_45 : z_nop k_X0_guessBy 45 = o_ic 12 := rfl
theorem c_X0_guessBy_46 : z_nop k_X0_guessBy 46 = o_icmp (fun x y => x > y) 81 := rfl
theorem c_X0_guessBy_47 : z_nop k_X0_guessBy 47 = o_iload 8 := rfl
theorem c_X0_guessBy_48 : z_nop k_X0_guessBy 48 = o_iload 2 := rfl
theorem c_X0_guessBy_49 : z_nop k_X0_guessBy 49 = o_call 3 2 := rfl
theorem c_X0_guessBy_50 : z_nop k_X0_guessBy 50 = o_aload 0 := rfl
theorem c_X0_guessBy_51 : z_nop k_X0_guessBy 51 = o_getr 1 (fun w i => (46, 0, 0)) := rfl
theorem c_X0_guessBy_52 : z_nop k_X0_guessBy 52 = o_iload 3 := rfl
theorem c_X0_guessBy_53 : z_nop k_X0_guessBy 53 = o_iload 8 := rfl
theorem c_X0_guessBy_54 : z_nop k_X0_guessBy 54 = o_iload 2 := rfl
theorem c_X0_guessBy_55 : z_nop k_X0_guessBy 55 = o_bin (fun x y => x - y) := rfl
theorem c_X0_guessBy_56 : z_nop k_X0_guessBy 56 = o_call 0 2 := rfl
theorem c_X0_guessBy_57 : z_nop k_X0_guessBy 57 = o_lald := rfl
theorem c_X0_guessBy_58 : z_nop k_X0_guessBy 58 = o_lbin (fun x y => x * y) := rfl
theorem c_X0_guessBy_59 : z_nop k_X0_guessBy 59 = o_iload 1 := rfl
theorem c_X0_guessBy_60 : z_nop k_X0_guessBy 60 = o_iload 2 := rfl
theorem c_X0_guessBy_61 : z_nop k_X0_guessBy 61 = o_bin (fun x y => x + y) := rfl
theorem c_X0_guessBy_62 : z_nop k_X0_guessBy 62 = o_iload 3 := rfl
theorem c_X0_guessBy_63 : z_nop k_X0_guessBy 63 = o_bin (fun x y => x + y) := rfl
theorem c_X0_guessBy_64 : z_nop k_X0_guessBy 64 = o_i2l := rfl
theorem c_X0_guessBy_65 : z_nop k_X0_guessBy 65 = o_ic 12 := rfl
theorem c_X0_guessBy_66 : z_nop k_X0_guessBy 66 = o_iload 8 := rfl
theorem c_X0_guessBy_67 : z_nop k_X0_guessBy 67 = o_bin (fun x y => x - y) := rfl
theorem c_X0_guessBy_68 : z_nop k_X0_guessBy 68 = o_call 4 2 := rfl
theorem c_X0_guessBy_69 : z_nop k_X0_guessBy 69 = o_lbin (fun x y => x * y) := rfl
theorem c_X0_guessBy_70 : z_nop k_X0_guessBy 70 = o_lstore 9 := rfl
theorem c_X0_guessBy_71 : z_nop k_X0_guessBy 71 = o_lload 9 := rfl
theorem c_X0_guessBy_72 : z_nop k_X0_guessBy 72 = o_lload 6 := rfl
theorem c_X0_guessBy_73 : z_nop k_X0_guessBy 73 = o_lcmp := rfl
theorem c_X0_guessBy_74 : z_nop k_X0_guessBy 74 = o_if (fun x => x ≤ 0) 79 := rfl
theorem c_X0_guessBy_75 : z_nop k_X0_guessBy 75 = o_lload 9 := rfl
theorem c_X0_guessBy_76 : z_nop k_X0_guessBy 76 = o_lstore 6 := rfl
theorem c_X0_guessBy_77 : z_nop k_X0_guessBy 77 = o_iload 8 := rfl
theorem c_X0_guessBy_78 : z_nop k_X0_guessBy 78 = o_istore 5 := rfl
theorem c_X0_guessBy_79 : z_nop k_X0_guessBy 79 = o_iinc 8 1 := rfl
theorem c_X0_guessBy_80 : z_nop k_X0_guessBy 80 = o_goto 44 := rfl
theorem c_X0_guessBy_81 : z_nop k_X0_guessBy 81 = o_iload 5 := rfl
theorem c_X0_guessBy_82 : z_nop k_X0_guessBy 82 = o_iret := rfl

def c_guess (e s c : Int32) : Prop := ¬ e < 0 ∧ ¬ e > 16 ∧ ¬ s < 0 ∧ ¬ s > 16 ∧ ¬ c < 0 ∧ ¬ c > 16 ∧ ¬ e + s + c > 16 ∧ r_bc (e + s + c) = 1
set_option maxRecDepth 100000 in
theorem s_guess0 {h : Nat} {M : zMem} {e s c : Int32} {K : zK} (hb : ¬ c_guess e s c) (q : K (some (.inl (-1))) M) : z_call (h + 2) 11 [.inr (.inr (1, 0, 0)), .inl e, .inl s, .inl c] M K := by
  refine e_X0_guessBy rfl ?_
  refine z_wp_run (cut := [34, 38, 44, 50, 57, 69]) 85 _ _ _ _ ?_
  repeat' (first | (simp only [z_wp, Bool.false_eq_true, ↓reduceIte, z_e10, z_e01, eq_self, Int32.reduceLT, Int32.reduceLE, Int32.reduceGT, Int32.reduceGE, z_in, cond_true, cond_false, Nat.reduceAdd, Nat.reduceBEq, z_nth, z_set, z_clr, z_st1, z_st2, z_isL, z_opt, z_pop, z_cats, z_cat, c_X0_guessBy_0, c_X0_guessBy_1, c_X0_guessBy_2, c_X0_guessBy_3, c_X0_guessBy_4, c_X0_guessBy_5, c_X0_guessBy_6, c_X0_guessBy_7, c_X0_guessBy_8, c_X0_guessBy_9, c_X0_guessBy_10, c_X0_guessBy_11, c_X0_guessBy_12, c_X0_guessBy_13, c_X0_guessBy_14, c_X0_guessBy_15, c_X0_guessBy_16, c_X0_guessBy_17, c_X0_guessBy_18, c_X0_guessBy_19, c_X0_guessBy_20, c_X0_guessBy_21, c_X0_guessBy_22, c_X0_guessBy_23, c_X0_guessBy_24, c_X0_guessBy_25, c_X0_guessBy_26, c_X0_guessBy_27, c_X0_guessBy_28, c_X0_guessBy_29, c_X0_guessBy_30, c_X0_guessBy_31, c_X0_guessBy_32, c_X0_guessBy_33, c_X0_guessBy_34, c_X0_guessBy_35, c_X0_guessBy_36, c_X0_guessBy_37, c_X0_guessBy_38, c_X0_guessBy_39, c_X0_guessBy_40, c_X0_guessBy_41, c_X0_guessBy_42, c_X0_guessBy_43, c_X0_guessBy_44, c_X0_guessBy_45, c_X0_guessBy_46, c_X0_guessBy_47, c_X0_guessBy_48, c_X0_guessBy_49, c_X0_guessBy_50, c_X0_guessBy_51, c_X0_guessBy_52, c_X0_guessBy_53, c_X0_guessBy_54, c_X0_guessBy_55, c_X0_guessBy_56, c_X0_guessBy_57, c_X0_guessBy_58, c_X0_guessBy_59, c_X0_guessBy_60, c_X0_guessBy_61, c_X0_guessBy_62, c_X0_guessBy_63, c_X0_guessBy_64, c_X0_guessBy_65, c_X0_guessBy_66, c_X0_guessBy_67, c_X0_guessBy_68, c_X0_guessBy_69, c_X0_guessBy_70, c_X0_guessBy_71, c_X0_guessBy_72, c_X0_guessBy_73, c_X0_guessBy_74, c_X0_guessBy_75, c_X0_guessBy_76, c_X0_guessBy_77, c_X0_guessBy_78, c_X0_guessBy_79, c_X0_guessBy_80, c_X0_guessBy_81, c_X0_guessBy_82, o_aload, o_bin, o_call, o_getr, o_goto, o_i2l, o_ic, o_icmp, o_if, o_iinc, o_iload, o_iret, o_istore, o_lald, o_lbin, o_lc, o_lcmp, o_lload, o_lstore, z_cv0, z_cl0, z_cv1, z_cl1, z_cv2, z_cl2, z_cv3, z_cl3, z_cv4, z_cl4, z_cv5, z_cl5, z_cv6, z_cl6, z_cv7, z_cl7, z_cv8, z_cl8, z_cv9, z_cl9, z_cv10, z_cl10, z_cv11, z_cl11, z_cv12, z_cl12, z_cv13, z_cl13, z_len, z_elt, z_isI, z_isJ, Nat.reduceEqDiff, Nat.reduceLeDiff, Nat.reduceLT, Nat.reduceSub, Nat.reduceMul, not_false_eq_true, not_true_eq_false, true_and, and_true, true_or, or_true, false_or, or_false, true_implies, false_implies, implies_true, forall_const, and_self, ne_eq, Classical.not_not, z_up1, z_up2, z_cp1, z_cp2, z_upL1, z_upL2, if_true, if_false, and_false, false_and]) | (refine s_bc ?_) | (with_reducible refine And.intro ?_ ?_) | (with_reducible intro _) | (with_reducible refine z_go (i := 34) (cut := [34, 38, 44, 50, 57, 69]) 85 ?_) | (with_reducible refine z_go (i := 50) (cut := [34, 38, 44, 50, 57, 69]) 85 ?_) | (with_reducible refine z_go (i := 57) (cut := [34, 38, 44, 50, 57, 69]) 85 ?_) | (with_reducible refine z_go (i := 69) (cut := [34, 38, 44, 50, 57, 69]) 85 ?_))
  all_goals (first | exact q | (exfalso; exact hb ⟨by assumption, by assumption, by assumption, by assumption, by assumption, by assumption, by assumption, by assumption⟩))
def r_gw (M : zMem) (L s c n : Nat) : Int64 := r_inRow (nI n) s * M.2 46 (c * 13 + (n - s)) * r_raised (nI L).toInt64 (12 - n)
def r_gs (M : zMem) (L s c : Nat) : Nat → Int32 × Int64
  | 0 => (-1, 0)
  | k + 1 => if (r_gs M L s c k).2 < r_gw M L s c (s + k) then (nI (s + k), r_gw M L s c (s + k)) else r_gs M L s c k
set_option maxRecDepth 100000 in
theorem s_guess {h e s c : Nat} {M : zMem} {K : zK} (hb : c_guess (nI e) (nI s) (nI c)) (hL : e + s + c ≤ 16) (q : K (some (.inl (r_gs M (e + s + c) s c (13 - s)).1)) M) : z_call (h + 2) 11 [.inr (.inr (1, 0, 0)), .inl (nI e), .inl (nI s), .inl (nI c)] M K := by
  obtain ⟨b1, b2, b3, b4, b5, b6, b7, b8⟩ := hb
  refine e_X0_guessBy rfl ?_
  refine z_wp_run (cut := [34, 44, 50, 57, 69]) 85 _ _ _ _ ?_
  repeat' (first | (simp only [z_wp, Bool.false_eq_true, ↓reduceIte, z_e10, z_e01, eq_self, Int32.reduceLT, Int32.reduceLE, Int32.reduceGT, Int32.reduceGE, z_in, cond_true, cond_false, Nat.reduceAdd, Nat.reduceBEq, z_nth, z_set, z_clr, z_st1, z_st2, z_isL, z_opt, z_pop, z_cats, z_cat, c_X0_guessBy_0, c_X0_guessBy_1, c_X0_guessBy_2, c_X0_guessBy_3, c_X0_guessBy_4, c_X0_guessBy_5, c_X0_guessBy_6, c_X0_guessBy_7, c_X0_guessBy_8, c_X0_guessBy_9, c_X0_guessBy_10, c_X0_guessBy_11, c_X0_guessBy_12, c_X0_guessBy_13, c_X0_guessBy_14, c_X0_guessBy_15, c_X0_guessBy_16, c_X0_guessBy_17, c_X0_guessBy_18, c_X0_guessBy_19, c_X0_guessBy_20, c_X0_guessBy_21, c_X0_guessBy_22, c_X0_guessBy_23, c_X0_guessBy_24, c_X0_guessBy_25, c_X0_guessBy_26, c_X0_guessBy_27, c_X0_guessBy_28, c_X0_guessBy_29, c_X0_guessBy_30, c_X0_guessBy_31, c_X0_guessBy_32, c_X0_guessBy_33, c_X0_guessBy_34, c_X0_guessBy_35, c_X0_guessBy_36, c_X0_guessBy_37, c_X0_guessBy_38, c_X0_guessBy_39, c_X0_guessBy_40, c_X0_guessBy_41, c_X0_guessBy_42, c_X0_guessBy_43, c_X0_guessBy_44, c_X0_guessBy_45, c_X0_guessBy_46, c_X0_guessBy_47, c_X0_guessBy_48, c_X0_guessBy_49, c_X0_guessBy_50, c_X0_guessBy_51, c_X0_guessBy_52, c_X0_guessBy_53, c_X0_guessBy_54, c_X0_guessBy_55, c_X0_guessBy_56, c_X0_guessBy_57, c_X0_guessBy_58, c_X0_guessBy_59, c_X0_guessBy_60, c_X0_guessBy_61, c_X0_guessBy_62, c_X0_guessBy_63, c_X0_guessBy_64, c_X0_guessBy_65, c_X0_guessBy_66, c_X0_guessBy_67, c_X0_guessBy_68, c_X0_guessBy_69, c_X0_guessBy_70, c_X0_guessBy_71, c_X0_guessBy_72, c_X0_guessBy_73, c_X0_guessBy_74, c_X0_guessBy_75, c_X0_guessBy_76, c_X0_guessBy_77, c_X0_guessBy_78, c_X0_guessBy_79, c_X0_guessBy_80, c_X0_guessBy_81, c_X0_guessBy_82, o_aload, o_bin, o_call, o_getr, o_goto, o_i2l, o_ic, o_icmp, o_if, o_iinc, o_iload, o_iret, o_istore, o_lald, o_lbin, o_lc, o_lcmp, o_lload, o_lstore, z_cv0, z_cl0, z_cv1, z_cl1, z_cv2, z_cl2, z_cv3, z_cl3, z_cv4, z_cl4, z_cv5, z_cl5, z_cv6, z_cl6, z_cv7, z_cl7, z_cv8, z_cl8, z_cv9, z_cl9, z_cv10, z_cl10, z_cv11, z_cl11, z_cv12, z_cl12, z_cv13, z_cl13, z_len, z_elt, z_isI, z_isJ, Nat.reduceEqDiff, Nat.reduceLeDiff, Nat.reduceLT, Nat.reduceSub, Nat.reduceMul, not_false_eq_true, not_true_eq_false, true_and, and_true, true_or, or_true, false_or, or_false, true_implies, false_implies, implies_true, forall_const, and_self, ne_eq, Classical.not_not, z_up1, z_up2, z_cp1, z_cp2, z_upL1, z_upL2, if_true, if_false, and_false, false_and, b1, b2, b3, b4, b5, b6, b7, b8]) | (refine s_bc ?_) | (with_reducible refine And.intro ?_ ?_) | (with_reducible intro _) | (with_reducible refine z_go (i := 34) (cut := [34, 44, 50, 57, 69]) 85 ?_) | (with_reducible refine z_go (i := 50) (cut := [34, 44, 50, 57, 69]) 85 ?_) | (with_reducible refine z_go (i := 57) (cut := [34, 44, 50, 57, 69]) 85 ?_) | (with_reducible refine z_go (i := 69) (cut := [34, 44, 50, 57, 69]) 85 ?_))
  have key := z_loop (fun k => ∀ (v : zV), z_run (z_nop k_X0_guessBy) (z_call (h + 1)) K 44 [.inr (.inr (1, 0, 0)), .inl (nI e), .inl (nI s), .inl (nI c), .inl 1, .inl (r_gs M (e + s + c) s c k).1, .inr (.inl (r_gs M (e + s + c) s c k).2), z_un, .inl (nI (s + k)), v, z_un] [] M) (13 - s) ?_ ?_ 0 (by omega)
  · exact key _
  · intro v
    have f1 : (nI (s + (13 - s)) > 12) = True := eq_true (nI_lt (a := 12) (b := s + (13 - s)) (by omega) (by omega))
    refine z_go (cut := [34, 44, 50, 57, 69]) 85 ?_
    simp only [z_wp, Bool.false_eq_true, ↓reduceIte, z_e10, z_e01, eq_self, Int32.reduceLT, Int32.reduceLE, Int32.reduceGT, Int32.reduceGE, z_in, cond_true, cond_false, Nat.reduceAdd, Nat.reduceBEq, z_nth, z_set, z_clr, z_st1, z_st2, z_isL, z_opt, z_pop, z_cats, z_cat, c_X0_guessBy_0, c_X0_guessBy_1, c_X0_guessBy_2, c_X0_guessBy_3, c_X0_guessBy_4, c_X0_guessBy_5, c_X0_guessBy_6, c_X0_guessBy_7, c_X0_guessBy_8, c_X0_guessBy_9, c_X0_guessBy_10, c_X0_guessBy_11, c_X0_guessBy_12, c_X0_guessBy_13, c_X0_guessBy_14, c_X0_guessBy_15, c_X0_guessBy_16, c_X0_guessBy_17, c_X0_guessBy_18, c_X0_guessBy_19, c_X0_guessBy_20, c_X0_guessBy_21, c_X0_guessBy_22, c_X0_guessBy_23, c_X0_guessBy_24, c_X0_guessBy_25, c_X0_guessBy_26, c_X0_guessBy_27, c_X0_guessBy_28, c_X0_guessBy_29, c_X0_guessBy_30, c_X0_guessBy_31, c_X0_guessBy_32, c_X0_guessBy_33, c_X0_guessBy_34, c_X0_guessBy_35, c_X0_guessBy_36, c_X0_guessBy_37, c_X0_guessBy_38, c_X0_guessBy_39, c_X0_guessBy_40, c_X0_guessBy_41, c_X0_guessBy_42, c_X0_guessBy_43, c_X0_guessBy_44, c_X0_guessBy_45, c_X0_guessBy_46, c_X0_guessBy_47, c_X0_guessBy_48, c_X0_guessBy_49, c_X0_guessBy_50, c_X0_guessBy_51, c_X0_guessBy_52, c_X0_guessBy_53, c_X0_guessBy_54, c_X0_guessBy_55, c_X0_guessBy_56, c_X0_guessBy_57, c_X0_guessBy_58, c_X0_guessBy_59, c_X0_guessBy_60, c_X0_guessBy_61, c_X0_guessBy_62, c_X0_guessBy_63, c_X0_guessBy_64, c_X0_guessBy_65, c_X0_guessBy_66, c_X0_guessBy_67, c_X0_guessBy_68, c_X0_guessBy_69, c_X0_guessBy_70, c_X0_guessBy_71, c_X0_guessBy_72, c_X0_guessBy_73, c_X0_guessBy_74, c_X0_guessBy_75, c_X0_guessBy_76, c_X0_guessBy_77, c_X0_guessBy_78, c_X0_guessBy_79, c_X0_guessBy_80, c_X0_guessBy_81, c_X0_guessBy_82, o_aload, o_bin, o_call, o_getr, o_goto, o_i2l, o_ic, o_icmp, o_if, o_iinc, o_iload, o_iret, o_istore, o_lald, o_lbin, o_lc, o_lcmp, o_lload, o_lstore, z_cv0, z_cl0, z_cv1, z_cl1, z_cv2, z_cl2, z_cv3, z_cl3, z_cv4, z_cl4, z_cv5, z_cl5, z_cv6, z_cl6, z_cv7, z_cl7, z_cv8, z_cl8, z_cv9, z_cl9, z_cv10, z_cl10, z_cv11, z_cl11, z_cv12, z_cl12, z_cv13, z_cl13, z_len, z_elt, z_isI, z_isJ, Nat.reduceEqDiff, Nat.reduceLeDiff, Nat.reduceLT, Nat.reduceSub, Nat.reduceMul, not_false_eq_true, not_true_eq_false, true_and, and_true, true_or, or_true, false_or, or_false, true_implies, false_implies, implies_true, forall_const, and_self, ne_eq, Classical.not_not, z_up1, z_up2, z_cp1, z_cp2, z_upL1, z_upL2, if_true, if_false, and_false, false_and, f1]
    exact q
  · intro k hk ih v
    have f1 : (nI (s + k) > 12) = False := eq_false (nI_nlt (a := 12) (b := s + k) (by omega) (by decide))
    have f3 : nI (s + k) + 1 = nI (s + (k + 1)) := nI_1 _
    have e6 : r_cell (nI c) (nI (s + k) - nI s) = nI (c * 13 + (s + k - s)) := by
      unfold r_cell
      rw [pk_sub (by omega)]
      show nI c * nI 13 + nI (s + k - s) = _
      rw [pk_mul, nI_add]
    have e7 : vp_in (nI (c * 13 + (s + k - s))) 221 := vp_in_nI (by omega) (by decide)
    have e8 : (nI (c * 13 + (s + k - s))).toNatClampNeg = c * 13 + (s + k - s) := nI_clamp (by omega)
    have e9 : nI e + nI s + nI c = nI (e + s + c) := by rw [nI_add, nI_add]
    have e10 : (12 : Int32) - nI (s + k) = nI (12 - (s + k)) := pk_sub (a := 12) (by omega)
    unfold r_gs at ih
    refine z_go (cut := [44, 50, 57, 69]) 60 ?_
    simp only [z_wp, Bool.false_eq_true, ↓reduceIte, z_e10, z_e01, eq_self, Int32.reduceLT, Int32.reduceLE, Int32.reduceGT, Int32.reduceGE, z_in, cond_true, cond_false, Nat.reduceAdd, Nat.reduceBEq, z_nth, z_set, z_clr, z_st1, z_st2, z_isL, z_opt, z_pop, z_cats, z_cat, c_X0_guessBy_0, c_X0_guessBy_1, c_X0_guessBy_2, c_X0_guessBy_3, c_X0_guessBy_4, c_X0_guessBy_5, c_X0_guessBy_6, c_X0_guessBy_7, c_X0_guessBy_8, c_X0_guessBy_9, c_X0_guessBy_10, c_X0_guessBy_11, c_X0_guessBy_12, c_X0_guessBy_13, c_X0_guessBy_14, c_X0_guessBy_15, c_X0_guessBy_16, c_X0_guessBy_17, c_X0_guessBy_18, c_X0_guessBy_19, c_X0_guessBy_20, c_X0_guessBy_21, c_X0_guessBy_22, c_X0_guessBy_23, c_X0_guessBy_24, c_X0_guessBy_25, c_X0_guessBy_26, c_X0_guessBy_27, c_X0_guessBy_28, c_X0_guessBy_29, c_X0_guessBy_30, c_X0_guessBy_31, c_X0_guessBy_32, c_X0_guessBy_33, c_X0_guessBy_34, c_X0_guessBy_35, c_X0_guessBy_36, c_X0_guessBy_37, c_X0_guessBy_38, c_X0_guessBy_39, c_X0_guessBy_40, c_X0_guessBy_41, c_X0_guessBy_42, c_X0_guessBy_43, c_X0_guessBy_44, c_X0_guessBy_45, c_X0_guessBy_46, c_X0_guessBy_47, c_X0_guessBy_48, c_X0_guessBy_49, c_X0_guessBy_50, c_X0_guessBy_51, c_X0_guessBy_52, c_X0_guessBy_53, c_X0_guessBy_54, c_X0_guessBy_55, c_X0_guessBy_56, c_X0_guessBy_57, c_X0_guessBy_58, c_X0_guessBy_59, c_X0_guessBy_60, c_X0_guessBy_61, c_X0_guessBy_62, c_X0_guessBy_63, c_X0_guessBy_64, c_X0_guessBy_65, c_X0_guessBy_66, c_X0_guessBy_67, c_X0_guessBy_68, c_X0_guessBy_69, c_X0_guessBy_70, c_X0_guessBy_71, c_X0_guessBy_72, c_X0_guessBy_73, c_X0_guessBy_74, c_X0_guessBy_75, c_X0_guessBy_76, c_X0_guessBy_77, c_X0_guessBy_78, c_X0_guessBy_79, c_X0_guessBy_80, c_X0_guessBy_81, c_X0_guessBy_82, o_aload, o_bin, o_call, o_getr, o_goto, o_i2l, o_ic, o_icmp, o_if, o_iinc, o_iload, o_iret, o_istore, o_lald, o_lbin, o_lc, o_lcmp, o_lload, o_lstore, z_cv0, z_cl0, z_cv1, z_cl1, z_cv2, z_cl2, z_cv3, z_cl3, z_cv4, z_cl4, z_cv5, z_cl5, z_cv6, z_cl6, z_cv7, z_cl7, z_cv8, z_cl8, z_cv9, z_cl9, z_cv10, z_cl10, z_cv11, z_cl11, z_cv12, z_cl12, z_cv13, z_cl13, z_len, z_elt, z_isI, z_isJ, Nat.reduceEqDiff, Nat.reduceLeDiff, Nat.reduceLT, Nat.reduceSub, Nat.reduceMul, not_false_eq_true, not_true_eq_false, true_and, and_true, true_or, or_true, false_or, or_false, true_implies, false_implies, implies_true, forall_const, and_self, ne_eq, Classical.not_not, z_up1, z_up2, z_cp1, z_cp2, z_upL1, z_upL2, if_true, if_false, and_false, false_and, f1]
    refine s_inRow (show s < 1000 by omega) ?_
    refine z_go (cut := [44, 50, 57, 69]) 60 ?_
    simp only [z_wp, Bool.false_eq_true, ↓reduceIte, z_e10, z_e01, eq_self, Int32.reduceLT, Int32.reduceLE, Int32.reduceGT, Int32.reduceGE, z_in, cond_true, cond_false, Nat.reduceAdd, Nat.reduceBEq, z_nth, z_set, z_clr, z_st1, z_st2, z_isL, z_opt, z_pop, z_cats, z_cat, c_X0_guessBy_0, c_X0_guessBy_1, c_X0_guessBy_2, c_X0_guessBy_3, c_X0_guessBy_4, c_X0_guessBy_5, c_X0_guessBy_6, c_X0_guessBy_7, c_X0_guessBy_8, c_X0_guessBy_9, c_X0_guessBy_10, c_X0_guessBy_11, c_X0_guessBy_12, c_X0_guessBy_13, c_X0_guessBy_14, c_X0_guessBy_15, c_X0_guessBy_16, c_X0_guessBy_17, c_X0_guessBy_18, c_X0_guessBy_19, c_X0_guessBy_20, c_X0_guessBy_21, c_X0_guessBy_22, c_X0_guessBy_23, c_X0_guessBy_24, c_X0_guessBy_25, c_X0_guessBy_26, c_X0_guessBy_27, c_X0_guessBy_28, c_X0_guessBy_29, c_X0_guessBy_30, c_X0_guessBy_31, c_X0_guessBy_32, c_X0_guessBy_33, c_X0_guessBy_34, c_X0_guessBy_35, c_X0_guessBy_36, c_X0_guessBy_37, c_X0_guessBy_38, c_X0_guessBy_39, c_X0_guessBy_40, c_X0_guessBy_41, c_X0_guessBy_42, c_X0_guessBy_43, c_X0_guessBy_44, c_X0_guessBy_45, c_X0_guessBy_46, c_X0_guessBy_47, c_X0_guessBy_48, c_X0_guessBy_49, c_X0_guessBy_50, c_X0_guessBy_51, c_X0_guessBy_52, c_X0_guessBy_53, c_X0_guessBy_54, c_X0_guessBy_55, c_X0_guessBy_56, c_X0_guessBy_57, c_X0_guessBy_58, c_X0_guessBy_59, c_X0_guessBy_60, c_X0_guessBy_61, c_X0_guessBy_62, c_X0_guessBy_63, c_X0_guessBy_64, c_X0_guessBy_65, c_X0_guessBy_66, c_X0_guessBy_67, c_X0_guessBy_68, c_X0_guessBy_69, c_X0_guessBy_70, c_X0_guessBy_71, c_X0_guessBy_72, c_X0_guessBy_73, c_X0_guessBy_74, c_X0_guessBy_75, c_X0_guessBy_76, c_X0_guessBy_77, c_X0_guessBy_78, c_X0_guessBy_79, c_X0_guessBy_80, c_X0_guessBy_81, c_X0_guessBy_82, o_aload, o_bin, o_call, o_getr, o_goto, o_i2l, o_ic, o_icmp, o_if, o_iinc, o_iload, o_iret, o_istore, o_lald, o_lbin, o_lc, o_lcmp, o_lload, o_lstore, z_cv0, z_cl0, z_cv1, z_cl1, z_cv2, z_cl2, z_cv3, z_cl3, z_cv4, z_cl4, z_cv5, z_cl5, z_cv6, z_cl6, z_cv7, z_cl7, z_cv8, z_cl8, z_cv9, z_cl9, z_cv10, z_cl10, z_cv11, z_cl11, z_cv12, z_cl12, z_cv13, z_cl13, z_len, z_elt, z_isI, z_isJ, Nat.reduceEqDiff, Nat.reduceLeDiff, Nat.reduceLT, Nat.reduceSub, Nat.reduceMul, not_false_eq_true, not_true_eq_false, true_and, and_true, true_or, or_true, false_or, or_false, true_implies, false_implies, implies_true, forall_const, and_self, ne_eq, Classical.not_not, z_up1, z_up2, z_cp1, z_cp2, z_upL1, z_upL2, if_true, if_false, and_false, false_and, f1]
    refine s_cell ?_
    refine z_go (cut := [44, 50, 57, 69]) 60 ?_
    simp only [z_wp, Bool.false_eq_true, ↓reduceIte, z_e10, z_e01, eq_self, Int32.reduceLT, Int32.reduceLE, Int32.reduceGT, Int32.reduceGE, z_in, cond_true, cond_false, Nat.reduceAdd, Nat.reduceBEq, z_nth, z_set, z_clr, z_st1, z_st2, z_isL, z_opt, z_pop, z_cats, z_cat, c_X0_guessBy_0, c_X0_guessBy_1, c_X0_guessBy_2, c_X0_guessBy_3, c_X0_guessBy_4, c_X0_guessBy_5, c_X0_guessBy_6, c_X0_guessBy_7, c_X0_guessBy_8, c_X0_guessBy_9, c_X0_guessBy_10, c_X0_guessBy_11, c_X0_guessBy_12, c_X0_guessBy_13, c_X0_guessBy_14, c_X0_guessBy_15, c_X0_guessBy_16, c_X0_guessBy_17, c_X0_guessBy_18, c_X0_guessBy_19, c_X0_guessBy_20, c_X0_guessBy_21, c_X0_guessBy_22, c_X0_guessBy_23, c_X0_guessBy_24, c_X0_guessBy_25, c_X0_guessBy_26, c_X0_guessBy_27, c_X0_guessBy_28, c_X0_guessBy_29, c_X0_guessBy_30, c_X0_guessBy_31, c_X0_guessBy_32, c_X0_guessBy_33, c_X0_guessBy_34, c_X0_guessBy_35, c_X0_guessBy_36, c_X0_guessBy_37, c_X0_guessBy_38, c_X0_guessBy_39, c_X0_guessBy_40, c_X0_guessBy_41, c_X0_guessBy_42, c_X0_guessBy_43, c_X0_guessBy_44, c_X0_guessBy_45, c_X0_guessBy_46, c_X0_guessBy_47, c_X0_guessBy_48, c_X0_guessBy_49, c_X0_guessBy_50, c_X0_guessBy_51, c_X0_guessBy_52, c_X0_guessBy_53, c_X0_guessBy_54, c_X0_guessBy_55, c_X0_guessBy_56, c_X0_guessBy_57, c_X0_guessBy_58, c_X0_guessBy_59, c_X0_guessBy_60, c_X0_guessBy_61, c_X0_guessBy_62, c_X0_guessBy_63, c_X0_guessBy_64, c_X0_guessBy_65, c_X0_guessBy_66, c_X0_guessBy_67, c_X0_guessBy_68, c_X0_guessBy_69, c_X0_guessBy_70, c_X0_guessBy_71, c_X0_guessBy_72, c_X0_guessBy_73, c_X0_guessBy_74, c_X0_guessBy_75, c_X0_guessBy_76, c_X0_guessBy_77, c_X0_guessBy_78, c_X0_guessBy_79, c_X0_guessBy_80, c_X0_guessBy_81, c_X0_guessBy_82, o_aload, o_bin, o_call, o_getr, o_goto, o_i2l, o_ic, o_icmp, o_if, o_iinc, o_iload, o_iret, o_istore, o_lald, o_lbin, o_lc, o_lcmp, o_lload, o_lstore, z_cv0, z_cl0, z_cv1, z_cl1, z_cv2, z_cl2, z_cv3, z_cl3, z_cv4, z_cl4, z_cv5, z_cl5, z_cv6, z_cl6, z_cv7, z_cl7, z_cv8, z_cl8, z_cv9, z_cl9, z_cv10, z_cl10, z_cv11, z_cl11, z_cv12, z_cl12, z_cv13, z_cl13, z_len, z_elt, z_isI, z_isJ, Nat.reduceEqDiff, Nat.reduceLeDiff, Nat.reduceLT, Nat.reduceSub, Nat.reduceMul, not_false_eq_true, not_true_eq_false, true_and, and_true, true_or, or_true, false_or, or_false, true_implies, false_implies, implies_true, forall_const, and_self, ne_eq, Classical.not_not, z_up1, z_up2, z_cp1, z_cp2, z_upL1, z_upL2, if_true, if_false, and_false, false_and, f1, e6, e7, e8, e9, e10]
    refine s_raised0 (show 12 - (s + k) < 1000 by omega) ?_
    refine z_go (cut := [44, 50, 57, 69]) 60 ?_
    simp only [z_wp, Bool.false_eq_true, ↓reduceIte, z_e10, z_e01, eq_self, Int32.reduceLT, Int32.reduceLE, Int32.reduceGT, Int32.reduceGE, z_in, cond_true, cond_false, Nat.reduceAdd, Nat.reduceBEq, z_nth, z_set, z_clr, z_st1, z_st2, z_isL, z_opt, z_pop, z_cats, z_cat, c_X0_guessBy_0, c_X0_guessBy_1, c_X0_guessBy_2, c_X0_guessBy_3, c_X0_guessBy_4, c_X0_guessBy_5, c_X0_guessBy_6, c_X0_guessBy_7, c_X0_guessBy_8, c_X0_guessBy_9, c_X0_guessBy_10, c_X0_guessBy_11, c_X0_guessBy_12, c_X0_guessBy_13, c_X0_guessBy_14, c_X0_guessBy_15, c_X0_guessBy_16, c_X0_guessBy_17, c_X0_guessBy_18, c_X0_guessBy_19, c_X0_guessBy_20, c_X0_guessBy_21, c_X0_guessBy_22, c_X0_guessBy_23, c_X0_guessBy_24, c_X0_guessBy_25, c_X0_guessBy_26, c_X0_guessBy_27, c_X0_guessBy_28, c_X0_guessBy_29, c_X0_guessBy_30, c_X0_guessBy_31, c_X0_guessBy_32, c_X0_guessBy_33, c_X0_guessBy_34, c_X0_guessBy_35, c_X0_guessBy_36, c_X0_guessBy_37, c_X0_guessBy_38, c_X0_guessBy_39, c_X0_guessBy_40, c_X0_guessBy_41, c_X0_guessBy_42, c_X0_guessBy_43, c_X0_guessBy_44, c_X0_guessBy_45, c_X0_guessBy_46, c_X0_guessBy_47, c_X0_guessBy_48, c_X0_guessBy_49, c_X0_guessBy_50, c_X0_guessBy_51, c_X0_guessBy_52, c_X0_guessBy_53, c_X0_guessBy_54, c_X0_guessBy_55, c_X0_guessBy_56, c_X0_guessBy_57, c_X0_guessBy_58, c_X0_guessBy_59, c_X0_guessBy_60, c_X0_guessBy_61, c_X0_guessBy_62, c_X0_guessBy_63, c_X0_guessBy_64, c_X0_guessBy_65, c_X0_guessBy_66, c_X0_guessBy_67, c_X0_guessBy_68, c_X0_guessBy_69, c_X0_guessBy_70, c_X0_guessBy_71, c_X0_guessBy_72, c_X0_guessBy_73, c_X0_guessBy_74, c_X0_guessBy_75, c_X0_guessBy_76, c_X0_guessBy_77, c_X0_guessBy_78, c_X0_guessBy_79, c_X0_guessBy_80, c_X0_guessBy_81, c_X0_guessBy_82, o_aload, o_bin, o_call, o_getr, o_goto, o_i2l, o_ic, o_icmp, o_if, o_iinc, o_iload, o_iret, o_istore, o_lald, o_lbin, o_lc, o_lcmp, o_lload, o_lstore, z_cv0, z_cl0, z_cv1, z_cl1, z_cv2, z_cl2, z_cv3, z_cl3, z_cv4, z_cl4, z_cv5, z_cl5, z_cv6, z_cl6, z_cv7, z_cl7, z_cv8, z_cl8, z_cv9, z_cl9, z_cv10, z_cl10, z_cv11, z_cl11, z_cv12, z_cl12, z_cv13, z_cl13, z_len, z_elt, z_isI, z_isJ, Nat.reduceEqDiff, Nat.reduceLeDiff, Nat.reduceLT, Nat.reduceSub, Nat.reduceMul, not_false_eq_true, not_true_eq_false, true_and, and_true, true_or, or_true, false_or, or_false, true_implies, false_implies, implies_true, forall_const, and_self, ne_eq, Classical.not_not, z_up1, z_up2, z_cp1, z_cp2, z_upL1, z_upL2, if_true, if_false, and_false, false_and, z_cmpl, f3]
    refine ⟨fun cc => ?_, fun cc => ?_⟩
    · have cc2 : ¬ (r_gs M (e + s + c) s c k).2 < r_gw M (e + s + c) s c (s + k) := cc
      rw [if_neg cc2] at ih
      exact ih _
    · have cc2 : (r_gs M (e + s + c) s c k).2 < r_gw M (e + s + c) s c (s + k) := cc
      rw [if_pos cc2] at ih
      exact ih _
