/-! the log's lines; rows of prefixes: turned round, joined -/
set_option maxRecDepth 100000 in
theorem s_floorMod60 {h : Nat} {M : zMem} {x : Int32} {K : zK} (q : K (some (.inl (r_floorMod x 60))) M) : z_call (h + 1) 275 [.inl x, .inl 60] M K := s_floorMod (by decide) q
def m_jAdd2 (M : zMem) (w c : Nat) (t r k n : Int32) : zMem := z_up (z_up (z_up (z_up (z_up M 21 w 0 (c % 60 * 4) t) 21 w 0 (c % 60 * 4 + 1) r) 21 w 0 (c % 60 * 4 + 2) k) 21 w 0 (c % 60 * 4 + 3) n) 2 w 0 1 (nI (c + 1))
set_option maxRecDepth 100000 in
theorem s_jAdd {h w c : Nat} {M : zMem} {t r k n : Int32} {K : zK} (hc : M.1 2 w 0 1 = nI c) (hc2 : c < 2 ^ 31) (q : K none (m_jAdd2 M w c t r k n)) : z_call (h + 2) 12 [.inr (.inr (2, w, 0)), .inl t, .inl r, .inl k, .inl n] M K := by
  have hl : c % 60 < 60 := Nat.mod_lt _ (by decide)
  have g1 : r_floorMod (M.1 2 w 0 1) 60 * 4 = nI (c % 60 * 4) := by rw [hc, z_cmod hc2]; exact pk_mul _ 4
  have g2 : nI (c % 60 * 4) + 1 = nI (c % 60 * 4 + 1) := nI_1 _
  have g3 : nI (c % 60 * 4) + 2 = nI (c % 60 * 4 + 2) := nI_add _ 2
  have g4 : nI (c % 60 * 4) + 3 = nI (c % 60 * 4 + 3) := nI_add _ 3
  have g5 : M.1 2 w 0 1 + 1 = nI (c + 1) := by rw [hc]; exact nI_1 c
  have v0 : vp_in (nI (c % 60 * 4)) 240 := vp_in_nI (by omega) (by decide)
  have v1 : vp_in (nI (c % 60 * 4 + 1)) 240 := vp_in_nI (by omega) (by decide)
  have v2 : vp_in (nI (c % 60 * 4 + 2)) 240 := vp_in_nI (by omega) (by decide)
  have v3 : vp_in (nI (c % 60 * 4 + 3)) 240 := vp_in_nI (by omega) (by decide)
  have l0 : (nI (c % 60 * 4)).toNatClampNeg = c % 60 * 4 := nI_clamp (by omega)
  have l1 : (nI (c % 60 * 4 + 1)).toNatClampNeg = c % 60 * 4 + 1 := nI_clamp (by omega)
  have l2 : (nI (c % 60 * 4 + 2)).toNatClampNeg = c % 60 * 4 + 2 := nI_clamp (by omega)
  have l3 : (nI (c % 60 * 4 + 3)).toNatClampNeg = c % 60 * 4 + 3 := nI_clamp (by omega)
  refine e_X1_add rfl ?_
  refine z_wp_run (cut := [4]) 42 _ _ _ _ ?_
  repeat' (first | (simp only [z_wp, Bool.false_eq_true, if_true, if_false, z_in, cond_true, cond_false, Nat.reduceAdd, Nat.reduceBEq, z_nth, z_set, z_clr, z_st1, z_st2, z_isL, z_opt, z_pop, z_cats, z_cat, c_X1_add_0, c_X1_add_1, c_X1_add_2, c_X1_add_3, c_X1_add_4, c_X1_add_5, c_X1_add_6, c_X1_add_7, c_X1_add_8, c_X1_add_9, c_X1_add_10, c_X1_add_11, c_X1_add_12, c_X1_add_13, c_X1_add_14, c_X1_add_15, c_X1_add_16, c_X1_add_17, c_X1_add_18, c_X1_add_19, c_X1_add_20, c_X1_add_21, c_X1_add_22, c_X1_add_23, c_X1_add_24, c_X1_add_25, c_X1_add_26, c_X1_add_27, c_X1_add_28, c_X1_add_29, c_X1_add_30, c_X1_add_31, c_X1_add_32, c_X1_add_33, c_X1_add_34, c_X1_add_35, c_X1_add_36, c_X1_add_37, c_X1_add_38, c_X1_add_39, o_aload, o_bin, o_call, o_dup, o_get, o_getr, o_iast, o_ic, o_iload, o_istore, o_put, o_ret, z_cv0, z_cl0, z_cv1, z_cl1, z_cv2, z_cl2, z_cv3, z_cl3, z_cv4, z_cl4, z_cv5, z_cl5, z_cv6, z_cl6, z_cv7, z_cl7, z_cv8, z_cl8, z_cv9, z_cl9, z_cv10, z_cl10, z_cv11, z_cl11, z_cv12, z_cl12, z_cv13, z_cl13, z_len, z_elt, z_isI, z_isJ, Nat.reduceEqDiff, Nat.reduceLeDiff, Nat.reduceLT, Nat.reduceSub, Nat.reduceMul, not_false_eq_true, not_true_eq_false, true_and, and_true, true_or, or_true, false_or, or_false, true_implies, false_implies, implies_true, forall_const, and_self, ne_eq, Classical.not_not, z_up1, z_up2, z_cp1, z_cp2, z_upL1, z_upL2, if_true, if_false, and_false, false_and, g1, g2, g3, g4, g5, v0, v1, v2, v3, l0, l1, l2, l3]) | (refine s_floorMod60 ?_) | (with_reducible refine And.intro ?_ ?_) | (with_reducible intro _) | (with_reducible refine z_go (i := 4) (cut := [4]) 42 ?_))
  all_goals (first | (with_reducible exact q) | ((try simp only [ge_iff_le, gt_iff_lt, ← Int32.not_lt, Classical.not_not] at *); (first | (with_reducible rfl) | rfl | (with_reducible exact z_vi_24 (by assumption) (by assumption)) | (with_reducible exact z_vi_4 (by assumption) (by assumption)) | (with_reducible exact z_vi_512 (by assumption) (by assumption)) | (with_reducible exact z_vi_14 (by assumption) (by assumption)) | (with_reducible exact z_vi_8 (by assumption) (by assumption)) | (with_reducible exact z_vinN (by assumption) (by assumption) (by decide)) | (with_reducible exact z_vin1 (by assumption) (by assumption) (by decide)) | ((try simp only [m_jAdd2] at q); (try simp only [ge_iff_le, gt_iff_lt, ← Int32.not_lt, Classical.not_not] at q); (try simp only [*, if_true, if_false, ite_self, true_or, or_true, false_or, or_false, true_and, and_true, false_and, and_false, not_true_eq_false, not_false_eq_true, cond_true, cond_false, decide_true, decide_false, Bool.true_and, Bool.and_true, Bool.false_and, Bool.and_false, Bool.true_or, Bool.or_true, Bool.false_or, Bool.or_false, Bool.not_true, Bool.not_false, ne_eq, Nat.reduceEqDiff] at q); with_reducible exact q))) | (simp_all [m_jAdd2]; done))
set_option maxRecDepth 100000 in
theorem s_jTells {h w : Nat} {M : zMem} {i k : Int32} {K : zK} (hv : ¬ i < 0 → ¬ i ≥ 60 → ¬ i ≥ M.1 2 w 0 1 → ¬ k < 0 → k < 4 → vp_in (r_floorMod (M.1 2 w 0 1 - 1 - i) 60 * 4 + k) 240) (q : K (some (.inl (r_jTells M w i k))) M) : z_call (h + 2) 13 [.inr (.inr (2, w, 0)), .inl i, .inl k] M K := by
  unfold r_jTells at q
  refine e_X1_tells rfl ?_
  refine z_wp_run (cut := [26]) 34 _ _ _ _ ?_
  repeat' (first | (simp only [z_wp, Bool.false_eq_true, if_true, if_false, z_in, cond_true, cond_false, Nat.reduceAdd, Nat.reduceBEq, z_nth, z_set, z_clr, z_st1, z_st2, z_isL, z_opt, z_pop, z_cats, z_cat, c_X1_tells_0, c_X1_tells_1, c_X1_tells_2, c_X1_tells_3, c_X1_tells_4, c_X1_tells_5, c_X1_tells_6, c_X1_tells_7, c_X1_tells_8, c_X1_tells_9, c_X1_tells_10, c_X1_tells_11, c_X1_tells_12, c_X1_tells_13, c_X1_tells_14, c_X1_tells_15, c_X1_tells_16, c_X1_tells_17, c_X1_tells_18, c_X1_tells_19, c_X1_tells_20, c_X1_tells_21, c_X1_tells_22, c_X1_tells_23, c_X1_tells_24, c_X1_tells_25, c_X1_tells_26, c_X1_tells_27, c_X1_tells_28, c_X1_tells_29, c_X1_tells_30, c_X1_tells_31, o_aload, o_bin, o_call, o_get, o_getr, o_iald, o_ic, o_icmp, o_if, o_iload, o_iret, z_cv0, z_cl0, z_cv1, z_cl1, z_cv2, z_cl2, z_cv3, z_cl3, z_cv4, z_cl4, z_cv5, z_cl5, z_cv6, z_cl6, z_cv7, z_cl7, z_cv8, z_cl8, z_cv9, z_cl9, z_cv10, z_cl10, z_cv11, z_cl11, z_cv12, z_cl12, z_cv13, z_cl13, z_len, z_elt, z_isI, z_isJ, Nat.reduceEqDiff, Nat.reduceLeDiff, Nat.reduceLT, Nat.reduceSub, Nat.reduceMul, not_false_eq_true, not_true_eq_false, true_and, and_true, true_or, or_true, false_or, or_false, true_implies, false_implies, implies_true, forall_const, and_self, ne_eq, Classical.not_not, z_up1, z_up2, z_cp1, z_cp2, z_upL1, z_upL2, if_true, if_false, and_false, false_and]) | (refine s_floorMod60 ?_) | (with_reducible refine And.intro ?_ ?_) | (with_reducible intro _) | (with_reducible refine z_go (i := 26) (cut := [26]) 34 ?_))
  all_goals (first | (exact hv (by assumption) (by assumption) (by assumption) (by assumption) (by assumption)) | (simp only [*, if_true, if_false, true_or, or_true, or_self, not_true_eq_false, not_false_eq_true] at q; with_reducible exact q))
/-- off one row of prefixes nothing changes -/
def z_off (w i : Nat) (M M2 : zMem) : Prop := (∀ a b c d, ¬ ((a = 3 ∨ a = 22) ∧ b = w ∧ c = i) → M2.1 a b c d = M.1 a b c d) ∧ M2.2 = M.2
theorem z_off.rf {w i : Nat} {M : zMem} : z_off w i M M := ⟨fun _ _ _ _ _ => rfl, rfl⟩
theorem z_off.tr {w i : Nat} {M M2 M3 : zMem} (h : z_off w i M M2) (h2 : z_off w i M2 M3) : z_off w i M M3 := ⟨fun a b c d q => (h2.1 a b c d q).trans (h.1 a b c d q), h2.2.trans h.2⟩
theorem z_off.up {w i : Nat} {M : zMem} {kd k : Nat} {x : Int32} (hk : kd = 3 ∨ kd = 22) : z_off w i M (z_up M kd w i k x) := ⟨fun a b c d q => by
  rw [z_up1]
  exact if_neg (fun e => q ⟨by rw [e.1]; exact hk, e.2.1, e.2.2.1⟩), rfl⟩
theorem z_off_clear {w i : Nat} {M : zMem} : z_off w i M (m_pfxClear M w i) := z_off.up (Or.inl rfl)
theorem z_off_add {w i : Nat} {M : zMem} {x : Int32} : z_off w i M (m_pfxAdd M w i x) := by
  unfold m_pfxAdd
  split
  · exact (z_off.up (Or.inr rfl)).tr (z_off.up (Or.inl rfl))
  · exact z_off.rf
theorem z_off_take {w i : Nat} {M : zMem} : z_off w i M (m_pfxTake M w i) := by
  unfold m_pfxTake
  split
  · exact z_off.rf
  · exact z_off.up (Or.inl rfl)
theorem sz_add {w i k : Nat} {M : zMem} {x : Int32} (h : M.1 3 w i 1 = nI k) (hk : k < 512) : (m_pfxAdd M w i x).1 3 w i 1 = nI (k + 1) := by
  unfold m_pfxAdd
  have h2 : M.1 3 w i 1 < 512 := by rw [h]; exact nI_lt hk (by decide)
  rw [if_pos h2, z_up1, if_pos ⟨rfl, rfl, rfl, rfl⟩, h]
  exact nI_1 k
theorem sz_nneg {w i k : Nat} {M : zMem} (h : M.1 3 w i 1 = nI k) (hk : k ≤ 512) : ¬ M.1 3 w i 1 < 0 := by rw [h]; exact nI_pos (by omega)
def f_pfxBack (w i j n : Nat) : Nat → zMem → zMem := fun k M => m_pfxAdd M w i (r_pfxAt M w j (nI (n - 1 - k)) &&& -16777217)
theorem sz_back {w i j n : Nat} {M : zMem} : ∀ k, k ≤ 512 → (z_it (f_pfxBack w i j n) k (m_pfxClear M w i)).1 3 w i 1 = nI k
  | 0, _ => by
    show (z_up M 3 w i 1 0).1 3 w i 1 = _
    rw [z_up1, if_pos ⟨rfl, rfl, rfl, rfl⟩]
    rfl
  | k + 1, hk => sz_add (sz_back k (by omega)) (by omega)
set_option maxRecDepth 100000 in
theorem s_pfxBack {h w i j n : Nat} {M : zMem} {K : zK} (hn : M.1 3 w j 1 = nI n) (hn2 : n ≤ 512) (hij : ¬ j = i) (q : K none (z_it (f_pfxBack w i j n) n (m_pfxClear M w i))) : z_call (h + 2) 24 [.inr (.inr (3, w, i)), .inr (.inr (3, w, j))] M K := by
  have e0 : (m_pfxClear M w i).1 3 w j 1 - 1 = nI (n - 0) - 1 := by
    unfold m_pfxClear
    rw [z_up1, if_neg (fun e => hij e.2.2.1), hn]
    rfl
  refine e_X2_backwardsFrom rfl rfl ?_
  refine z_wp_run (cut := [2, 7, 13, 16]) 21 _ _ _ _ ?_
  repeat' (first | (simp only [z_wp, Bool.false_eq_true, if_true, if_false, z_in, cond_true, cond_false, Nat.reduceAdd, Nat.reduceBEq, z_nth, z_set, z_clr, z_st1, z_st2, z_isL, z_opt, z_pop, z_cats, z_cat, c_X2_backwardsFrom_0, c_X2_backwardsFrom_1, c_X2_backwardsFrom_2, c_X2_backwardsFrom_3, c_X2_backwardsFrom_4, c_X2_backwardsFrom_5, c_X2_backwardsFrom_6, c_X2_backwardsFrom_7, c_X2_backwardsFrom_8, c_X2_backwardsFrom_9, c_X2_backwardsFrom_10, c_X2_backwardsFrom_11, c_X2_backwardsFrom_12, c_X2_backwardsFrom_13, c_X2_backwardsFrom_14, c_X2_backwardsFrom_15, c_X2_backwardsFrom_16, c_X2_backwardsFrom_17, c_X2_backwardsFrom_18, o_aload, o_bin, o_callv, o_get, o_goto, o_ic, o_if, o_iinc, o_iload, o_istore, o_ret, z_cv0, z_cl0, z_cv1, z_cl1, z_cv2, z_cl2, z_cv3, z_cl3, z_cv4, z_cl4, z_cv5, z_cl5, z_cv6, z_cl6, z_cv7, z_cl7, z_cv8, z_cl8, z_cv9, z_cl9, z_cv10, z_cl10, z_cv11, z_cl11, z_cv12, z_cl12, z_cv13, z_cl13, z_len, z_elt, z_isI, z_isJ, Nat.reduceEqDiff, Nat.reduceLeDiff, Nat.reduceLT, Nat.reduceSub, Nat.reduceMul, not_false_eq_true, not_true_eq_false, true_and, and_true, true_or, or_true, false_or, or_false, true_implies, false_implies, implies_true, forall_const, and_self, ne_eq, Classical.not_not, z_up1, z_up2, z_cp1, z_cp2, z_upL1, z_upL2, if_true, if_false, and_false, false_and, e0]) | (refine s_pfxClear ?_) | (with_reducible refine And.intro ?_ ?_) | (with_reducible intro _) | (with_reducible refine z_go (i := 2) (cut := [2, 7, 13, 16]) 21 ?_) | (with_reducible refine z_go (i := 13) (cut := [2, 7, 13, 16]) 21 ?_) | (with_reducible refine z_go (i := 16) (cut := [2, 7, 13, 16]) 21 ?_))
  refine z_loop (fun k => z_run (z_nop k_X2_backwardsFrom) (z_call (h + 1)) K 7 [.inr (.inr (3, w, i)), .inr (.inr (3, w, j)), .inl (nI (n - k) - 1)] [] (z_it (f_pfxBack w i j n) k (m_pfxClear M w i))) n ?_ ?_ 0 (by omega)
  · have f1 : (nI (n - n) - 1 < 0) = True := by rw [Nat.sub_self]; exact eq_true (by decide)
    refine z_go (cut := [7]) 40 ?_
    simp only [z_wp, Bool.false_eq_true, if_true, if_false, z_in, cond_true, cond_false, Nat.reduceAdd, Nat.reduceBEq, z_nth, z_set, z_clr, z_st1, z_st2, z_isL, z_opt, z_pop, z_cats, z_cat, c_X2_backwardsFrom_0, c_X2_backwardsFrom_1, c_X2_backwardsFrom_2, c_X2_backwardsFrom_3, c_X2_backwardsFrom_4, c_X2_backwardsFrom_5, c_X2_backwardsFrom_6, c_X2_backwardsFrom_7, c_X2_backwardsFrom_8, c_X2_backwardsFrom_9, c_X2_backwardsFrom_10, c_X2_backwardsFrom_11, c_X2_backwardsFrom_12, c_X2_backwardsFrom_13, c_X2_backwardsFrom_14, c_X2_backwardsFrom_15, c_X2_backwardsFrom_16, c_X2_backwardsFrom_17, c_X2_backwardsFrom_18, o_aload, o_bin, o_callv, o_get, o_goto, o_ic, o_if, o_iinc, o_iload, o_istore, o_ret, z_cv0, z_cl0, z_cv1, z_cl1, z_cv2, z_cl2, z_cv3, z_cl3, z_cv4, z_cl4, z_cv5, z_cl5, z_cv6, z_cl6, z_cv7, z_cl7, z_cv8, z_cl8, z_cv9, z_cl9, z_cv10, z_cl10, z_cv11, z_cl11, z_cv12, z_cl12, z_cv13, z_cl13, z_len, z_elt, z_isI, z_isJ, Nat.reduceEqDiff, Nat.reduceLeDiff, Nat.reduceLT, Nat.reduceSub, Nat.reduceMul, not_false_eq_true, not_true_eq_false, true_and, and_true, true_or, or_true, false_or, or_false, true_implies, false_implies, implies_true, forall_const, and_self, ne_eq, Classical.not_not, z_up1, z_up2, z_cp1, z_cp2, z_upL1, z_upL2, if_true, if_false, and_false, false_and, f1]
    exact q
  · intro k hk ih
    have e1 : nI (n - k) - 1 = nI (n - 1 - k) := by rw [show n - k = (n - 1 - k) + 1 by omega]; exact nI_pred _
    have f1 : (nI (n - 1 - k) < 0) = False := eq_false (nI_pos (by omega))
    have f2 : nI (n - 1 - k) + -1 = nI (n - (k + 1)) - 1 := by
      rw [show n - (k + 1) = n - 1 - k by omega]
      exact (Int32.sub_eq_add_neg _ _).symm
    rw [e1]
    refine z_go (cut := [7, 2, 13, 16]) 40 ?_
    simp only [z_wp, Bool.false_eq_true, if_true, if_false, z_in, cond_true, cond_false, Nat.reduceAdd, Nat.reduceBEq, z_nth, z_set, z_clr, z_st1, z_st2, z_isL, z_opt, z_pop, z_cats, z_cat, c_X2_backwardsFrom_0, c_X2_backwardsFrom_1, c_X2_backwardsFrom_2, c_X2_backwardsFrom_3, c_X2_backwardsFrom_4, c_X2_backwardsFrom_5, c_X2_backwardsFrom_6, c_X2_backwardsFrom_7, c_X2_backwardsFrom_8, c_X2_backwardsFrom_9, c_X2_backwardsFrom_10, c_X2_backwardsFrom_11, c_X2_backwardsFrom_12, c_X2_backwardsFrom_13, c_X2_backwardsFrom_14, c_X2_backwardsFrom_15, c_X2_backwardsFrom_16, c_X2_backwardsFrom_17, c_X2_backwardsFrom_18, o_aload, o_bin, o_callv, o_get, o_goto, o_ic, o_if, o_iinc, o_iload, o_istore, o_ret, z_cv0, z_cl0, z_cv1, z_cl1, z_cv2, z_cl2, z_cv3, z_cl3, z_cv4, z_cl4, z_cv5, z_cl5, z_cv6, z_cl6, z_cv7, z_cl7, z_cv8, z_cl8, z_cv9, z_cl9, z_cv10, z_cl10, z_cv11, z_cl11, z_cv12, z_cl12, z_cv13, z_cl13, z_len, z_elt, z_isI, z_isJ, Nat.reduceEqDiff, Nat.reduceLeDiff, Nat.reduceLT, Nat.reduceSub, Nat.reduceMul, not_false_eq_true, not_true_eq_false, true_and, and_true, true_or, or_true, false_or, or_false, true_implies, false_implies, implies_true, forall_const, and_self, ne_eq, Classical.not_not, z_up1, z_up2, z_cp1, z_cp2, z_upL1, z_upL2, if_true, if_false, and_false, false_and, f1]
    refine s_pfxAt ?_
    refine z_go (cut := [7, 2, 13, 16]) 40 ?_
    simp only [z_wp, Bool.false_eq_true, if_true, if_false, z_in, cond_true, cond_false, Nat.reduceAdd, Nat.reduceBEq, z_nth, z_set, z_clr, z_st1, z_st2, z_isL, z_opt, z_pop, z_cats, z_cat, c_X2_backwardsFrom_0, c_X2_backwardsFrom_1, c_X2_backwardsFrom_2, c_X2_backwardsFrom_3, c_X2_backwardsFrom_4, c_X2_backwardsFrom_5, c_X2_backwardsFrom_6, c_X2_backwardsFrom_7, c_X2_backwardsFrom_8, c_X2_backwardsFrom_9, c_X2_backwardsFrom_10, c_X2_backwardsFrom_11, c_X2_backwardsFrom_12, c_X2_backwardsFrom_13, c_X2_backwardsFrom_14, c_X2_backwardsFrom_15, c_X2_backwardsFrom_16, c_X2_backwardsFrom_17, c_X2_backwardsFrom_18, o_aload, o_bin, o_callv, o_get, o_goto, o_ic, o_if, o_iinc, o_iload, o_istore, o_ret, z_cv0, z_cl0, z_cv1, z_cl1, z_cv2, z_cl2, z_cv3, z_cl3, z_cv4, z_cl4, z_cv5, z_cl5, z_cv6, z_cl6, z_cv7, z_cl7, z_cv8, z_cl8, z_cv9, z_cl9, z_cv10, z_cl10, z_cv11, z_cl11, z_cv12, z_cl12, z_cv13, z_cl13, z_len, z_elt, z_isI, z_isJ, Nat.reduceEqDiff, Nat.reduceLeDiff, Nat.reduceLT, Nat.reduceSub, Nat.reduceMul, not_false_eq_true, not_true_eq_false, true_and, and_true, true_or, or_true, false_or, or_false, true_implies, false_implies, implies_true, forall_const, and_self, ne_eq, Classical.not_not, z_up1, z_up2, z_cp1, z_cp2, z_upL1, z_upL2, if_true, if_false, and_false, false_and]
    refine s_pfxAdd (sz_nneg (sz_back k (by omega)) (by omega)) ?_
    refine z_go (cut := [7, 2, 13, 16]) 40 ?_
    simp only [z_wp, Bool.false_eq_true, if_true, if_false, z_in, cond_true, cond_false, Nat.reduceAdd, Nat.reduceBEq, z_nth, z_set, z_clr, z_st1, z_st2, z_isL, z_opt, z_pop, z_cats, z_cat, c_X2_backwardsFrom_0, c_X2_backwardsFrom_1, c_X2_backwardsFrom_2, c_X2_backwardsFrom_3, c_X2_backwardsFrom_4, c_X2_backwardsFrom_5, c_X2_backwardsFrom_6, c_X2_backwardsFrom_7, c_X2_backwardsFrom_8, c_X2_backwardsFrom_9, c_X2_backwardsFrom_10, c_X2_backwardsFrom_11, c_X2_backwardsFrom_12, c_X2_backwardsFrom_13, c_X2_backwardsFrom_14, c_X2_backwardsFrom_15, c_X2_backwardsFrom_16, c_X2_backwardsFrom_17, c_X2_backwardsFrom_18, o_aload, o_bin, o_callv, o_get, o_goto, o_ic, o_if, o_iinc, o_iload, o_istore, o_ret, z_cv0, z_cl0, z_cv1, z_cl1, z_cv2, z_cl2, z_cv3, z_cl3, z_cv4, z_cl4, z_cv5, z_cl5, z_cv6, z_cl6, z_cv7, z_cl7, z_cv8, z_cl8, z_cv9, z_cl9, z_cv10, z_cl10, z_cv11, z_cl11, z_cv12, z_cl12, z_cv13, z_cl13, z_len, z_elt, z_isI, z_isJ, Nat.reduceEqDiff, Nat.reduceLeDiff, Nat.reduceLT, Nat.reduceSub, Nat.reduceMul, not_false_eq_true, not_true_eq_false, true_and, and_true, true_or, or_true, false_or, or_false, true_implies, false_implies, implies_true, forall_const, and_self, ne_eq, Classical.not_not, z_up1, z_up2, z_cp1, z_cp2, z_upL1, z_upL2, if_true, if_false, and_false, false_and, f2]
    exact ih
def m_joinStep (w i : Nat) (M : zMem) : zMem :=
  m_pfxAdd (m_pfxTake (m_pfxTake M w i) w i) w i ((16777216 : Int32) ||| (r_lengthOf (r_pfxTake M w i) - 1) <<< (16 &&& 31) ||| r_bitsOf (r_pfxTake M w i) >>> (1 &&& 31))
def m_join1 (w i : Nat) : Nat → zMem → zMem
  | 0, M => M
  | k + 1, M => if r_pfxPair M w i = 0 then M else m_join1 w i k (m_joinStep w i M)
theorem z_off_step {w i : Nat} {M : zMem} : z_off w i M (m_joinStep w i M) := (z_off_take.tr z_off_take).tr z_off_add
theorem z_off_join1 {w i : Nat} : ∀ (k : Nat) (M : zMem), z_off w i M (m_join1 w i k M)
  | 0, M => z_off.rf
  | k + 1, M => by
    unfold m_join1
    split
    · exact z_off.rf
    · exact z_off_step.tr (z_off_join1 k _)
theorem sz_take {w i k : Nat} {M : zMem} (h : M.1 3 w i 1 = nI (k + 1)) (hk : k + 1 ≤ 512) : (m_pfxTake M w i).1 3 w i 1 = nI k := by
  unfold m_pfxTake
  rw [if_neg, z_up1, if_pos ⟨rfl, rfl, rfl, rfl⟩, h]
  · exact nI_pred k
  · rw [h]
    rintro (q | q)
    · exact nI_nlt (a := k + 1) (b := 1) (by omega) (by omega) q
    · exact nI_nlt (a := 512) (b := k + 1) hk (by decide) q
theorem sz_pair {w i k : Nat} {M : zMem} (h : M.1 3 w i 1 = nI k) (hk : k ≤ 512) (hp : ¬ r_pfxPair M w i = 0) : 2 ≤ k := by
  rcases Nat.lt_or_ge k 2 with q | q
  · exfalso
    apply hp
    unfold r_pfxPair
    rw [if_pos]
    refine Or.inl ?_
    unfold r_pfxAt
    rw [if_pos]
    refine Or.inl ?_
    rw [h]
    rcases (show k = 0 ∨ k = 1 by omega) with rfl | rfl <;> decide
  · exact q
theorem sz_step {w i k : Nat} {M : zMem} (h : M.1 3 w i 1 = nI (k + 2)) (hk : k + 2 ≤ 512) : (m_joinStep w i M).1 3 w i 1 = nI (k + 1) := sz_add (sz_take (sz_take h hk) (by omega)) (by omega)
theorem sz_join1 {w i : Nat} : ∀ (f k : Nat) (M : zMem), M.1 3 w i 1 = nI k → k ≤ 512 → ∃ k2, k2 ≤ k ∧ (1 ≤ k → 1 ≤ k2) ∧ (m_join1 w i f M).1 3 w i 1 = nI k2
  | 0, k, M, h, _ => ⟨k, Nat.le_refl _, id, h⟩
  | f + 1, k, M, h, hk => by
    unfold m_join1
    split
    · exact ⟨k, Nat.le_refl _, id, h⟩
    · rename_i hp
      have h2 := sz_pair h hk hp
      obtain ⟨k0, rfl⟩ : ∃ k0, k = k0 + 2 := ⟨k - 2, by omega⟩
      obtain ⟨k2, g1, g2, g3⟩ := sz_join1 f (k0 + 1) _ (sz_step h hk) (by omega)
      exact ⟨k2, by omega, fun _ => g2 (by omega), g3⟩
theorem e_X2_joinedFrom {h : Nat} {a0 : zId} {a1 : zId} {M : zMem} {K : zK} (ha0 : (a0.1 == 99) = false) (ha1 : (a1.1 == 99) = false) (q : z_run (z_nop k_X2_joinedFrom) (z_call h) K 0 [.inr (.inr a0), .inr (.inr a1), z_un, z_un, z_un] [] M) : z_call (h + 1) 25 [.inr (.inr a0), .inr (.inr a1)] M K := ⟨by simp only [List.all_cons, List.all_nil, z_isU, ha0, ha1]; rfl, q⟩
theorem c_X2_joinedFrom_0 : z_nop k_X2_joinedFrom 0 = o_aload 0 := rfl
theorem c_X2_joinedFrom_1 : z_nop k_X2_joinedFrom 1 = o_callv 3 19 1 := rfl
theorem c_X2_joinedFrom_2 : z_nop k_X2_joinedFrom 2 = o_ic 0 := rfl
theorem c_X2_joinedFrom_3 : z_nop k_X2_joinedFrom 3 = o_istore 2 := rfl
theorem c_X2_joinedFrom_4 : z_nop k_X2_joinedFrom 4 = o_iload 2 := rfl
theorem c_X2_joinedFrom_5 : z_nop k_X2_joinedFrom 5 = o_aload 1 := rfl
theorem c_X2_joinedFrom_6 : z_nop k_X2_joinedFrom 6 = o_get 3 1 := rfl
theorem c_X2_joinedFrom_7 : z_nop k_X2_joinedFrom 7 = o_icmp (fun x y => x ≥ y) 46 := rfl
theorem c_X2_joinedFrom_8 : z_nop k_X2_joinedFrom 8 = o_aload 0 := rfl
theorem c_X2_joinedFrom_9 : z_nop k_X2_joinedFrom 9 = o_aload 1 := rfl
theorem c_X2_joinedFrom_10 : z_nop k_X2_joinedFrom 10 = o_iload 2 := rfl
theorem c_X2_joinedFrom_11 : z_nop k_X2_joinedFrom 11 = o_callv 3 22 2 := rfl
theorem c_X2_joinedFrom_12 : z_nop k_X2_joinedFrom 12 = o_callv 3 20 2 := rfl
theorem c_X2_joinedFrom_13 : z_nop k_X2_joinedFrom 13 = o_ic 0 := rfl
theorem c_X2_joinedFrom_14 : z_nop k_X2_joinedFrom 14 = o_istore 3 := rfl
theorem c_X2_joinedFrom_15 : z_nop k_X2_joinedFrom 15 = o_iload 3 := rfl
theorem c_X2_joinedFrom_16 : z_nop k_X2_joinedFrom 16 = o_ic 16 := rfl
theorem c_X2_joinedFrom_17 : z_nop k_X2_joinedFrom 17 = o_icmp (fun x y => x ≥ y) 44 := rfl
theorem c_X2_joinedFrom_18 : z_nop k_X2_joinedFrom 18 = o_aload 0 := rfl
theorem c_X2_joinedFrom_19 : z_nop k_X2_joinedFrom 19 = o_callv 3 26 1 := rfl
theorem c_X2_joinedFrom_20 : z_nop k_X2_joinedFrom 20 = o_if (fun x => x = 0) 44 := rfl
theorem c_X2_joinedFrom_21 : z_nop k_X2_joinedFrom 21 = o_aload 0 := rfl
theorem c_X2_joinedFrom_22 : z_nop k_X2_joinedFrom 22 = o_callv 3 21 1 := rfl
theorem c_X2_joinedFrom_23 : z_nop k_X2_joinedFrom 23 = o_istore 4 := rfl
theorem c_X2_joinedFrom_24 : z_nop k_X2_joinedFrom 24 = o_aload 0 := rfl
theorem c_X2_joinedFrom_25 : z_nop k_X2_joinedFrom 25 = o_callv 3 21 1 := rfl
theorem c_X2_joinedFrom_26 : z_nop k_X2_joinedFrom 26 = o_pop := rfl
theorem c_X2_joinedFrom_27 : z_nop k_X2_joinedFrom 27 = o_aload 0 := rfl
theorem c_X2_joinedFrom_28 : z_nop k_X2_joinedFrom 28 = o_ic 16777216 := rfl
theorem c_X2_joinedFrom_29 : z_nop k_X2_joinedFrom 29 = o_iload 4 := rfl
theorem c_X2_joinedFrom_30 : z_nop k_X2_joinedFrom 30 = o_call 15 1 := rfl
theorem c_X2_joinedFrom_31 : z_nop k_X2_joinedFrom 31 = o_ic 1 := rfl
theorem c_X2_joinedFrom_32 : z_nop k_X2_joinedFrom 32 = o_bin (fun x y => x - y) := rfl
theorem c_X2_joinedFrom_33 : z_nop k_X2_joinedFrom 33 = o_ic 16 := rfl
theorem c_X2_joinedFrom_34 : z_nop k_X2_joinedFrom 34 = o_bin (fun x y => x <<< (y &&& 31)) := rfl
theorem c_X2_joinedFrom_35 : z_nop k_X2_joinedFrom 35 = o_bin (fun x y => x ||| y) := rfl
theorem c_X2_joinedFrom_36 : z_nop k_X2_joinedFrom 36 = o_iload 4 := rfl
theorem c_X2_joinedFrom_37 : z_nop k_X2_joinedFrom 37 = o_call 16 1 := rfl
theorem c_X2_joinedFrom_38 : z_nop k_X2_joinedFrom 38 = o_ic 1 := rfl
theorem c_X2_joinedFrom_39 : z_nop k_X2_joinedFrom 39 = o_bin (fun x y => x >>> (y &&& 31)) := rfl
theorem c_X2_joinedFrom_40 : z_nop k_X2_joinedFrom 40 = o_bin (fun x y => x ||| y) := rfl
theorem c_X2_joinedFrom_41 : z_nop k_X2_joinedFrom 41 = o_callv 3 20 2 := rfl
theorem c_X2_joinedFrom_42 : z_nop k_X2_joinedFrom 42 = o_iinc 3 1 := rfl
theorem c_X2_joinedFrom_43 : z_nop k_X2_joinedFrom 43 = o_goto 15 := rfl
theorem c_X2_joinedFrom_44 : z_nop k_X2_joinedFrom 44 = o_iinc 2 1 := rfl
theorem c_X2_joinedFrom_45 : z_nop k_X2_joinedFrom 45 = o_goto 4 := rfl
theorem c_X2_joinedFrom_46 : z_nop k_X2_joinedFrom 46 = o_ret := rfl

def f_joined (w i j : Nat) : Nat → zMem → zMem := fun a M => m_join1 w i 16 (m_pfxAdd M w i (r_pfxAt M w j (nI a)))
theorem sz_joined {w i j : Nat} {M : zMem} : ∀ a, a ≤ 512 → ∃ k, k ≤ a ∧ (z_it (f_joined w i j) a (m_pfxClear M w i)).1 3 w i 1 = nI k
  | 0, _ => ⟨0, Nat.le_refl _, by
    show (z_up M 3 w i 1 0).1 3 w i 1 = _
    rw [z_up1, if_pos ⟨rfl, rfl, rfl, rfl⟩]
    rfl⟩
  | a + 1, ha => by
    obtain ⟨k, g1, g2⟩ := sz_joined (M := M) a (by omega)
    obtain ⟨k2, h1, -, h2⟩ := sz_join1 16 (k + 1) (m_pfxAdd (z_it (f_joined w i j) a (m_pfxClear M w i)) w i (r_pfxAt (z_it (f_joined w i j) a (m_pfxClear M w i)) w j (nI a))) (sz_add g2 (by omega)) (by omega)
    exact ⟨k2, by omega, h2⟩
theorem z_off_joined {w i j : Nat} {M : zMem} : ∀ a, z_off w i M (z_it (f_joined w i j) a (m_pfxClear M w i))
  | 0 => z_off_clear
  | a + 1 => (z_off_joined a).tr (z_off_add.tr (z_off_join1 _ _))
theorem z_lt16 {n : Nat} (h : n < 16) : (nI n < 16) = True ∧ (nI n ≥ 16) = False ∧ vp_in (nI n) 16 = True ∧ (nI n).toNatClampNeg = n ∧ nI n + 1 = nI (n + 1) := z_lt (N := 16) h (by decide)
theorem z_eq16 : (nI 16 < 16) = False ∧ (nI 16 ≥ 16) = True := z_eqN (N := 16)
set_option maxRecDepth 100000 in
theorem s_joinIn {h w i j : Nat} {K : zK} {ia : Int32} : ∀ n, n ≤ 16 → ∀ (M : zMem) (v : zV) (k : Nat), M.1 3 w i 1 = nI k → k ≤ 512 → (∀ x u, z_run (z_nop k_X2_joinedFrom) (z_call (h + 2)) K 44 [.inr (.inr (3, w, i)), .inr (.inr (3, w, j)), .inl ia, .inl x, u] [] (m_join1 w i (16 - n) M)) → z_run (z_nop k_X2_joinedFrom) (z_call (h + 2)) K 15 [.inr (.inr (3, w, i)), .inr (.inr (3, w, j)), .inl ia, .inl (nI n), v] [] M := by
  refine z_loop (fun n => ∀ (M : zMem) (v : zV) (k : Nat), M.1 3 w i 1 = nI k → k ≤ 512 → (∀ x u, z_run (z_nop k_X2_joinedFrom) (z_call (h + 2)) K 44 [.inr (.inr (3, w, i)), .inr (.inr (3, w, j)), .inl ia, .inl x, u] [] (m_join1 w i (16 - n) M)) → z_run (z_nop k_X2_joinedFrom) (z_call (h + 2)) K 15 [.inr (.inr (3, w, i)), .inr (.inr (3, w, j)), .inl ia, .inl (nI n), v] [] M) 16 ?_ ?_
  · intro M v k hk hk2 q
    obtain ⟨f1, f2⟩ := z_eq16
    refine z_go (cut := [4, 15, 44, 20, 23, 26, 31, 38, 42]) 40 ?_
    simp only [z_wp, Bool.false_eq_true, if_true, if_false, z_in, cond_true, cond_false, Nat.reduceAdd, Nat.reduceBEq, z_nth, z_set, z_clr, z_st1, z_st2, z_isL, z_opt, z_pop, z_cats, z_cat, c_X2_joinedFrom_0, c_X2_joinedFrom_1, c_X2_joinedFrom_2, c_X2_joinedFrom_3, c_X2_joinedFrom_4, c_X2_joinedFrom_5, c_X2_joinedFrom_6, c_X2_joinedFrom_7, c_X2_joinedFrom_8, c_X2_joinedFrom_9, c_X2_joinedFrom_10, c_X2_joinedFrom_11, c_X2_joinedFrom_12, c_X2_joinedFrom_13, c_X2_joinedFrom_14, c_X2_joinedFrom_15, c_X2_joinedFrom_16, c_X2_joinedFrom_17, c_X2_joinedFrom_18, c_X2_joinedFrom_19, c_X2_joinedFrom_20, c_X2_joinedFrom_21, c_X2_joinedFrom_22, c_X2_joinedFrom_23, c_X2_joinedFrom_24, c_X2_joinedFrom_25, c_X2_joinedFrom_26, c_X2_joinedFrom_27, c_X2_joinedFrom_28, c_X2_joinedFrom_29, c_X2_joinedFrom_30, c_X2_joinedFrom_31, c_X2_joinedFrom_32, c_X2_joinedFrom_33, c_X2_joinedFrom_34, c_X2_joinedFrom_35, c_X2_joinedFrom_36, c_X2_joinedFrom_37, c_X2_joinedFrom_38, c_X2_joinedFrom_39, c_X2_joinedFrom_40, c_X2_joinedFrom_41, c_X2_joinedFrom_42, c_X2_joinedFrom_43, c_X2_joinedFrom_44, c_X2_joinedFrom_45, c_X2_joinedFrom_46, o_aload, o_bin, o_call, o_callv, o_get, o_goto, o_ic, o_icmp, o_if, o_iinc, o_iload, o_istore, o_pop, o_ret, z_cv0, z_cl0, z_cv1, z_cl1, z_cv2, z_cl2, z_cv3, z_cl3, z_cv4, z_cl4, z_cv5, z_cl5, z_cv6, z_cl6, z_cv7, z_cl7, z_cv8, z_cl8, z_cv9, z_cl9, z_cv10, z_cl10, z_cv11, z_cl11, z_cv12, z_cl12, z_cv13, z_cl13, z_len, z_elt, z_isI, z_isJ, Nat.reduceEqDiff, Nat.reduceLeDiff, Nat.reduceLT, Nat.reduceSub, Nat.reduceMul, not_false_eq_true, not_true_eq_false, true_and, and_true, true_or, or_true, false_or, or_false, true_implies, false_implies, implies_true, forall_const, and_self, ne_eq, Classical.not_not, z_up1, z_up2, z_cp1, z_cp2, z_upL1, z_upL2, if_true, if_false, and_false, false_and, f1, f2]
    exact q _ _
  · intro n hn ih M v k hk hk2 q
    obtain ⟨f1, f2, f3, f4, f5⟩ := z_lt16 hn
    rw [show 16 - n = (16 - (n + 1)) + 1 by omega] at q
    unfold m_join1 at q
    refine z_go (cut := [4, 15, 44, 20, 23, 26, 31, 38, 42]) 40 ?_
    simp only [z_wp, Bool.false_eq_true, if_true, if_false, z_in, cond_true, cond_false, Nat.reduceAdd, Nat.reduceBEq, z_nth, z_set, z_clr, z_st1, z_st2, z_isL, z_opt, z_pop, z_cats, z_cat, c_X2_joinedFrom_0, c_X2_joinedFrom_1, c_X2_joinedFrom_2, c_X2_joinedFrom_3, c_X2_joinedFrom_4, c_X2_joinedFrom_5, c_X2_joinedFrom_6, c_X2_joinedFrom_7, c_X2_joinedFrom_8, c_X2_joinedFrom_9, c_X2_joinedFrom_10, c_X2_joinedFrom_11, c_X2_joinedFrom_12, c_X2_joinedFrom_13, c_X2_joinedFrom_14, c_X2_joinedFrom_15, c_X2_joinedFrom_16, c_X2_joinedFrom_17, c_X2_joinedFrom_18, c_X2_joinedFrom_19, c_X2_joinedFrom_20, c_X2_joinedFrom_21, c_X2_joinedFrom_22, c_X2_joinedFrom_23, c_X2_joinedFrom_24, c_X2_joinedFrom_25, c_X2_joinedFrom_26, c_X2_joinedFrom_27, c_X2_joinedFrom_28, c_X2_joinedFrom_29, c_X2_joinedFrom_30, c_X2_joinedFrom_31, c_X2_joinedFrom_32, c_X2_joinedFrom_33, c_X2_joinedFrom_34, c_X2_joinedFrom_35, c_X2_joinedFrom_36, c_X2_joinedFrom_37, c_X2_joinedFrom_38, c_X2_joinedFrom_39, c_X2_joinedFrom_40, c_X2_joinedFrom_41, c_X2_joinedFrom_42, c_X2_joinedFrom_43, c_X2_joinedFrom_44, c_X2_joinedFrom_45, c_X2_joinedFrom_46, o_aload, o_bin, o_call, o_callv, o_get, o_goto, o_ic, o_icmp, o_if, o_iinc, o_iload, o_istore, o_pop, o_ret, z_cv0, z_cl0, z_cv1, z_cl1, z_cv2, z_cl2, z_cv3, z_cl3, z_cv4, z_cl4, z_cv5, z_cl5, z_cv6, z_cl6, z_cv7, z_cl7, z_cv8, z_cl8, z_cv9, z_cl9, z_cv10, z_cl10, z_cv11, z_cl11, z_cv12, z_cl12, z_cv13, z_cl13, z_len, z_elt, z_isI, z_isJ, Nat.reduceEqDiff, Nat.reduceLeDiff, Nat.reduceLT, Nat.reduceSub, Nat.reduceMul, not_false_eq_true, not_true_eq_false, true_and, and_true, true_or, or_true, false_or, or_false, true_implies, false_implies, implies_true, forall_const, and_self, ne_eq, Classical.not_not, z_up1, z_up2, z_cp1, z_cp2, z_upL1, z_upL2, if_true, if_false, and_false, false_and, f1, f2]
    refine s_pfxPair ?_
    refine z_go (cut := [4, 15, 44, 20, 23, 26, 31, 38, 42]) 40 ?_
    simp only [z_wp, Bool.false_eq_true, if_true, if_false, z_in, cond_true, cond_false, Nat.reduceAdd, Nat.reduceBEq, z_nth, z_set, z_clr, z_st1, z_st2, z_isL, z_opt, z_pop, z_cats, z_cat, c_X2_joinedFrom_0, c_X2_joinedFrom_1, c_X2_joinedFrom_2, c_X2_joinedFrom_3, c_X2_joinedFrom_4, c_X2_joinedFrom_5, c_X2_joinedFrom_6, c_X2_joinedFrom_7, c_X2_joinedFrom_8, c_X2_joinedFrom_9, c_X2_joinedFrom_10, c_X2_joinedFrom_11, c_X2_joinedFrom_12, c_X2_joinedFrom_13, c_X2_joinedFrom_14, c_X2_joinedFrom_15, c_X2_joinedFrom_16, c_X2_joinedFrom_17, c_X2_joinedFrom_18, c_X2_joinedFrom_19, c_X2_joinedFrom_20, c_X2_joinedFrom_21, c_X2_joinedFrom_22, c_X2_joinedFrom_23, c_X2_joinedFrom_24, c_X2_joinedFrom_25, c_X2_joinedFrom_26, c_X2_joinedFrom_27, c_X2_joinedFrom_28, c_X2_joinedFrom_29, c_X2_joinedFrom_30, c_X2_joinedFrom_31, c_X2_joinedFrom_32, c_X2_joinedFrom_33, c_X2_joinedFrom_34, c_X2_joinedFrom_35, c_X2_joinedFrom_36, c_X2_joinedFrom_37, c_X2_joinedFrom_38, c_X2_joinedFrom_39, c_X2_joinedFrom_40, c_X2_joinedFrom_41, c_X2_joinedFrom_42, c_X2_joinedFrom_43, c_X2_joinedFrom_44, c_X2_joinedFrom_45, c_X2_joinedFrom_46, o_aload, o_bin, o_call, o_callv, o_get, o_goto, o_ic, o_icmp, o_if, o_iinc, o_iload, o_istore, o_pop, o_ret, z_cv0, z_cl0, z_cv1, z_cl1, z_cv2, z_cl2, z_cv3, z_cl3, z_cv4, z_cl4, z_cv5, z_cl5, z_cv6, z_cl6, z_cv7, z_cl7, z_cv8, z_cl8, z_cv9, z_cl9, z_cv10, z_cl10, z_cv11, z_cl11, z_cv12, z_cl12, z_cv13, z_cl13, z_len, z_elt, z_isI, z_isJ, Nat.reduceEqDiff, Nat.reduceLeDiff, Nat.reduceLT, Nat.reduceSub, Nat.reduceMul, not_false_eq_true, not_true_eq_false, true_and, and_true, true_or, or_true, false_or, or_false, true_implies, false_implies, implies_true, forall_const, and_self, ne_eq, Classical.not_not, z_up1, z_up2, z_cp1, z_cp2, z_upL1, z_upL2, if_true, if_false, and_false, false_and]
    refine ⟨fun c => ?_, fun c => ?_⟩
    · rw [if_pos c] at q
      exact q _ _
    · rw [if_neg c] at q
      have h2 := sz_pair hk hk2 c
      obtain ⟨k0, rfl⟩ : ∃ k0, k = k0 + 2 := ⟨k - 2, by omega⟩
      refine s_pfxTake ?_
      refine z_go (cut := [4, 15, 44, 20, 23, 26, 31, 38, 42]) 40 ?_
      simp only [z_wp, Bool.false_eq_true, if_true, if_false, z_in, cond_true, cond_false, Nat.reduceAdd, Nat.reduceBEq, z_nth, z_set, z_clr, z_st1, z_st2, z_isL, z_opt, z_pop, z_cats, z_cat, c_X2_joinedFrom_0, c_X2_joinedFrom_1, c_X2_joinedFrom_2, c_X2_joinedFrom_3, c_X2_joinedFrom_4, c_X2_joinedFrom_5, c_X2_joinedFrom_6, c_X2_joinedFrom_7, c_X2_joinedFrom_8, c_X2_joinedFrom_9, c_X2_joinedFrom_10, c_X2_joinedFrom_11, c_X2_joinedFrom_12, c_X2_joinedFrom_13, c_X2_joinedFrom_14, c_X2_joinedFrom_15, c_X2_joinedFrom_16, c_X2_joinedFrom_17, c_X2_joinedFrom_18, c_X2_joinedFrom_19, c_X2_joinedFrom_20, c_X2_joinedFrom_21, c_X2_joinedFrom_22, c_X2_joinedFrom_23, c_X2_joinedFrom_24, c_X2_joinedFrom_25, c_X2_joinedFrom_26, c_X2_joinedFrom_27, c_X2_joinedFrom_28, c_X2_joinedFrom_29, c_X2_joinedFrom_30, c_X2_joinedFrom_31, c_X2_joinedFrom_32, c_X2_joinedFrom_33, c_X2_joinedFrom_34, c_X2_joinedFrom_35, c_X2_joinedFrom_36, c_X2_joinedFrom_37, c_X2_joinedFrom_38, c_X2_joinedFrom_39, c_X2_joinedFrom_40, c_X2_joinedFrom_41, c_X2_joinedFrom_42, c_X2_joinedFrom_43, c_X2_joinedFrom_44, c_X2_joinedFrom_45, c_X2_joinedFrom_46, o_aload, o_bin, o_call, o_callv, o_get, o_goto, o_ic, o_icmp, o_if, o_iinc, o_iload, o_istore, o_pop, o_ret, z_cv0, z_cl0, z_cv1, z_cl1, z_cv2, z_cl2, z_cv3, z_cl3, z_cv4, z_cl4, z_cv5, z_cl5, z_cv6, z_cl6, z_cv7, z_cl7, z_cv8, z_cl8, z_cv9, z_cl9, z_cv10, z_cl10, z_cv11, z_cl11, z_cv12, z_cl12, z_cv13, z_cl13, z_len, z_elt, z_isI, z_isJ, Nat.reduceEqDiff, Nat.reduceLeDiff, Nat.reduceLT, Nat.reduceSub, Nat.reduceMul, not_false_eq_true, not_true_eq_false, true_and, and_true, true_or, or_true, false_or, or_false, true_implies, false_implies, implies_true, forall_const, and_self, ne_eq, Classical.not_not, z_up1, z_up2, z_cp1, z_cp2, z_upL1, z_upL2, if_true, if_false, and_false, false_and]
      refine s_pfxTake ?_
      refine z_go (cut := [4, 15, 44, 20, 23, 26, 31, 38, 42]) 40 ?_
      simp only [z_wp, Bool.false_eq_true, if_true, if_false, z_in, cond_true, cond_false, Nat.reduceAdd, Nat.reduceBEq, z_nth, z_set, z_clr, z_st1, z_st2, z_isL, z_opt, z_pop, z_cats, z_cat, c_X2_joinedFrom_0, c_X2_joinedFrom_1, c_X2_joinedFrom_2, c_X2_joinedFrom_3, c_X2_joinedFrom_4, c_X2_joinedFrom_5, c_X2_joinedFrom_6, c_X2_joinedFrom_7, c_X2_joinedFrom_8, c_X2_joinedFrom_9, c_X2_joinedFrom_10, c_X2_joinedFrom_11, c_X2_joinedFrom_12, c_X2_joinedFrom_13, c_X2_joinedFrom_14, c_X2_joinedFrom_15, c_X2_joinedFrom_16, c_X2_joinedFrom_17, c_X2_joinedFrom_18, c_X2_joinedFrom_19, c_X2_joinedFrom_20, c_X2_joinedFrom_21, c_X2_joinedFrom_22, c_X2_joinedFrom_23, c_X2_joinedFrom_24, c_X2_joinedFrom_25, c_X2_joinedFrom_26, c_X2_joinedFrom_27, c_X2_joinedFrom_28, c_X2_joinedFrom_29, c_X2_joinedFrom_30, c_X2_joinedFrom_31, c_X2_joinedFrom_32, c_X2_joinedFrom_33, c_X2_joinedFrom_34, c_X2_joinedFrom_35, c_X2_joinedFrom_36, c_X2_joinedFrom_37, c_X2_joinedFrom_38, c_X2_joinedFrom_39, c_X2_joinedFrom_40, c_X2_joinedFrom_41, c_X2_joinedFrom_42, c_X2_joinedFrom_43, c_X2_joinedFrom_44, c_X2_joinedFrom_45, c_X2_joinedFrom_46, o_aload, o_bin, o_call, o_callv, o_get, o_goto, o_ic, o_icmp, o_if, o_iinc, o_iload, o_istore, o_pop, o_ret, z_cv0, z_cl0, z_cv1, z_cl1, z_cv2, z_cl2, z_cv3, z_cl3, z_cv4, z_cl4, z_cv5, z_cl5, z_cv6, z_cl6, z_cv7, z_cl7, z_cv8, z_cl8, z_cv9, z_cl9, z_cv10, z_cl10, z_cv11, z_cl11, z_cv12, z_cl12, z_cv13, z_cl13, z_len, z_elt, z_isI, z_isJ, Nat.reduceEqDiff, Nat.reduceLeDiff, Nat.reduceLT, Nat.reduceSub, Nat.reduceMul, not_false_eq_true, not_true_eq_false, true_and, and_true, true_or, or_true, false_or, or_false, true_implies, false_implies, implies_true, forall_const, and_self, ne_eq, Classical.not_not, z_up1, z_up2, z_cp1, z_cp2, z_upL1, z_upL2, if_true, if_false, and_false, false_and]
      refine s_lengthOf ?_
      refine z_go (cut := [4, 15, 44, 20, 23, 26, 31, 38, 42]) 40 ?_
      simp only [z_wp, Bool.false_eq_true, if_true, if_false, z_in, cond_true, cond_false, Nat.reduceAdd, Nat.reduceBEq, z_nth, z_set, z_clr, z_st1, z_st2, z_isL, z_opt, z_pop, z_cats, z_cat, c_X2_joinedFrom_0, c_X2_joinedFrom_1, c_X2_joinedFrom_2, c_X2_joinedFrom_3, c_X2_joinedFrom_4, c_X2_joinedFrom_5, c_X2_joinedFrom_6, c_X2_joinedFrom_7, c_X2_joinedFrom_8, c_X2_joinedFrom_9, c_X2_joinedFrom_10, c_X2_joinedFrom_11, c_X2_joinedFrom_12, c_X2_joinedFrom_13, c_X2_joinedFrom_14, c_X2_joinedFrom_15, c_X2_joinedFrom_16, c_X2_joinedFrom_17, c_X2_joinedFrom_18, c_X2_joinedFrom_19, c_X2_joinedFrom_20, c_X2_joinedFrom_21, c_X2_joinedFrom_22, c_X2_joinedFrom_23, c_X2_joinedFrom_24, c_X2_joinedFrom_25, c_X2_joinedFrom_26, c_X2_joinedFrom_27, c_X2_joinedFrom_28, c_X2_joinedFrom_29, c_X2_joinedFrom_30, c_X2_joinedFrom_31, c_X2_joinedFrom_32, c_X2_joinedFrom_33, c_X2_joinedFrom_34, c_X2_joinedFrom_35, c_X2_joinedFrom_36, c_X2_joinedFrom_37, c_X2_joinedFrom_38, c_X2_joinedFrom_39, c_X2_joinedFrom_40, c_X2_joinedFrom_41, c_X2_joinedFrom_42, c_X2_joinedFrom_43, c_X2_joinedFrom_44, c_X2_joinedFrom_45, c_X2_joinedFrom_46, o_aload, o_bin, o_call, o_callv, o_get, o_goto, o_ic, o_icmp, o_if, o_iinc, o_iload, o_istore, o_pop, o_ret, z_cv0, z_cl0, z_cv1, z_cl1, z_cv2, z_cl2, z_cv3, z_cl3, z_cv4, z_cl4, z_cv5, z_cl5, z_cv6, z_cl6, z_cv7, z_cl7, z_cv8, z_cl8, z_cv9, z_cl9, z_cv10, z_cl10, z_cv11, z_cl11, z_cv12, z_cl12, z_cv13, z_cl13, z_len, z_elt, z_isI, z_isJ, Nat.reduceEqDiff, Nat.reduceLeDiff, Nat.reduceLT, Nat.reduceSub, Nat.reduceMul, not_false_eq_true, not_true_eq_false, true_and, and_true, true_or, or_true, false_or, or_false, true_implies, false_implies, implies_true, forall_const, and_self, ne_eq, Classical.not_not, z_up1, z_up2, z_cp1, z_cp2, z_upL1, z_upL2, if_true, if_false, and_false, false_and]
      refine s_bitsOf ?_
      refine z_go (cut := [4, 15, 44, 20, 23, 26, 31, 38, 42]) 40 ?_
      simp only [z_wp, Bool.false_eq_true, if_true, if_false, z_in, cond_true, cond_false, Nat.reduceAdd, Nat.reduceBEq, z_nth, z_set, z_clr, z_st1, z_st2, z_isL, z_opt, z_pop, z_cats, z_cat, c_X2_joinedFrom_0, c_X2_joinedFrom_1, c_X2_joinedFrom_2, c_X2_joinedFrom_3, c_X2_joinedFrom_4, c_X2_joinedFrom_5, c_X2_joinedFrom_6, c_X2_joinedFrom_7, c_X2_joinedFrom_8, c_X2_joinedFrom_9, c_X2_joinedFrom_10, c_X2_joinedFrom_11, c_X2_joinedFrom_12, c_X2_joinedFrom_13, c_X2_joinedFrom_14, c_X2_joinedFrom_15, c_X2_joinedFrom_16, c_X2_joinedFrom_17, c_X2_joinedFrom_18, c_X2_joinedFrom_19, c_X2_joinedFrom_20, c_X2_joinedFrom_21, c_X2_joinedFrom_22, c_X2_joinedFrom_23, c_X2_joinedFrom_24, c_X2_joinedFrom_25, c_X2_joinedFrom_26, c_X2_joinedFrom_27, c_X2_joinedFrom_28, c_X2_joinedFrom_29, c_X2_joinedFrom_30, c_X2_joinedFrom_31, c_X2_joinedFrom_32, c_X2_joinedFrom_33, c_X2_joinedFrom_34, c_X2_joinedFrom_35, c_X2_joinedFrom_36, c_X2_joinedFrom_37, c_X2_joinedFrom_38, c_X2_joinedFrom_39, c_X2_joinedFrom_40, c_X2_joinedFrom_41, c_X2_joinedFrom_42, c_X2_joinedFrom_43, c_X2_joinedFrom_44, c_X2_joinedFrom_45, c_X2_joinedFrom_46, o_aload, o_bin, o_call, o_callv, o_get, o_goto, o_ic, o_icmp, o_if, o_iinc, o_iload, o_istore, o_pop, o_ret, z_cv0, z_cl0, z_cv1, z_cl1, z_cv2, z_cl2, z_cv3, z_cl3, z_cv4, z_cl4, z_cv5, z_cl5, z_cv6, z_cl6, z_cv7, z_cl7, z_cv8, z_cl8, z_cv9, z_cl9, z_cv10, z_cl10, z_cv11, z_cl11, z_cv12, z_cl12, z_cv13, z_cl13, z_len, z_elt, z_isI, z_isJ, Nat.reduceEqDiff, Nat.reduceLeDiff, Nat.reduceLT, Nat.reduceSub, Nat.reduceMul, not_false_eq_true, not_true_eq_false, true_and, and_true, true_or, or_true, false_or, or_false, true_implies, false_implies, implies_true, forall_const, and_self, ne_eq, Classical.not_not, z_up1, z_up2, z_cp1, z_cp2, z_upL1, z_upL2, if_true, if_false, and_false, false_and]
      have t1 := sz_take hk hk2
      have t2 := sz_take t1 (by omega)
      refine s_pfxAdd (sz_nneg t2 (by omega)) ?_
      refine z_go (cut := [4, 15, 44, 20, 23, 26, 31, 38, 42]) 40 ?_
      simp only [z_wp, Bool.false_eq_true, if_true, if_false, z_in, cond_true, cond_false, Nat.reduceAdd, Nat.reduceBEq, z_nth, z_set, z_clr, z_st1, z_st2, z_isL, z_opt, z_pop, z_cats, z_cat, c_X2_joinedFrom_0, c_X2_joinedFrom_1, c_X2_joinedFrom_2, c_X2_joinedFrom_3, c_X2_joinedFrom_4, c_X2_joinedFrom_5, c_X2_joinedFrom_6, c_X2_joinedFrom_7, c_X2_joinedFrom_8, c_X2_joinedFrom_9, c_X2_joinedFrom_10, c_X2_joinedFrom_11, c_X2_joinedFrom_12, c_X2_joinedFrom_13, c_X2_joinedFrom_14, c_X2_joinedFrom_15, c_X2_joinedFrom_16, c_X2_joinedFrom_17, c_X2_joinedFrom_18, c_X2_joinedFrom_19, c_X2_joinedFrom_20, c_X2_joinedFrom_21, c_X2_joinedFrom_22, c_X2_joinedFrom_23, c_X2_joinedFrom_24, c_X2_joinedFrom_25, c_X2_joinedFrom_26, c_X2_joinedFrom_27, c_X2_joinedFrom_28, c_X2_joinedFrom_29, c_X2_joinedFrom_30, c_X2_joinedFrom_31, c_X2_joinedFrom_32, c_X2_joinedFrom_33, c_X2_joinedFrom_34, c_X2_joinedFrom_35, c_X2_joinedFrom_36, c_X2_joinedFrom_37, c_X2_joinedFrom_38, c_X2_joinedFrom_39, c_X2_joinedFrom_40, c_X2_joinedFrom_41, c_X2_joinedFrom_42, c_X2_joinedFrom_43, c_X2_joinedFrom_44, c_X2_joinedFrom_45, c_X2_joinedFrom_46, o_aload, o_bin, o_call, o_callv, o_get, o_goto, o_ic, o_icmp, o_if, o_iinc, o_iload, o_istore, o_pop, o_ret, z_cv0, z_cl0, z_cv1, z_cl1, z_cv2, z_cl2, z_cv3, z_cl3, z_cv4, z_cl4, z_cv5, z_cl5, z_cv6, z_cl6, z_cv7, z_cl7, z_cv8, z_cl8, z_cv9, z_cl9, z_cv10, z_cl10, z_cv11, z_cl11, z_cv12, z_cl12, z_cv13, z_cl13, z_len, z_elt, z_isI, z_isJ, Nat.reduceEqDiff, Nat.reduceLeDiff, Nat.reduceLT, Nat.reduceSub, Nat.reduceMul, not_false_eq_true, not_true_eq_false, true_and, and_true, true_or, or_true, false_or, or_false, true_implies, false_implies, implies_true, forall_const, and_self, ne_eq, Classical.not_not, z_up1, z_up2, z_cp1, z_cp2, z_upL1, z_upL2, if_true, if_false, and_false, false_and, f5]
      exact ih _ _ (k0 + 1) (sz_step hk hk2) (by omega) q
set_option maxRecDepth 100000 in
theorem s_joined {h w i j n : Nat} {M : zMem} {K : zK} (hn : M.1 3 w j 1 = nI n) (hn2 : n ≤ 512) (hij : ¬ j = i) (q : K none (z_it (f_joined w i j) n (m_pfxClear M w i))) : z_call (h + 3) 25 [.inr (.inr (3, w, i)), .inr (.inr (3, w, j))] M K := by
  refine e_X2_joinedFrom rfl rfl ?_
  refine z_wp_run (cut := [2, 4, 12, 13, 15, 20, 23, 26, 31, 38, 42, 44]) 49 _ _ _ _ ?_
  repeat' (first | (simp only [z_wp, Bool.false_eq_true, if_true, if_false, z_in, cond_true, cond_false, Nat.reduceAdd, Nat.reduceBEq, z_nth, z_set, z_clr, z_st1, z_st2, z_isL, z_opt, z_pop, z_cats, z_cat, c_X2_joinedFrom_0, c_X2_joinedFrom_1, c_X2_joinedFrom_2, c_X2_joinedFrom_3, c_X2_joinedFrom_4, c_X2_joinedFrom_5, c_X2_joinedFrom_6, c_X2_joinedFrom_7, c_X2_joinedFrom_8, c_X2_joinedFrom_9, c_X2_joinedFrom_10, c_X2_joinedFrom_11, c_X2_joinedFrom_12, c_X2_joinedFrom_13, c_X2_joinedFrom_14, c_X2_joinedFrom_15, c_X2_joinedFrom_16, c_X2_joinedFrom_17, c_X2_joinedFrom_18, c_X2_joinedFrom_19, c_X2_joinedFrom_20, c_X2_joinedFrom_21, c_X2_joinedFrom_22, c_X2_joinedFrom_23, c_X2_joinedFrom_24, c_X2_joinedFrom_25, c_X2_joinedFrom_26, c_X2_joinedFrom_27, c_X2_joinedFrom_28, c_X2_joinedFrom_29, c_X2_joinedFrom_30, c_X2_joinedFrom_31, c_X2_joinedFrom_32, c_X2_joinedFrom_33, c_X2_joinedFrom_34, c_X2_joinedFrom_35, c_X2_joinedFrom_36, c_X2_joinedFrom_37, c_X2_joinedFrom_38, c_X2_joinedFrom_39, c_X2_joinedFrom_40, c_X2_joinedFrom_41, c_X2_joinedFrom_42, c_X2_joinedFrom_43, c_X2_joinedFrom_44, c_X2_joinedFrom_45, c_X2_joinedFrom_46, o_aload, o_bin, o_call, o_callv, o_get, o_goto, o_ic, o_icmp, o_if, o_iinc, o_iload, o_istore, o_pop, o_ret, z_cv0, z_cl0, z_cv1, z_cl1, z_cv2, z_cl2, z_cv3, z_cl3, z_cv4, z_cl4, z_cv5, z_cl5, z_cv6, z_cl6, z_cv7, z_cl7, z_cv8, z_cl8, z_cv9, z_cl9, z_cv10, z_cl10, z_cv11, z_cl11, z_cv12, z_cl12, z_cv13, z_cl13, z_len, z_elt, z_isI, z_isJ, Nat.reduceEqDiff, Nat.reduceLeDiff, Nat.reduceLT, Nat.reduceSub, Nat.reduceMul, not_false_eq_true, not_true_eq_false, true_and, and_true, true_or, or_true, false_or, or_false, true_implies, false_implies, implies_true, forall_const, and_self, ne_eq, Classical.not_not, z_up1, z_up2, z_cp1, z_cp2, z_upL1, z_upL2, if_true, if_false, and_false, false_and]) | (refine s_pfxClear ?_) | (with_reducible refine And.intro ?_ ?_) | (with_reducible intro _) | (with_reducible refine z_go (i := 2) (cut := [2, 4, 12, 13, 15, 20, 23, 26, 31, 38, 42, 44]) 49 ?_) | (with_reducible refine z_go (i := 12) (cut := [2, 4, 12, 13, 15, 20, 23, 26, 31, 38, 42, 44]) 49 ?_) | (with_reducible refine z_go (i := 13) (cut := [2, 4, 12, 13, 15, 20, 23, 26, 31, 38, 42, 44]) 49 ?_) | (with_reducible refine z_go (i := 20) (cut := [2, 4, 12, 13, 15, 20, 23, 26, 31, 38, 42, 44]) 49 ?_) | (with_reducible refine z_go (i := 23) (cut := [2, 4, 12, 13, 15, 20, 23, 26, 31, 38, 42, 44]) 49 ?_) | (with_reducible refine z_go (i := 26) (cut := [2, 4, 12, 13, 15, 20, 23, 26, 31, 38, 42, 44]) 49 ?_) | (with_reducible refine z_go (i := 31) (cut := [2, 4, 12, 13, 15, 20, 23, 26, 31, 38, 42, 44]) 49 ?_) | (with_reducible refine z_go (i := 38) (cut := [2, 4, 12, 13, 15, 20, 23, 26, 31, 38, 42, 44]) 49 ?_) | (with_reducible refine z_go (i := 42) (cut := [2, 4, 12, 13, 15, 20, 23, 26, 31, 38, 42, 44]) 49 ?_))
  have key := z_loop (fun a => ∀ v u, z_run (z_nop k_X2_joinedFrom) (z_call (h + 2)) K 4 [.inr (.inr (3, w, i)), .inr (.inr (3, w, j)), .inl (nI a), v, u] [] (z_it (f_joined w i j) a (m_pfxClear M w i))) n ?_ ?_ 0 (by omega)
  · exact key _ _
  · intro v u
    have e1 : (nI n ≥ (z_it (f_joined w i j) n (m_pfxClear M w i)).1 3 w j 1) = True := by
      rw [(z_off_joined n).1 3 w j 1 (fun e => hij e.2.2), hn]
      exact eq_true (Int32.le_refl _)
    refine z_go (cut := [4, 15, 44, 2, 12, 13]) 40 ?_
    simp only [z_wp, Bool.false_eq_true, if_true, if_false, z_in, cond_true, cond_false, Nat.reduceAdd, Nat.reduceBEq, z_nth, z_set, z_clr, z_st1, z_st2, z_isL, z_opt, z_pop, z_cats, z_cat, c_X2_joinedFrom_0, c_X2_joinedFrom_1, c_X2_joinedFrom_2, c_X2_joinedFrom_3, c_X2_joinedFrom_4, c_X2_joinedFrom_5, c_X2_joinedFrom_6, c_X2_joinedFrom_7, c_X2_joinedFrom_8, c_X2_joinedFrom_9, c_X2_joinedFrom_10, c_X2_joinedFrom_11, c_X2_joinedFrom_12, c_X2_joinedFrom_13, c_X2_joinedFrom_14, c_X2_joinedFrom_15, c_X2_joinedFrom_16, c_X2_joinedFrom_17, c_X2_joinedFrom_18, c_X2_joinedFrom_19, c_X2_joinedFrom_20, c_X2_joinedFrom_21, c_X2_joinedFrom_22, c_X2_joinedFrom_23, c_X2_joinedFrom_24, c_X2_joinedFrom_25, c_X2_joinedFrom_26, c_X2_joinedFrom_27, c_X2_joinedFrom_28, c_X2_joinedFrom_29, c_X2_joinedFrom_30, c_X2_joinedFrom_31, c_X2_joinedFrom_32, c_X2_joinedFrom_33, c_X2_joinedFrom_34, c_X2_joinedFrom_35, c_X2_joinedFrom_36, c_X2_joinedFrom_37, c_X2_joinedFrom_38, c_X2_joinedFrom_39, c_X2_joinedFrom_40, c_X2_joinedFrom_41, c_X2_joinedFrom_42, c_X2_joinedFrom_43, c_X2_joinedFrom_44, c_X2_joinedFrom_45, c_X2_joinedFrom_46, o_aload, o_bin, o_call, o_callv, o_get, o_goto, o_ic, o_icmp, o_if, o_iinc, o_iload, o_istore, o_pop, o_ret, z_cv0, z_cl0, z_cv1, z_cl1, z_cv2, z_cl2, z_cv3, z_cl3, z_cv4, z_cl4, z_cv5, z_cl5, z_cv6, z_cl6, z_cv7, z_cl7, z_cv8, z_cl8, z_cv9, z_cl9, z_cv10, z_cl10, z_cv11, z_cl11, z_cv12, z_cl12, z_cv13, z_cl13, z_len, z_elt, z_isI, z_isJ, Nat.reduceEqDiff, Nat.reduceLeDiff, Nat.reduceLT, Nat.reduceSub, Nat.reduceMul, not_false_eq_true, not_true_eq_false, true_and, and_true, true_or, or_true, false_or, or_false, true_implies, false_implies, implies_true, forall_const, and_self, ne_eq, Classical.not_not, z_up1, z_up2, z_cp1, z_cp2, z_upL1, z_upL2, if_true, if_false, and_false, false_and, e1]
    exact q
  · intro a ha ih v u
    have e1 : (nI a ≥ (z_it (f_joined w i j) a (m_pfxClear M w i)).1 3 w j 1) = False := by
      rw [(z_off_joined a).1 3 w j 1 (fun e => hij e.2.2), hn]
      exact eq_false (nI_ge ha (by omega))
    obtain ⟨k, g1, g2⟩ := sz_joined (w := w) (i := i) (j := j) (M := M) a (by omega)
    refine z_go (cut := [4, 15, 44, 2, 12, 13]) 40 ?_
    simp only [z_wp, Bool.false_eq_true, if_true, if_false, z_in, cond_true, cond_false, Nat.reduceAdd, Nat.reduceBEq, z_nth, z_set, z_clr, z_st1, z_st2, z_isL, z_opt, z_pop, z_cats, z_cat, c_X2_joinedFrom_0, c_X2_joinedFrom_1, c_X2_joinedFrom_2, c_X2_joinedFrom_3, c_X2_joinedFrom_4, c_X2_joinedFrom_5, c_X2_joinedFrom_6, c_X2_joinedFrom_7, c_X2_joinedFrom_8, c_X2_joinedFrom_9, c_X2_joinedFrom_10, c_X2_joinedFrom_11, c_X2_joinedFrom_12, c_X2_joinedFrom_13, c_X2_joinedFrom_14, c_X2_joinedFrom_15, c_X2_joinedFrom_16, c_X2_joinedFrom_17, c_X2_joinedFrom_18, c_X2_joinedFrom_19, c_X2_joinedFrom_20, c_X2_joinedFrom_21, c_X2_joinedFrom_22, c_X2_joinedFrom_23, c_X2_joinedFrom_24, c_X2_joinedFrom_25, c_X2_joinedFrom_26, c_X2_joinedFrom_27, c_X2_joinedFrom_28, c_X2_joinedFrom_29, c_X2_joinedFrom_30, c_X2_joinedFrom_31, c_X2_joinedFrom_32, c_X2_joinedFrom_33, c_X2_joinedFrom_34, c_X2_joinedFrom_35, c_X2_joinedFrom_36, c_X2_joinedFrom_37, c_X2_joinedFrom_38, c_X2_joinedFrom_39, c_X2_joinedFrom_40, c_X2_joinedFrom_41, c_X2_joinedFrom_42, c_X2_joinedFrom_43, c_X2_joinedFrom_44, c_X2_joinedFrom_45, c_X2_joinedFrom_46, o_aload, o_bin, o_call, o_callv, o_get, o_goto, o_ic, o_icmp, o_if, o_iinc, o_iload, o_istore, o_pop, o_ret, z_cv0, z_cl0, z_cv1, z_cl1, z_cv2, z_cl2, z_cv3, z_cl3, z_cv4, z_cl4, z_cv5, z_cl5, z_cv6, z_cl6, z_cv7, z_cl7, z_cv8, z_cl8, z_cv9, z_cl9, z_cv10, z_cl10, z_cv11, z_cl11, z_cv12, z_cl12, z_cv13, z_cl13, z_len, z_elt, z_isI, z_isJ, Nat.reduceEqDiff, Nat.reduceLeDiff, Nat.reduceLT, Nat.reduceSub, Nat.reduceMul, not_false_eq_true, not_true_eq_false, true_and, and_true, true_or, or_true, false_or, or_false, true_implies, false_implies, implies_true, forall_const, and_self, ne_eq, Classical.not_not, z_up1, z_up2, z_cp1, z_cp2, z_upL1, z_upL2, if_true, if_false, and_false, false_and, e1]
    refine s_pfxAt ?_
    refine z_go (cut := [4, 15, 44, 2, 12, 13]) 40 ?_
    simp only [z_wp, Bool.false_eq_true, if_true, if_false, z_in, cond_true, cond_false, Nat.reduceAdd, Nat.reduceBEq, z_nth, z_set, z_clr, z_st1, z_st2, z_isL, z_opt, z_pop, z_cats, z_cat, c_X2_joinedFrom_0, c_X2_joinedFrom_1, c_X2_joinedFrom_2, c_X2_joinedFrom_3, c_X2_joinedFrom_4, c_X2_joinedFrom_5, c_X2_joinedFrom_6, c_X2_joinedFrom_7, c_X2_joinedFrom_8, c_X2_joinedFrom_9, c_X2_joinedFrom_10, c_X2_joinedFrom_11, c_X2_joinedFrom_12, c_X2_joinedFrom_13, c_X2_joinedFrom_14, c_X2_joinedFrom_15, c_X2_joinedFrom_16, c_X2_joinedFrom_17, c_X2_joinedFrom_18, c_X2_joinedFrom_19, c_X2_joinedFrom_20, c_X2_joinedFrom_21, c_X2_joinedFrom_22, c_X2_joinedFrom_23, c_X2_joinedFrom_24, c_X2_joinedFrom_25, c_X2_joinedFrom_26, c_X2_joinedFrom_27, c_X2_joinedFrom_28, c_X2_joinedFrom_29, c_X2_joinedFrom_30, c_X2_joinedFrom_31, c_X2_joinedFrom_32, c_X2_joinedFrom_33, c_X2_joinedFrom_34, c_X2_joinedFrom_35, c_X2_joinedFrom_36, c_X2_joinedFrom_37, c_X2_joinedFrom_38, c_X2_joinedFrom_39, c_X2_joinedFrom_40, c_X2_joinedFrom_41, c_X2_joinedFrom_42, c_X2_joinedFrom_43, c_X2_joinedFrom_44, c_X2_joinedFrom_45, c_X2_joinedFrom_46, o_aload, o_bin, o_call, o_callv, o_get, o_goto, o_ic, o_icmp, o_if, o_iinc, o_iload, o_istore, o_pop, o_ret, z_cv0, z_cl0, z_cv1, z_cl1, z_cv2, z_cl2, z_cv3, z_cl3, z_cv4, z_cl4, z_cv5, z_cl5, z_cv6, z_cl6, z_cv7, z_cl7, z_cv8, z_cl8, z_cv9, z_cl9, z_cv10, z_cl10, z_cv11, z_cl11, z_cv12, z_cl12, z_cv13, z_cl13, z_len, z_elt, z_isI, z_isJ, Nat.reduceEqDiff, Nat.reduceLeDiff, Nat.reduceLT, Nat.reduceSub, Nat.reduceMul, not_false_eq_true, not_true_eq_false, true_and, and_true, true_or, or_true, false_or, or_false, true_implies, false_implies, implies_true, forall_const, and_self, ne_eq, Classical.not_not, z_up1, z_up2, z_cp1, z_cp2, z_upL1, z_upL2, if_true, if_false, and_false, false_and]
    refine s_pfxAdd (sz_nneg g2 (by omega)) ?_
    refine z_go (cut := [4, 15, 44, 2, 12, 13]) 40 ?_
    simp only [z_wp, Bool.false_eq_true, if_true, if_false, z_in, cond_true, cond_false, Nat.reduceAdd, Nat.reduceBEq, z_nth, z_set, z_clr, z_st1, z_st2, z_isL, z_opt, z_pop, z_cats, z_cat, c_X2_joinedFrom_0, c_X2_joinedFrom_1, c_X2_joinedFrom_2, c_X2_joinedFrom_3, c_X2_joinedFrom_4, c_X2_joinedFrom_5, c_X2_joinedFrom_6, c_X2_joinedFrom_7, c_X2_joinedFrom_8, c_X2_joinedFrom_9, c_X2_joinedFrom_10, c_X2_joinedFrom_11, c_X2_joinedFrom_12, c_X2_joinedFrom_13, c_X2_joinedFrom_14, c_X2_joinedFrom_15, c_X2_joinedFrom_16, c_X2_joinedFrom_17, c_X2_joinedFrom_18, c_X2_joinedFrom_19, c_X2_joinedFrom_20, c_X2_joinedFrom_21, c_X2_joinedFrom_22, c_X2_joinedFrom_23, c_X2_joinedFrom_24, c_X2_joinedFrom_25, c_X2_joinedFrom_26, c_X2_joinedFrom_27, c_X2_joinedFrom_28, c_X2_joinedFrom_29, c_X2_joinedFrom_30, c_X2_joinedFrom_31, c_X2_joinedFrom_32, c_X2_joinedFrom_33, c_X2_joinedFrom_34, c_X2_joinedFrom_35, c_X2_joinedFrom_36, c_X2_joinedFrom_37, c_X2_joinedFrom_38, c_X2_joinedFrom_39, c_X2_joinedFrom_40, c_X2_joinedFrom_41, c_X2_joinedFrom_42, c_X2_joinedFrom_43, c_X2_joinedFrom_44, c_X2_joinedFrom_45, c_X2_joinedFrom_46, o_aload, o_bin, o_call, o_callv, o_get, o_goto, o_ic, o_icmp, o_if, o_iinc, o_iload, o_istore, o_pop, o_ret, z_cv0, z_cl0, z_cv1, z_cl1, z_cv2, z_cl2, z_cv3, z_cl3, z_cv4, z_cl4, z_cv5, z_cl5, z_cv6, z_cl6, z_cv7, z_cl7, z_cv8, z_cl8, z_cv9, z_cl9, z_cv10, z_cl10, z_cv11, z_cl11, z_cv12, z_cl12, z_cv13, z_cl13, z_len, z_elt, z_isI, z_isJ, Nat.reduceEqDiff, Nat.reduceLeDiff, Nat.reduceLT, Nat.reduceSub, Nat.reduceMul, not_false_eq_true, not_true_eq_false, true_and, and_true, true_or, or_true, false_or, or_false, true_implies, false_implies, implies_true, forall_const, and_self, ne_eq, Classical.not_not, z_up1, z_up2, z_cp1, z_cp2, z_upL1, z_upL2, if_true, if_false, and_false, false_and]
    refine s_joinIn 0 (by omega) _ _ (k + 1) (sz_add g2 (by omega)) (by omega) (fun x u => ?_)
    refine z_go (cut := [4, 15, 44, 2, 12, 13]) 40 ?_
    simp only [z_wp, Bool.false_eq_true, if_true, if_false, z_in, cond_true, cond_false, Nat.reduceAdd, Nat.reduceBEq, z_nth, z_set, z_clr, z_st1, z_st2, z_isL, z_opt, z_pop, z_cats, z_cat, c_X2_joinedFrom_0, c_X2_joinedFrom_1, c_X2_joinedFrom_2, c_X2_joinedFrom_3, c_X2_joinedFrom_4, c_X2_joinedFrom_5, c_X2_joinedFrom_6, c_X2_joinedFrom_7, c_X2_joinedFrom_8, c_X2_joinedFrom_9, c_X2_joinedFrom_10, c_X2_joinedFrom_11, c_X2_joinedFrom_12, c_X2_joinedFrom_13, c_X2_joinedFrom_14, c_X2_joinedFrom_15, c_X2_joinedFrom_16, c_X2_joinedFrom_17, c_X2_joinedFrom_18, c_X2_joinedFrom_19, c_X2_joinedFrom_20, c_X2_joinedFrom_21, c_X2_joinedFrom_22, c_X2_joinedFrom_23, c_X2_joinedFrom_24, c_X2_joinedFrom_25, c_X2_joinedFrom_26, c_X2_joinedFrom_27, c_X2_joinedFrom_28, c_X2_joinedFrom_29, c_X2_joinedFrom_30, c_X2_joinedFrom_31, c_X2_joinedFrom_32, c_X2_joinedFrom_33, c_X2_joinedFrom_34, c_X2_joinedFrom_35, c_X2_joinedFrom_36, c_X2_joinedFrom_37, c_X2_joinedFrom_38, c_X2_joinedFrom_39, c_X2_joinedFrom_40, c_X2_joinedFrom_41, c_X2_joinedFrom_42, c_X2_joinedFrom_43, c_X2_joinedFrom_44, c_X2_joinedFrom_45, c_X2_joinedFrom_46, o_aload, o_bin, o_call, o_callv, o_get, o_goto, o_ic, o_icmp, o_if, o_iinc, o_iload, o_istore, o_pop, o_ret, z_cv0, z_cl0, z_cv1, z_cl1, z_cv2, z_cl2, z_cv3, z_cl3, z_cv4, z_cl4, z_cv5, z_cl5, z_cv6, z_cl6, z_cv7, z_cl7, z_cv8, z_cl8, z_cv9, z_cl9, z_cv10, z_cl10, z_cv11, z_cl11, z_cv12, z_cl12, z_cv13, z_cl13, z_len, z_elt, z_isI, z_isJ, Nat.reduceEqDiff, Nat.reduceLeDiff, Nat.reduceLT, Nat.reduceSub, Nat.reduceMul, not_false_eq_true, not_true_eq_false, true_and, and_true, true_or, or_true, false_or, or_false, true_implies, false_implies, implies_true, forall_const, and_self, ne_eq, Classical.not_not, z_up1, z_up2, z_cp1, z_cp2, z_upL1, z_upL2, if_true, if_false, and_false, false_and, nI_1 a]
    exact ih _ _
