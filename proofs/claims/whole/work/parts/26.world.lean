/-! World: what is asked -/
theorem e_J6_bitCount_0f7a4 {h : Nat} {a0 : Int32} {M : zMem} {K : zK} (q : z_run (z_nop k_J6_bitCount_0f7a4) (z_call h) K 0 [.inl a0] [] M) : z_call (h + 1) 274 [.inl a0] M K := ⟨by simp only [List.all_cons, List.all_nil, z_isU]; rfl, q⟩
theorem c_J6_bitCount_0f7a4_0 : z_nop k_J6_bitCount_0f7a4 0 = o_iload 0 := rfl
theorem c_J6_bitCount_0f7a4_1 : z_nop k_J6_bitCount_0f7a4 1 = o_iload 0 := rfl
theorem c_J6_bitCount_0f7a4_2 : z_nop k_J6_bitCount_0f7a4 2 = o_ic 1 := rfl
theorem c_J6_bitCount_0f7a4_3 : z_nop k_J6_bitCount_0f7a4 3 = o_bin (fun x y => (x.toUInt32 >>> (y.toUInt32 &&& Int32.toUInt32 31)).toInt32) := rfl
theorem c_J6_bitCount_0f7a4_4 : z_nop k_J6_bitCount_0f7a4 4 = o_ic 1431655765 := rfl
theorem c_J6_bitCount_0f7a4_5 : z_nop k_J6_bitCount_0f7a4 5 = o_bin (fun x y => x &&& y) := rfl
theorem c_J6_bitCount_0f7a4_6 : z_nop k_J6_bitCount_0f7a4 6 = o_bin (fun x y => x - y) := rfl
theorem c_J6_bitCount_0f7a4_7 : z_nop k_J6_bitCount_0f7a4 7 = o_istore 0 := rfl
theorem c_J6_bitCount_0f7a4_8 : z_nop k_J6_bitCount_0f7a4 8 = o_iload 0 := rfl
theorem c_J6_bitCount_0f7a4_9 : z_nop k_J6_bitCount_0f7a4 9 = o_ic 858993459 := rfl
theorem c_J6_bitCount_0f7a4_10 : z_nop k_J6_bitCount_0f7a4 10 = o_bin (fun x y => x &&& y) := rfl
theorem c_J6_bitCount_0f7a4_11 : z_nop k_J6_bitCount_0f7a4 11 = o_iload 0 := rfl
theorem c_J6_bitCount_0f7a4_12 : z_nop k_J6_bitCount_0f7a4 12 = o_ic 2 := rfl
theorem c_J6_bitCount_0f7a4_13 : z_nop k_J6_bitCount_0f7a4 13 = o_bin (fun x y => (x.toUInt32 >>> (y.toUInt32 &&& Int32.toUInt32 31)).toInt32) := rfl
theorem c_J6_bitCount_0f7a4_14 : z_nop k_J6_bitCount_0f7a4 14 = o_ic 858993459 := rfl
theorem c_J6_bitCount_0f7a4_15 : z_nop k_J6_bitCount_0f7a4 15 = o_bin (fun x y => x &&& y) := rfl
theorem c_J6_bitCount_0f7a4_16 : z_nop k_J6_bitCount_0f7a4 16 = o_bin (fun x y => x + y) := rfl
theorem c_J6_bitCount_0f7a4_17 : z_nop k_J6_bitCount_0f7a4 17 = o_istore 0 := rfl
theorem c_J6_bitCount_0f7a4_18 : z_nop k_J6_bitCount_0f7a4 18 = o_iload 0 := rfl
theorem c_J6_bitCount_0f7a4_19 : z_nop k_J6_bitCount_0f7a4 19 = o_iload 0 := rfl
theorem c_J6_bitCount_0f7a4_20 : z_nop k_J6_bitCount_0f7a4 20 = o_ic 4 := rfl
theorem c_J6_bitCount_0f7a4_21 : z_nop k_J6_bitCount_0f7a4 21 = o_bin (fun x y => (x.toUInt32 >>> (y.toUInt32 &&& Int32.toUInt32 31)).toInt32) := rfl
theorem c_J6_bitCount_0f7a4_22 : z_nop k_J6_bitCount_0f7a4 22 = o_bin (fun x y => x + y) := rfl
theorem c_J6_bitCount_0f7a4_23 : z_nop k_J6_bitCount_0f7a4 23 = o_ic 252645135 := rfl
theorem c_J6_bitCount_0f7a4_24 : z_nop k_J6_bitCount_0f7a4 24 = o_bin (fun x y => x &&& y) := rfl
theorem c_J6_bitCount_0f7a4_25 : z_nop k_J6_bitCount_0f7a4 25 = o_istore 0 := rfl
theorem c_J6_bitCount_0f7a4_26 : z_nop k_J6_bitCount_0f7a4 26 = o_iload 0 := rfl
theorem c_J6_bitCount_0f7a4_27 : z_nop k_J6_bitCount_0f7a4 27 = o_iload 0 := rfl
theorem c_J6_bitCount_0f7a4_28 : z_nop k_J6_bitCount_0f7a4 28 = o_ic 8 := rfl
theorem c_J6_bitCount_0f7a4_29 : z_nop k_J6_bitCount_0f7a4 29 = o_bin (fun x y => (x.toUInt32 >>> (y.toUInt32 &&& Int32.toUInt32 31)).toInt32) := rfl
theorem c_J6_bitCount_0f7a4_30 : z_nop k_J6_bitCount_0f7a4 30 = o_bin (fun x y => x + y) := rfl
theorem c_J6_bitCount_0f7a4_31 : z_nop k_J6_bitCount_0f7a4 31 = o_istore 0 := rfl
theorem c_J6_bitCount_0f7a4_32 : z_nop k_J6_bitCount_0f7a4 32 = o_iload 0 := rfl
theorem c_J6_bitCount_0f7a4_33 : z_nop k_J6_bitCount_0f7a4 33 = o_iload 0 := rfl
theorem c_J6_bitCount_0f7a4_34 : z_nop k_J6_bitCount_0f7a4 34 = o_ic 16 := rfl
theorem c_J6_bitCount_0f7a4_35 : z_nop k_J6_bitCount_0f7a4 35 = o_bin (fun x y => (x.toUInt32 >>> (y.toUInt32 &&& Int32.toUInt32 31)).toInt32) := rfl
theorem c_J6_bitCount_0f7a4_36 : z_nop k_J6_bitCount_0f7a4 36 = o_bin (fun x y => x + y) := rfl
theorem c_J6_bitCount_0f7a4_37 : z_nop k_J6_bitCount_0f7a4 37 = o_istore 0 := rfl
theorem c_J6_bitCount_0f7a4_38 : z_nop k_J6_bitCount_0f7a4 38 = o_iload 0 := rfl
theorem c_J6_bitCount_0f7a4_39 : z_nop k_J6_bitCount_0f7a4 39 = o_ic 63 := rfl
theorem c_J6_bitCount_0f7a4_40 : z_nop k_J6_bitCount_0f7a4 40 = o_bin (fun x y => x &&& y) := rfl
theorem c_J6_bitCount_0f7a4_41 : z_nop k_J6_bitCount_0f7a4 41 = o_iret := rfl

def r_bc (x : Int32) : Int32 :=
  let a := x - (z_ush x 1 &&& 1431655765)
  let b := (a &&& 858993459) + (z_ush a 2 &&& 858993459)
  let c := b + z_ush b 4 &&& 252645135
  let d := c + z_ush c 8
  let e := d + z_ush d 16
  e &&& 63
set_option maxRecDepth 100000 in
theorem s_bc {h : Nat} {M : zMem} {x : Int32} {K : zK} (q : K (some (.inl (r_bc x))) M) : z_call (h + 1) 274 [.inl x] M K := by
  refine e_J6_bitCount_0f7a4  ?_
  refine z_wp_run (cut := []) 44 _ _ _ _ ?_
  repeat' (first | (simp only [z_wp, Bool.false_eq_true, ↓reduceIte, z_e10, z_e01, eq_self, Int32.reduceLT, Int32.reduceLE, Int32.reduceGT, Int32.reduceGE, z_in, cond_true, cond_false, Nat.reduceAdd, Nat.reduceBEq, z_nth, z_set, z_clr, z_st1, z_st2, z_isL, z_opt, z_pop, z_cats, z_cat, c_J6_bitCount_0f7a4_0, c_J6_bitCount_0f7a4_1, c_J6_bitCount_0f7a4_2, c_J6_bitCount_0f7a4_3, c_J6_bitCount_0f7a4_4, c_J6_bitCount_0f7a4_5, c_J6_bitCount_0f7a4_6, c_J6_bitCount_0f7a4_7, c_J6_bitCount_0f7a4_8, c_J6_bitCount_0f7a4_9, c_J6_bitCount_0f7a4_10, c_J6_bitCount_0f7a4_11, c_J6_bitCount_0f7a4_12, c_J6_bitCount_0f7a4_13, c_J6_bitCount_0f7a4_14, c_J6_bitCount_0f7a4_15, c_J6_bitCount_0f7a4_16, c_J6_bitCount_0f7a4_17, c_J6_bitCount_0f7a4_18, c_J6_bitCount_0f7a4_19, c_J6_bitCount_0f7a4_20, c_J6_bitCount_0f7a4_21, c_J6_bitCount_0f7a4_22, c_J6_bitCount_0f7a4_23, c_J6_bitCount_0f7a4_24, c_J6_bitCount_0f7a4_25, c_J6_bitCount_0f7a4_26, c_J6_bitCount_0f7a4_27, c_J6_bitCount_0f7a4_28, c_J6_bitCount_0f7a4_29, c_J6_bitCount_0f7a4_30, c_J6_bitCount_0f7a4_31, c_J6_bitCount_0f7a4_32, c_J6_bitCount_0f7a4_33, c_J6_bitCount_0f7a4_34, c_J6_bitCount_0f7a4_35, c_J6_bitCount_0f7a4_36, c_J6_bitCount_0f7a4_37, c_J6_bitCount_0f7a4_38, c_J6_bitCount_0f7a4_39, c_J6_bitCount_0f7a4_40, c_J6_bitCount_0f7a4_41, o_bin, o_ic, o_iload, o_iret, o_istore, z_cv0, z_cl0, z_cv1, z_cl1, z_cv2, z_cl2, z_cv3, z_cl3, z_cv4, z_cl4, z_cv5, z_cl5, z_cv6, z_cl6, z_cv7, z_cl7, z_cv8, z_cl8, z_cv9, z_cl9, z_cv10, z_cl10, z_cv11, z_cl11, z_cv12, z_cl12, z_cv13, z_cl13, z_len, z_elt, z_isI, z_isJ, Nat.reduceEqDiff, Nat.reduceLeDiff, Nat.reduceLT, Nat.reduceSub, Nat.reduceMul, not_false_eq_true, not_true_eq_false, true_and, and_true, true_or, or_true, false_or, or_false, true_implies, false_implies, implies_true, forall_const, and_self, ne_eq, Classical.not_not, z_up1, z_up2, z_cp1, z_cp2, z_upL1, z_upL2, if_true, if_false, and_false, false_and]) | (with_reducible refine And.intro ?_ ?_) | (with_reducible intro _))
  all_goals (first | (with_reducible exact q) | ((try simp only [ge_iff_le, gt_iff_lt, ← Int32.not_lt, Classical.not_not] at *); (first | (with_reducible rfl) | rfl | (with_reducible exact z_vi_24 (by assumption) (by assumption)) | (with_reducible exact z_vi_4 (by assumption) (by assumption)) | (with_reducible exact z_vi_512 (by assumption) (by assumption)) | (with_reducible exact z_vi_14 (by assumption) (by assumption)) | (with_reducible exact z_vi_8 (by assumption) (by assumption)) | (with_reducible exact z_vinN (by assumption) (by assumption) (by decide)) | (with_reducible exact z_vin1 (by assumption) (by assumption) (by decide)) | ((try simp only [r_bc, z_ush] at q); (try simp only [ge_iff_le, gt_iff_lt, ← Int32.not_lt, Classical.not_not] at q); (try simp only [*, if_true, if_false, ite_self, true_or, or_true, false_or, or_false, true_and, and_true, false_and, and_false, not_true_eq_false, not_false_eq_true, cond_true, cond_false, decide_true, decide_false, Bool.true_and, Bool.and_true, Bool.false_and, Bool.and_false, Bool.true_or, Bool.or_true, Bool.false_or, Bool.or_false, Bool.not_true, Bool.not_false, ne_eq, Nat.reduceEqDiff] at q); with_reducible exact q))) | (simp_all [r_bc, z_ush]; done))
theorem e_J6_numberOfTrailingZeros_0f7a4 {h : Nat} {a0 : Int32} {M : zMem} {K : zK} (q : z_run (z_nop k_J6_numberOfTrailingZeros_0f7a4) (z_call h) K 0 [.inl a0, z_un] [] M) : z_call (h + 1) 273 [.inl a0] M K := ⟨by simp only [List.all_cons, List.all_nil, z_isU]; rfl, q⟩
theorem c_J6_numberOfTrailingZeros_0f7a4_0 : z_nop k_J6_numberOfTrailingZeros_0f7a4 0 = o_iload 0 := rfl
theorem c_J6_numberOfTrailingZeros_0f7a4_1 : z_nop k_J6_numberOfTrailingZeros_0f7a4 1 = o_ic (-1) := rfl
theorem c_J6_numberOfTrailingZeros_0f7a4_2 : z_nop k_J6_numberOfTrailingZeros_0f7a4 2 = o_bin (fun x y => x ^^^ y) := rfl
theorem c_J6_numberOfTrailingZeros_0f7a4_3 : z_nop k_J6_numberOfTrailingZeros_0f7a4 3 = o_iload 0 := rfl
theorem c_J6_numberOfTrailingZeros_0f7a4_4 : z_nop k_J6_numberOfTrailingZeros_0f7a4 4 = o_ic 1 := rfl
theorem c_J6_numberOfTrailingZeros_0f7a4_5 : z_nop k_J6_numberOfTrailingZeros_0f7a4 5 = o_bin (fun x y => x - y) := rfl
theorem c_J6_numberOfTrailingZeros_0f7a4_6 : z_nop k_J6_numberOfTrailingZeros_0f7a4 6 = o_bin (fun x y => x &&& y) := rfl
theorem c_J6_numberOfTrailingZeros_0f7a4_7 : z_nop k_J6_numberOfTrailingZeros_0f7a4 7 = o_istore 0 := rfl
theorem c_J6_numberOfTrailingZeros_0f7a4_8 : z_nop k_J6_numberOfTrailingZeros_0f7a4 8 = o_iload 0 := rfl
theorem c_J6_numberOfTrailingZeros_0f7a4_9 : z_nop k_J6_numberOfTrailingZeros_0f7a4 9 = o_if (fun x => x > 0) 14 := rfl
theorem c_J6_numberOfTrailingZeros_0f7a4_10 : z_nop k_J6_numberOfTrailingZeros_0f7a4 10 = o_iload 0 := rfl
theorem c_J6_numberOfTrailingZeros_0f7a4_11 : z_nop k_J6_numberOfTrailingZeros_0f7a4 11 = o_ic 32 := rfl
theorem c_J6_numberOfTrailingZeros_0f7a4_12 : z_nop k_J6_numberOfTrailingZeros_0f7a4 12 = o_bin (fun x y => x &&& y) := rfl
theorem c_J6_numberOfTrailingZeros_0f7a4_13 : z_nop k_J6_numberOfTrailingZeros_0f7a4 13 = o_iret := rfl
theorem c_J6_numberOfTrailingZeros_0f7a4_14 : z_nop k_J6_numberOfTrailingZeros_0f7a4 14 = o_ic 1 := rfl
theorem c_J6_numberOfTrailingZeros_0f7a4_15 : z_nop k_J6_numberOfTrailingZeros_0f7a4 15 = o_istore 1 := rfl
theorem c_J6_numberOfTrailingZeros_0f7a4_16 : z_nop k_J6_numberOfTrailingZeros_0f7a4 16 = o_iload 0 := rfl
theorem c_J6_numberOfTrailingZeros_0f7a4_17 : z_nop k_J6_numberOfTrailingZeros_0f7a4 17 = o_ic 65536 := rfl
theorem c_J6_numberOfTrailingZeros_0f7a4_18 : z_nop k_J6_numberOfTrailingZeros_0f7a4 18 = o_icmp (fun x y => x ≤ y) 24 := rfl
theorem c_J6_numberOfTrailingZeros_0f7a4_19 : z_nop k_J6_numberOfTrailingZeros_0f7a4 19 = o_iinc 1 16 := rfl
theorem c_J6_numberOfTrailingZeros_0f7a4_20 : z_nop k_J6_numberOfTrailingZeros_0f7a4 20 = o_iload 0 := rfl
theorem c_J6_numberOfTrailingZeros_0f7a4_21 : z_nop k_J6_numberOfTrailingZeros_0f7a4 21 = o_ic 16 := rfl
theorem c_J6_numberOfTrailingZeros_0f7a4_22 : z_nop k_J6_numberOfTrailingZeros_0f7a4 22 = o_bin (fun x y => (x.toUInt32 >>> (y.toUInt32 &&& Int32.toUInt32 31)).toInt32) := rfl
theorem c_J6_numberOfTrailingZeros_0f7a4_23 : z_nop k_J6_numberOfTrailingZeros_0f7a4 23 = o_istore 0 := rfl
theorem c_J6_numberOfTrailingZeros_0f7a4_24 : z_nop k_J6_numberOfTrailingZeros_0f7a4 24 = o_iload 0 := rfl
theorem c_J6_numberOfTrailingZeros_0f7a4_25 : z_nop k_J6_numberOfTrailingZeros_0f7a4 25 = o_ic 256 := rfl
theorem c_J6_numberOfTrailingZeros_0f7a4_26 : z_nop k_J6_numberOfTrailingZeros_0f7a4 26 = o_icmp (fun x y => x ≤ y) 32 := rfl
theorem c_J6_numberOfTrailingZeros_0f7a4_27 : z_nop k_J6_numberOfTrailingZeros_0f7a4 27 = o_iinc 1 8 := rfl
theorem c_J6_numberOfTrailingZeros_0f7a4_28 : z_nop k_J6_numberOfTrailingZeros_0f7a4 28 = o_iload 0 := rfl
theorem c_J6_numberOfTrailingZeros_0f7a4_29 : z_nop k_J6_numberOfTrailingZeros_0f7a4 29 = o_ic 8 := rfl
theorem c_J6_numberOfTrailingZeros_0f7a4_30 : z_nop k_J6_numberOfTrailingZeros_0f7a4 30 = o_bin (fun x y => (x.toUInt32 >>> (y.toUInt32 &&& Int32.toUInt32 31)).toInt32) := rfl
theorem c_J6_numberOfTrailingZeros_0f7a4_31 : z_nop k_J6_numberOfTrailingZeros_0f7a4 31 = o_istore 0 := rfl
theorem c_J6_numberOfTrailingZeros_0f7a4_32 : z_nop k_J6_numberOfTrailingZeros_0f7a4 32 = o_iload 0 := rfl
theorem c_J6_numberOfTrailingZeros_0f7a4_33 : z_nop k_J6_numberOfTrailingZeros_0f7a4 33 = o_ic 16 := rfl
theorem c_J6_numberOfTrailingZeros_0f7a4_34 : z_nop k_J6_numberOfTrailingZeros_0f7a4 34 = o_icmp (fun x y => x ≤ y) 40 := rfl
theorem c_J6_numberOfTrailingZeros_0f7a4_35 : z_nop k_J6_numberOfTrailingZeros_0f7a4 35 = o_iinc 1 4 := rfl
theorem c_J6_numberOfTrailingZeros_0f7a4_36 : z_nop k_J6_numberOfTrailingZeros_0f7a4 36 = o_iload 0 := rfl
theorem c_J6_numberOfTrailingZeros_0f7a4_37 : z_nop k_J6_numberOfTrailingZeros_0f7a4 37 = o_ic 4 := rfl
theorem c_J6_numberOfTrailingZeros_0f7a4_38 : z_nop k_J6_numberOfTrailingZeros_0f7a4 38 = o_bin (fun x y => (x.toUInt32 >>> (y.toUInt32 &&& Int32.toUInt32 31)).toInt32) := rfl
theorem c_J6_numberOfTrailingZeros_0f7a4_39 : z_nop k_J6_numberOfTrailingZeros_0f7a4 39 = o_istore 0 := rfl
theorem c_J6_numberOfTrailingZeros_0f7a4_40 : z_nop k_J6_numberOfTrailingZeros_0f7a4 40 = o_iload 0 := rfl
theorem c_J6_numberOfTrailingZeros_0f7a4_41 : z_nop k_J6_numberOfTrailingZeros_0f7a4 41 = o_ic 4 := rfl
theorem c_J6_numberOfTrailingZeros_0f7a4_42 : z_nop k_J6_numberOfTrailingZeros_0f7a4 42 = o_icmp (fun x y => x ≤ y) 48 := rfl
theorem c_J6_numberOfTrailingZeros_0f7a4_43 : z_nop k_J6_numberOfTrailingZeros_0f7a4 43 = o_iinc 1 2 := rfl
theorem c_J6_numberOfTrailingZeros_0f7a4_44 : z_nop k_J6_numberOfTrailingZeros_0f7a4 44 = o_iload 0 := rfl
theorem c_J6_numberOfTrailingZeros_0f7a4_45 : z_nop k_J6_numberOfTrailingZeros_0f7a4 45 = o_ic 2 := rfl
theorem c_J6_numberOfTrailingZeros_0f7a4_46 : z_nop k_J6_numberOfTrailingZeros_0f7a4 46 = o_bin (fun x y => (x.toUInt32 >>> (y.toUInt32 &&& Int32.toUInt32 31)).toInt32) := rfl
theorem c_J6_numberOfTrailingZeros_0f7a4_47 : z_nop k_J6_numberOfTrailingZeros_0f7a4 47 = o_istore 0 := rfl
theorem c_J6_numberOfTrailingZeros_0f7a4_48 : z_nop k_J6_numberOfTrailingZeros_0f7a4 48 = o_iload 1 := rfl
theorem c_J6_numberOfTrailingZeros_0f7a4_49 : z_nop k_J6_numberOfTrailingZeros_0f7a4 49 = o_iload 0 := rfl
theorem c_J6_numberOfTrailingZeros_0f7a4_50 : z_nop k_J6_numberOfTrailingZeros_0f7a4 50 = o_ic 1 := rfl
theorem c_J6_numberOfTrailingZeros_0f7a4_51 : z_nop k_J6_numberOfTrailingZeros_0f7a4 51 = o_bin (fun x y => (x.toUInt32 >>> (y.toUInt32 &&& Int32.toUInt32 31)).toInt32) := rfl
theorem c_J6_numberOfTrailingZeros_0f7a4_52 : z_nop k_J6_numberOfTrailingZeros_0f7a4 52 = o_bin (fun x y => x + y) := rfl
theorem c_J6_numberOfTrailingZeros_0f7a4_53 : z_nop k_J6_numberOfTrailingZeros_0f7a4 53 = o_iret := rfl

theorem e_X8_tagAt {h : Nat} {a0 : zId} {a1 : Int32} {M : zMem} {K : zK} (ha0 : (a0.1 == 99) = false) (q : z_run (z_nop k_X8_tagAt) (z_call h) K 0 [.inr (.inr a0), .inl a1] [] M) : z_call (h + 1) 91 [.inr (.inr a0), .inl a1] M K := ⟨by simp only [List.all_cons, List.all_nil, z_isU, ha0]; rfl, q⟩
theorem c_X8_tagAt_0 : z_nop k_X8_tagAt 0 = o_iload 1 := rfl
theorem c_X8_tagAt_1 : z_nop k_X8_tagAt 1 = o_if (fun x => x < 0) 11 := rfl
theorem c_X8_tagAt_2 : z_nop k_X8_tagAt 2 = o_iload 1 := rfl
theorem c_X8_tagAt_3 : z_nop k_X8_tagAt 3 = o_ic 24 := rfl
theorem c_X8_tagAt_4 : z_nop k_X8_tagAt 4 = o_icmp (fun x y => x ≥ y) 11 := rfl
theorem c_X8_tagAt_5 : z_nop k_X8_tagAt 5 = o_aload 0 := rfl
theorem c_X8_tagAt_6 : z_nop k_X8_tagAt 6 = o_getr 9 (fun w i => (30, w, 0)) := rfl
theorem c_X8_tagAt_7 : z_nop k_X8_tagAt 7 = o_iload 1 := rfl
theorem c_X8_tagAt_8 : z_nop k_X8_tagAt 8 = o_aald := rfl
theorem c_X8_tagAt_9 : z_nop k_X8_tagAt 9 = o_get 7 0 := rfl
theorem c_X8_tagAt_10 : z_nop k_X8_tagAt 10 = o_if (fun x => x ≠ 0) 13 := rfl
theorem c_X8_tagAt_11 : z_nop k_X8_tagAt 11 = o_null := rfl
theorem c_X8_tagAt_12 : z_nop k_X8_tagAt 12 = o_goto 17 := rfl
theorem c_X8_tagAt_13 : z_nop k_X8_tagAt 13 = o_aload 0 := rfl
theorem c_X8_tagAt_14 : z_nop k_X8_tagAt 14 = o_getr 9 (fun w i => (30, w, 0)) := rfl
theorem c_X8_tagAt_15 : z_nop k_X8_tagAt 15 = o_iload 1 := rfl
theorem c_X8_tagAt_16 : z_nop k_X8_tagAt 16 = o_aald := rfl
theorem c_X8_tagAt_17 : z_nop k_X8_tagAt 17 = o_aret := rfl

def r_tagAt (M : zMem) (w : Nat) (t : Int32) : zId := if t < 0 ∨ t ≥ 24 ∨ M.1 7 w t.toNatClampNeg 0 = 0 then (0, 0, 0) else (7, w, t.toNatClampNeg)
set_option maxRecDepth 100000 in
theorem s_tagAt {h w : Nat} {M : zMem} {t : Int32} {K : zK} (q : K (some (.inr (.inr (r_tagAt M w t)))) M) : z_call (h + 1) 91 [.inr (.inr (9, w, 0)), .inl t] M K := by
  refine e_X8_tagAt rfl ?_
  refine z_wp_run (cut := []) 20 _ _ _ _ ?_
  repeat' (first | (simp only [z_wp, Bool.false_eq_true, ↓reduceIte, z_e10, z_e01, eq_self, Int32.reduceLT, Int32.reduceLE, Int32.reduceGT, Int32.reduceGE, z_in, cond_true, cond_false, Nat.reduceAdd, Nat.reduceBEq, z_nth, z_set, z_clr, z_st1, z_st2, z_isL, z_opt, z_pop, z_cats, z_cat, c_X8_tagAt_0, c_X8_tagAt_1, c_X8_tagAt_2, c_X8_tagAt_3, c_X8_tagAt_4, c_X8_tagAt_5, c_X8_tagAt_6, c_X8_tagAt_7, c_X8_tagAt_8, c_X8_tagAt_9, c_X8_tagAt_10, c_X8_tagAt_11, c_X8_tagAt_12, c_X8_tagAt_13, c_X8_tagAt_14, c_X8_tagAt_15, c_X8_tagAt_16, c_X8_tagAt_17, o_aald, o_aload, o_aret, o_get, o_getr, o_goto, o_ic, o_icmp, o_if, o_iload, o_null, z_cv0, z_cl0, z_cv1, z_cl1, z_cv2, z_cl2, z_cv3, z_cl3, z_cv4, z_cl4, z_cv5, z_cl5, z_cv6, z_cl6, z_cv7, z_cl7, z_cv8, z_cl8, z_cv9, z_cl9, z_cv10, z_cl10, z_cv11, z_cl11, z_cv12, z_cl12, z_cv13, z_cl13, z_len, z_elt, z_isI, z_isJ, Nat.reduceEqDiff, Nat.reduceLeDiff, Nat.reduceLT, Nat.reduceSub, Nat.reduceMul, not_false_eq_true, not_true_eq_false, true_and, and_true, true_or, or_true, false_or, or_false, true_implies, false_implies, implies_true, forall_const, and_self, ne_eq, Classical.not_not, z_up1, z_up2, z_cp1, z_cp2, z_upL1, z_upL2, if_true, if_false, and_false, false_and]) | (with_reducible refine And.intro ?_ ?_) | (with_reducible intro _))
  all_goals (first | (with_reducible exact q) | ((try simp only [ge_iff_le, gt_iff_lt, ← Int32.not_lt, Classical.not_not] at *); (first | (with_reducible rfl) | rfl | (with_reducible exact z_vi_24 (by assumption) (by assumption)) | (with_reducible exact z_vi_4 (by assumption) (by assumption)) | (with_reducible exact z_vi_512 (by assumption) (by assumption)) | (with_reducible exact z_vi_14 (by assumption) (by assumption)) | (with_reducible exact z_vi_8 (by assumption) (by assumption)) | (with_reducible exact z_vinN (by assumption) (by assumption) (by decide)) | (with_reducible exact z_vin1 (by assumption) (by assumption) (by decide)) | ((try simp only [r_tagAt] at q); (try simp only [ge_iff_le, gt_iff_lt, ← Int32.not_lt, Classical.not_not] at q); (try simp only [*, if_true, if_false, ite_self, true_or, or_true, false_or, or_false, true_and, and_true, false_and, and_false, not_true_eq_false, not_false_eq_true, cond_true, cond_false, decide_true, decide_false, Bool.true_and, Bool.and_true, Bool.false_and, Bool.and_false, Bool.true_or, Bool.or_true, Bool.false_or, Bool.or_false, Bool.not_true, Bool.not_false, ne_eq, Nat.reduceEqDiff] at q); with_reducible exact q))) | (simp_all [r_tagAt]; done))
theorem e_X8_readerAt {h : Nat} {a0 : zId} {a1 : Int32} {M : zMem} {K : zK} (ha0 : (a0.1 == 99) = false) (q : z_run (z_nop k_X8_readerAt) (z_call h) K 0 [.inr (.inr a0), .inl a1] [] M) : z_call (h + 1) 92 [.inr (.inr a0), .inl a1] M K := ⟨by simp only [List.all_cons, List.all_nil, z_isU, ha0]; rfl, q⟩
theorem c_X8_readerAt_0 : z_nop k_X8_readerAt 0 = o_iload 1 := rfl
theorem c_X8_readerAt_1 : z_nop k_X8_readerAt 1 = o_if (fun x => x < 0) 5 := rfl
theorem c_X8_readerAt_2 : z_nop k_X8_readerAt 2 = o_iload 1 := rfl
theorem c_X8_readerAt_3 : z_nop k_X8_readerAt 3 = o_ic 4 := rfl
theorem c_X8_readerAt_4 : z_nop k_X8_readerAt 4 = o_icmp (fun x y => x < y) 7 := rfl
theorem c_X8_readerAt_5 : z_nop k_X8_readerAt 5 = o_null := rfl
theorem c_X8_readerAt_6 : z_nop k_X8_readerAt 6 = o_goto 11 := rfl
theorem c_X8_readerAt_7 : z_nop k_X8_readerAt 7 = o_aload 0 := rfl
theorem c_X8_readerAt_8 : z_nop k_X8_readerAt 8 = o_getr 9 (fun w i => (31, w, 0)) := rfl
theorem c_X8_readerAt_9 : z_nop k_X8_readerAt 9 = o_iload 1 := rfl
theorem c_X8_readerAt_10 : z_nop k_X8_readerAt 10 = o_aald := rfl
theorem c_X8_readerAt_11 : z_nop k_X8_readerAt 11 = o_aret := rfl

def r_readerAt (w : Nat) (t : Int32) : zId := if t < 0 ∨ t ≥ 4 then (0, 0, 0) else (4, w, t.toNatClampNeg)
set_option maxRecDepth 100000 in
theorem s_readerAt {h w : Nat} {M : zMem} {t : Int32} {K : zK} (q : K (some (.inr (.inr (r_readerAt w t)))) M) : z_call (h + 1) 92 [.inr (.inr (9, w, 0)), .inl t] M K := by
  refine e_X8_readerAt rfl ?_
  refine z_wp_run (cut := []) 14 _ _ _ _ ?_
  repeat' (first | (simp only [z_wp, Bool.false_eq_true, ↓reduceIte, z_e10, z_e01, eq_self, Int32.reduceLT, Int32.reduceLE, Int32.reduceGT, Int32.reduceGE, z_in, cond_true, cond_false, Nat.reduceAdd, Nat.reduceBEq, z_nth, z_set, z_clr, z_st1, z_st2, z_isL, z_opt, z_pop, z_cats, z_cat, c_X8_readerAt_0, c_X8_readerAt_1, c_X8_readerAt_2, c_X8_readerAt_3, c_X8_readerAt_4, c_X8_readerAt_5, c_X8_readerAt_6, c_X8_readerAt_7, c_X8_readerAt_8, c_X8_readerAt_9, c_X8_readerAt_10, c_X8_readerAt_11, o_aald, o_aload, o_aret, o_getr, o_goto, o_ic, o_icmp, o_if, o_iload, o_null, z_cv0, z_cl0, z_cv1, z_cl1, z_cv2, z_cl2, z_cv3, z_cl3, z_cv4, z_cl4, z_cv5, z_cl5, z_cv6, z_cl6, z_cv7, z_cl7, z_cv8, z_cl8, z_cv9, z_cl9, z_cv10, z_cl10, z_cv11, z_cl11, z_cv12, z_cl12, z_cv13, z_cl13, z_len, z_elt, z_isI, z_isJ, Nat.reduceEqDiff, Nat.reduceLeDiff, Nat.reduceLT, Nat.reduceSub, Nat.reduceMul, not_false_eq_true, not_true_eq_false, true_and, and_true, true_or, or_true, false_or, or_false, true_implies, false_implies, implies_true, forall_const, and_self, ne_eq, Classical.not_not, z_up1, z_up2, z_cp1, z_cp2, z_upL1, z_upL2, if_true, if_false, and_false, false_and]) | (with_reducible refine And.intro ?_ ?_) | (with_reducible intro _))
  all_goals (first | (with_reducible exact q) | ((try simp only [ge_iff_le, gt_iff_lt, ← Int32.not_lt, Classical.not_not] at *); (first | (with_reducible rfl) | rfl | (with_reducible exact z_vi_24 (by assumption) (by assumption)) | (with_reducible exact z_vi_4 (by assumption) (by assumption)) | (with_reducible exact z_vi_512 (by assumption) (by assumption)) | (with_reducible exact z_vi_14 (by assumption) (by assumption)) | (with_reducible exact z_vi_8 (by assumption) (by assumption)) | (with_reducible exact z_vinN (by assumption) (by assumption) (by decide)) | (with_reducible exact z_vin1 (by assumption) (by assumption) (by decide)) | ((try simp only [r_readerAt] at q); (try simp only [ge_iff_le, gt_iff_lt, ← Int32.not_lt, Classical.not_not] at q); (try simp only [*, if_true, if_false, ite_self, true_or, or_true, false_or, or_false, true_and, and_true, false_and, and_false, not_true_eq_false, not_false_eq_true, cond_true, cond_false, decide_true, decide_false, Bool.true_and, Bool.and_true, Bool.false_and, Bool.and_false, Bool.true_or, Bool.or_true, Bool.false_or, Bool.or_false, Bool.not_true, Bool.not_false, ne_eq, Nat.reduceEqDiff] at q); with_reducible exact q))) | (simp_all [r_readerAt]; done))
theorem e_X8_readersOn {h : Nat} {a0 : zId} {M : zMem} {K : zK} (ha0 : (a0.1 == 99) = false) (q : z_run (z_nop k_X8_readersOn) (z_call h) K 0 [.inr (.inr a0), z_un, z_un] [] M) : z_call (h + 1) 115 [.inr (.inr a0)] M K := ⟨by simp only [List.all_cons, List.all_nil, z_isU, ha0]; rfl, q⟩
theorem c_X8_readersOn_0 : z_nop k_X8_readersOn 0 = o_ic 0 := rfl
theorem c_X8_readersOn_1 : z_nop k_X8_readersOn 1 = o_istore 1 := rfl
theorem c_X8_readersOn_2 : z_nop k_X8_readersOn 2 = o_ic 0 := rfl
theorem c_X8_readersOn_3 : z_nop k_X8_readersOn 3 = o_istore 2 := rfl
theorem c_X8_readersOn_4 : z_nop k_X8_readersOn 4 = o_iload 2 := rfl
theorem c_X8_readersOn_5 : z_nop k_X8_readersOn 5 = o_ic 4 := rfl
theorem c_X8_readersOn_6 : z_nop k_X8_readersOn 6 = o_icmp (fun x y => x ≥ y) 23 := rfl
theorem c_X8_readersOn_7 : z_nop k_X8_readersOn 7 = o_iload 1 := rfl
theorem c_X8_readersOn_8 : z_nop k_X8_readersOn 8 = o_aload 0 := rfl
theorem c_X8_readersOn_9 : z_nop k_X8_readersOn 9 = o_getr 9 (fun w i => (31, w, 0)) := rfl
theorem c_X8_readersOn_10 : z_nop k_X8_readersOn 10 = o_iload 2 := rfl
theorem c_X8_readersOn_11 : z_nop k_X8_readersOn 11 = o_aald := rfl
theorem c_X8_readersOn_12 : z_nop k_X8_readersOn 12 = o_get 4 0 := rfl
theorem c_X8_readersOn_13 : z_nop k_X8_readersOn 13 = o_if (fun x => x = 0) 18 := rfl
theorem c_X8_readersOn_14 : z_nop k_X8_readersOn 14 = o_ic 1 := rfl
theorem c_X8_readersOn_15 : z_nop k_X8_readersOn 15 = o_iload 2 := rfl
theorem c_X8_readersOn_16 : z_nop k_X8_readersOn 16 = o_bin (fun x y => x <<< (y &&& 31)) := rfl
theorem c_X8_readersOn_17 : z_nop k_X8_readersOn 17 = o_goto 19 := rfl
theorem c_X8_readersOn_18 : z_nop k_X8_readersOn 18 = o_ic 0 := rfl
theorem c_X8_readersOn_19 : z_nop k_X8_readersOn 19 = o_bin (fun x y => x ||| y) := rfl
theorem c_X8_readersOn_20 : z_nop k_X8_readersOn 20 = o_istore 1 := rfl
theorem c_X8_readersOn_21 : z_nop k_X8_readersOn 21 = o_iinc 2 1 := rfl
theorem c_X8_readersOn_22 : z_nop k_X8_readersOn 22 = o_goto 4 := rfl
theorem c_X8_readersOn_23 : z_nop k_X8_readersOn 23 = o_iload 1 := rfl
theorem c_X8_readersOn_24 : z_nop k_X8_readersOn 24 = o_iret := rfl

def r_readersOn (M : zMem) (w : Nat) : Int32 := z_mk (fun i => decide (¬ M.1 4 w i 0 = 0)) 4
set_option maxRecDepth 100000 in
theorem s_readersOn {h w : Nat} {M : zMem} {K : zK} (q : K (some (.inl (r_readersOn M w))) M) : z_call (h + 1) 115 [.inr (.inr (9, w, 0))] M K := by
  unfold r_readersOn at q
  refine e_X8_readersOn rfl ?_
  refine z_wp_run (cut := [4]) 27 _ _ _ _ ?_
  repeat' (first | (simp only [z_wp, Bool.false_eq_true, ↓reduceIte, z_e10, z_e01, eq_self, Int32.reduceLT, Int32.reduceLE, Int32.reduceGT, Int32.reduceGE, z_in, cond_true, cond_false, Nat.reduceAdd, Nat.reduceBEq, z_nth, z_set, z_clr, z_st1, z_st2, z_isL, z_opt, z_pop, z_cats, z_cat, c_X8_readersOn_0, c_X8_readersOn_1, c_X8_readersOn_2, c_X8_readersOn_3, c_X8_readersOn_4, c_X8_readersOn_5, c_X8_readersOn_6, c_X8_readersOn_7, c_X8_readersOn_8, c_X8_readersOn_9, c_X8_readersOn_10, c_X8_readersOn_11, c_X8_readersOn_12, c_X8_readersOn_13, c_X8_readersOn_14, c_X8_readersOn_15, c_X8_readersOn_16, c_X8_readersOn_17, c_X8_readersOn_18, c_X8_readersOn_19, c_X8_readersOn_20, c_X8_readersOn_21, c_X8_readersOn_22, c_X8_readersOn_23, c_X8_readersOn_24, o_aald, o_aload, o_bin, o_get, o_getr, o_goto, o_ic, o_icmp, o_if, o_iinc, o_iload, o_iret, o_istore, z_cv0, z_cl0, z_cv1, z_cl1, z_cv2, z_cl2, z_cv3, z_cl3, z_cv4, z_cl4, z_cv5, z_cl5, z_cv6, z_cl6, z_cv7, z_cl7, z_cv8, z_cl8, z_cv9, z_cl9, z_cv10, z_cl10, z_cv11, z_cl11, z_cv12, z_cl12, z_cv13, z_cl13, z_len, z_elt, z_isI, z_isJ, Nat.reduceEqDiff, Nat.reduceLeDiff, Nat.reduceLT, Nat.reduceSub, Nat.reduceMul, not_false_eq_true, not_true_eq_false, true_and, and_true, true_or, or_true, false_or, or_false, true_implies, false_implies, implies_true, forall_const, and_self, ne_eq, Classical.not_not, z_up1, z_up2, z_cp1, z_cp2, z_upL1, z_upL2, if_true, if_false, and_false, false_and]) | (with_reducible refine And.intro ?_ ?_) | (with_reducible intro _))
  refine z_loop (fun n => z_run (z_nop k_X8_readersOn) (z_call (h)) K 4 [.inr (.inr (9, w, 0)), .inl (z_mk (fun i => decide (¬ M.1 4 w i 0 = 0)) n), .inl (nI n)] [] (M)) 4 ?_ ?_ 0 (by omega)
  · obtain ⟨f1, f2⟩ := z_eq4
    refine z_go (cut := [4]) 27 ?_
    repeat' (first | (simp only [z_wp, Bool.false_eq_true, ↓reduceIte, z_e10, z_e01, eq_self, Int32.reduceLT, Int32.reduceLE, Int32.reduceGT, Int32.reduceGE, z_in, cond_true, cond_false, Nat.reduceAdd, Nat.reduceBEq, z_nth, z_set, z_clr, z_st1, z_st2, z_isL, z_opt, z_pop, z_cats, z_cat, c_X8_readersOn_0, c_X8_readersOn_1, c_X8_readersOn_2, c_X8_readersOn_3, c_X8_readersOn_4, c_X8_readersOn_5, c_X8_readersOn_6, c_X8_readersOn_7, c_X8_readersOn_8, c_X8_readersOn_9, c_X8_readersOn_10, c_X8_readersOn_11, c_X8_readersOn_12, c_X8_readersOn_13, c_X8_readersOn_14, c_X8_readersOn_15, c_X8_readersOn_16, c_X8_readersOn_17, c_X8_readersOn_18, c_X8_readersOn_19, c_X8_readersOn_20, c_X8_readersOn_21, c_X8_readersOn_22, c_X8_readersOn_23, c_X8_readersOn_24, o_aald, o_aload, o_bin, o_get, o_getr, o_goto, o_ic, o_icmp, o_if, o_iinc, o_iload, o_iret, o_istore, z_cv0, z_cl0, z_cv1, z_cl1, z_cv2, z_cl2, z_cv3, z_cl3, z_cv4, z_cl4, z_cv5, z_cl5, z_cv6, z_cl6, z_cv7, z_cl7, z_cv8, z_cl8, z_cv9, z_cl9, z_cv10, z_cl10, z_cv11, z_cl11, z_cv12, z_cl12, z_cv13, z_cl13, z_len, z_elt, z_isI, z_isJ, Nat.reduceEqDiff, Nat.reduceLeDiff, Nat.reduceLT, Nat.reduceSub, Nat.reduceMul, not_false_eq_true, not_true_eq_false, true_and, and_true, true_or, or_true, false_or, or_false, true_implies, false_implies, implies_true, forall_const, and_self, ne_eq, Classical.not_not, z_up1, z_up2, z_cp1, z_cp2, z_upL1, z_upL2, if_true, if_false, and_false, false_and, f1, f2]) | (with_reducible refine And.intro ?_ ?_) | (with_reducible intro _))
    all_goals (first | (with_reducible exact q) | ((try simp only [ge_iff_le, gt_iff_lt, ← Int32.not_lt, Classical.not_not] at *); (first | (with_reducible rfl) | rfl | (with_reducible exact z_vi_24 (by assumption) (by assumption)) | (with_reducible exact z_vi_4 (by assumption) (by assumption)) | (with_reducible exact z_vi_512 (by assumption) (by assumption)) | (with_reducible exact z_vi_14 (by assumption) (by assumption)) | (with_reducible exact z_vi_8 (by assumption) (by assumption)) | (with_reducible exact z_vinN (by assumption) (by assumption) (by decide)) | (with_reducible exact z_vin1 (by assumption) (by assumption) (by decide)) | ((try simp only [z_mk] at q); (try simp only [ge_iff_le, gt_iff_lt, ← Int32.not_lt, Classical.not_not] at q); (try simp only [*, if_true, if_false, ite_self, true_or, or_true, false_or, or_false, true_and, and_true, false_and, and_false, not_true_eq_false, not_false_eq_true, cond_true, cond_false, decide_true, decide_false, Bool.true_and, Bool.and_true, Bool.false_and, Bool.and_false, Bool.true_or, Bool.or_true, Bool.false_or, Bool.or_false, Bool.not_true, Bool.not_false, ne_eq, Nat.reduceEqDiff] at q); with_reducible exact q))) | (simp_all [z_mk]; done))
  · intro n hn ih
    obtain ⟨f1, f2, f3, f4, f5⟩ := z_lt4 hn
    refine z_go (cut := [4]) 27 ?_
    repeat' (first | (simp only [z_wp, Bool.false_eq_true, ↓reduceIte, z_e10, z_e01, eq_self, Int32.reduceLT, Int32.reduceLE, Int32.reduceGT, Int32.reduceGE, z_in, cond_true, cond_false, Nat.reduceAdd, Nat.reduceBEq, z_nth, z_set, z_clr, z_st1, z_st2, z_isL, z_opt, z_pop, z_cats, z_cat, c_X8_readersOn_0, c_X8_readersOn_1, c_X8_readersOn_2, c_X8_readersOn_3, c_X8_readersOn_4, c_X8_readersOn_5, c_X8_readersOn_6, c_X8_readersOn_7, c_X8_readersOn_8, c_X8_readersOn_9, c_X8_readersOn_10, c_X8_readersOn_11, c_X8_readersOn_12, c_X8_readersOn_13, c_X8_readersOn_14, c_X8_readersOn_15, c_X8_readersOn_16, c_X8_readersOn_17, c_X8_readersOn_18, c_X8_readersOn_19, c_X8_readersOn_20, c_X8_readersOn_21, c_X8_readersOn_22, c_X8_readersOn_23, c_X8_readersOn_24, o_aald, o_aload, o_bin, o_get, o_getr, o_goto, o_ic, o_icmp, o_if, o_iinc, o_iload, o_iret, o_istore, z_cv0, z_cl0, z_cv1, z_cl1, z_cv2, z_cl2, z_cv3, z_cl3, z_cv4, z_cl4, z_cv5, z_cl5, z_cv6, z_cl6, z_cv7, z_cl7, z_cv8, z_cl8, z_cv9, z_cl9, z_cv10, z_cl10, z_cv11, z_cl11, z_cv12, z_cl12, z_cv13, z_cl13, z_len, z_elt, z_isI, z_isJ, Nat.reduceEqDiff, Nat.reduceLeDiff, Nat.reduceLT, Nat.reduceSub, Nat.reduceMul, not_false_eq_true, not_true_eq_false, true_and, and_true, true_or, or_true, false_or, or_false, true_implies, false_implies, implies_true, forall_const, and_self, ne_eq, Classical.not_not, z_up1, z_up2, z_cp1, z_cp2, z_upL1, z_upL2, if_true, if_false, and_false, false_and, f1, f2, f3, f4, f5]) | (with_reducible refine And.intro ?_ ?_) | (with_reducible intro _))
    all_goals (first | (with_reducible exact ih) | ((try simp only [ge_iff_le, gt_iff_lt, ← Int32.not_lt, Classical.not_not] at *); (first | (with_reducible rfl) | rfl | (with_reducible exact z_vi_24 (by assumption) (by assumption)) | (with_reducible exact z_vi_4 (by assumption) (by assumption)) | (with_reducible exact z_vi_512 (by assumption) (by assumption)) | (with_reducible exact z_vi_14 (by assumption) (by assumption)) | (with_reducible exact z_vi_8 (by assumption) (by assumption)) | (with_reducible exact z_vinN (by assumption) (by assumption) (by decide)) | (with_reducible exact z_vin1 (by assumption) (by assumption) (by decide)) | ((try simp only [z_mk] at ih); (try simp only [ge_iff_le, gt_iff_lt, ← Int32.not_lt, Classical.not_not] at ih); (try simp only [*, if_true, if_false, ite_self, true_or, or_true, false_or, or_false, true_and, and_true, false_and, and_false, not_true_eq_false, not_false_eq_true, cond_true, cond_false, decide_true, decide_false, Bool.true_and, Bool.and_true, Bool.false_and, Bool.and_false, Bool.true_or, Bool.or_true, Bool.false_or, Bool.or_false, Bool.not_true, Bool.not_false, ne_eq, Nat.reduceEqDiff] at ih); with_reducible exact ih))) | (simp_all [z_mk]; done))
theorem e_X8_readersTaking {h : Nat} {a0 : zId} {M : zMem} {K : zK} (ha0 : (a0.1 == 99) = false) (q : z_run (z_nop k_X8_readersTaking) (z_call h) K 0 [.inr (.inr a0), z_un, z_un] [] M) : z_call (h + 1) 116 [.inr (.inr a0)] M K := ⟨by simp only [List.all_cons, List.all_nil, z_isU, ha0]; rfl, q⟩
theorem c_X8_readersTaking_0 : z_nop k_X8_readersTaking 0 = o_ic 0 := rfl
theorem c_X8_readersTaking_1 : z_nop k_X8_readersTaking 1 = o_istore 1 := rfl
theorem c_X8_readersTaking_2 : z_nop k_X8_readersTaking 2 = o_ic 0 := rfl
theorem c_X8_readersTaking_3 : z_nop k_X8_readersTaking 3 = o_istore 2 := rfl
theorem c_X8_readersTaking_4 : z_nop k_X8_readersTaking 4 = o_iload 2 := rfl
theorem c_X8_readersTaking_5 : z_nop k_X8_readersTaking 5 = o_ic 4 := rfl
theorem c_X8_readersTaking_6 : z_nop k_X8_readersTaking 6 = o_icmp (fun x y => x ≥ y) 23 := rfl
theorem c_X8_readersTaking_7 : z_nop k_X8_readersTaking 7 = o_iload 1 := rfl
theorem c_X8_readersTaking_8 : z_nop k_X8_readersTaking 8 = o_aload 0 := rfl
theorem c_X8_readersTaking_9 : z_nop k_X8_readersTaking 9 = o_getr 9 (fun w i => (31, w, 0)) := rfl
theorem c_X8_readersTaking_10 : z_nop k_X8_readersTaking 10 = o_iload 2 := rfl
theorem c_X8_readersTaking_11 : z_nop k_X8_readersTaking 11 = o_aald := rfl
theorem c_X8_readersTaking_12 : z_nop k_X8_readersTaking 12 = o_get 4 1 := rfl
theorem c_X8_readersTaking_13 : z_nop k_X8_readersTaking 13 = o_if (fun x => x = 0) 18 := rfl
theorem c_X8_readersTaking_14 : z_nop k_X8_readersTaking 14 = o_ic 1 := rfl
theorem c_X8_readersTaking_15 : z_nop k_X8_readersTaking 15 = o_iload 2 := rfl
theorem c_X8_readersTaking_16 : z_nop k_X8_readersTaking 16 = o_bin (fun x y => x <<< (y &&& 31)) := rfl
theorem c_X8_readersTaking_17 : z_nop k_X8_readersTaking 17 = o_goto 19 := rfl
theorem c_X8_readersTaking_18 : z_nop k_X8_readersTaking 18 = o_ic 0 := rfl
theorem c_X8_readersTaking_19 : z_nop k_X8_readersTaking 19 = o_bin (fun x y => x ||| y) := rfl
theorem c_X8_readersTaking_20 : z_nop k_X8_readersTaking 20 = o_istore 1 := rfl
theorem c_X8_readersTaking_21 : z_nop k_X8_readersTaking 21 = o_iinc 2 1 := rfl
theorem c_X8_readersTaking_22 : z_nop k_X8_readersTaking 22 = o_goto 4 := rfl
theorem c_X8_readersTaking_23 : z_nop k_X8_readersTaking 23 = o_iload 1 := rfl
theorem c_X8_readersTaking_24 : z_nop k_X8_readersTaking 24 = o_iret := rfl

def r_readersTaking (M : zMem) (w : Nat) : Int32 := z_mk (fun i => decide (¬ M.1 4 w i 1 = 0)) 4
set_option maxRecDepth 100000 in
theorem s_readersTaking {h w : Nat} {M : zMem} {K : zK} (q : K (some (.inl (r_readersTaking M w))) M) : z_call (h + 1) 116 [.inr (.inr (9, w, 0))] M K := by
  unfold r_readersTaking at q
  refine e_X8_readersTaking rfl ?_
  refine z_wp_run (cut := [4]) 27 _ _ _ _ ?_
  repeat' (first | (simp only [z_wp, Bool.false_eq_true, ↓reduceIte, z_e10, z_e01, eq_self, Int32.reduceLT, Int32.reduceLE, Int32.reduceGT, Int32.reduceGE, z_in, cond_true, cond_false, Nat.reduceAdd, Nat.reduceBEq, z_nth, z_set, z_clr, z_st1, z_st2, z_isL, z_opt, z_pop, z_cats, z_cat, c_X8_readersTaking_0, c_X8_readersTaking_1, c_X8_readersTaking_2, c_X8_readersTaking_3, c_X8_readersTaking_4, c_X8_readersTaking_5, c_X8_readersTaking_6, c_X8_readersTaking_7, c_X8_readersTaking_8, c_X8_readersTaking_9, c_X8_readersTaking_10, c_X8_readersTaking_11, c_X8_readersTaking_12, c_X8_readersTaking_13, c_X8_readersTaking_14, c_X8_readersTaking_15, c_X8_readersTaking_16, c_X8_readersTaking_17, c_X8_readersTaking_18, c_X8_readersTaking_19, c_X8_readersTaking_20, c_X8_readersTaking_21, c_X8_readersTaking_22, c_X8_readersTaking_23, c_X8_readersTaking_24, o_aald, o_aload, o_bin, o_get, o_getr, o_goto, o_ic, o_icmp, o_if, o_iinc, o_iload, o_iret, o_istore, z_cv0, z_cl0, z_cv1, z_cl1, z_cv2, z_cl2, z_cv3, z_cl3, z_cv4, z_cl4, z_cv5, z_cl5, z_cv6, z_cl6, z_cv7, z_cl7, z_cv8, z_cl8, z_cv9, z_cl9, z_cv10, z_cl10, z_cv11, z_cl11, z_cv12, z_cl12, z_cv13, z_cl13, z_len, z_elt, z_isI, z_isJ, Nat.reduceEqDiff, Nat.reduceLeDiff, Nat.reduceLT, Nat.reduceSub, Nat.reduceMul, not_false_eq_true, not_true_eq_false, true_and, and_true, true_or, or_true, false_or, or_false, true_implies, false_implies, implies_true, forall_const, and_self, ne_eq, Classical.not_not, z_up1, z_up2, z_cp1, z_cp2, z_upL1, z_upL2, if_true, if_false, and_false, false_and]) | (with_reducible refine And.intro ?_ ?_) | (with_reducible intro _))
  refine z_loop (fun n => z_run (z_nop k_X8_readersTaking) (z_call (h)) K 4 [.inr (.inr (9, w, 0)), .inl (z_mk (fun i => decide (¬ M.1 4 w i 1 = 0)) n), .inl (nI n)] [] (M)) 4 ?_ ?_ 0 (by omega)
  · obtain ⟨f1, f2⟩ := z_eq4
    refine z_go (cut := [4]) 27 ?_
    repeat' (first | (simp only [z_wp, Bool.false_eq_true, ↓reduceIte, z_e10, z_e01, eq_self, Int32.reduceLT, Int32.reduceLE, Int32.reduceGT, Int32.reduceGE, z_in, cond_true, cond_false, Nat.reduceAdd, Nat.reduceBEq, z_nth, z_set, z_clr, z_st1, z_st2, z_isL, z_opt, z_pop, z_cats, z_cat, c_X8_readersTaking_0, c_X8_readersTaking_1, c_X8_readersTaking_2, c_X8_readersTaking_3, c_X8_readersTaking_4, c_X8_readersTaking_5, c_X8_readersTaking_6, c_X8_readersTaking_7, c_X8_readersTaking_8, c_X8_readersTaking_9, c_X8_readersTaking_10, c_X8_readersTaking_11, c_X8_readersTaking_12, c_X8_readersTaking_13, c_X8_readersTaking_14, c_X8_readersTaking_15, c_X8_readersTaking_16, c_X8_readersTaking_17, c_X8_readersTaking_18, c_X8_readersTaking_19, c_X8_readersTaking_20, c_X8_readersTaking_21, c_X8_readersTaking_22, c_X8_readersTaking_23, c_X8_readersTaking_24, o_aald, o_aload, o_bin, o_get, o_getr, o_goto, o_ic, o_icmp, o_if, o_iinc, o_iload, o_iret, o_istore, z_cv0, z_cl0, z_cv1, z_cl1, z_cv2, z_cl2, z_cv3, z_cl3, z_cv4, z_cl4, z_cv5, z_cl5, z_cv6, z_cl6, z_cv7, z_cl7, z_cv8, z_cl8, z_cv9, z_cl9, z_cv10, z_cl10, z_cv11, z_cl11, z_cv12, z_cl12, z_cv13, z_cl13, z_len, z_elt, z_isI, z_isJ, Nat.reduceEqDiff, Nat.reduceLeDiff, Nat.reduceLT, Nat.reduceSub, Nat.reduceMul, not_false_eq_true, not_true_eq_false, true_and, and_true, true_or, or_true, false_or, or_false, true_implies, false_implies, implies_true, forall_const, and_self, ne_eq, Classical.not_not, z_up1, z_up2, z_cp1, z_cp2, z_upL1, z_upL2, if_true, if_false, and_false, false_and, f1, f2]) | (with_reducible refine And.intro ?_ ?_) | (with_reducible intro _))
    all_goals (first | (with_reducible exact q) | ((try simp only [ge_iff_le, gt_iff_lt, ← Int32.not_lt, Classical.not_not] at *); (first | (with_reducible rfl) | rfl | (with_reducible exact z_vi_24 (by assumption) (by assumption)) | (with_reducible exact z_vi_4 (by assumption) (by assumption)) | (with_reducible exact z_vi_512 (by assumption) (by assumption)) | (with_reducible exact z_vi_14 (by assumption) (by assumption)) | (with_reducible exact z_vi_8 (by assumption) (by assumption)) | (with_reducible exact z_vinN (by assumption) (by assumption) (by decide)) | (with_reducible exact z_vin1 (by assumption) (by assumption) (by decide)) | ((try simp only [z_mk] at q); (try simp only [ge_iff_le, gt_iff_lt, ← Int32.not_lt, Classical.not_not] at q); (try simp only [*, if_true, if_false, ite_self, true_or, or_true, false_or, or_false, true_and, and_true, false_and, and_false, not_true_eq_false, not_false_eq_true, cond_true, cond_false, decide_true, decide_false, Bool.true_and, Bool.and_true, Bool.false_and, Bool.and_false, Bool.true_or, Bool.or_true, Bool.false_or, Bool.or_false, Bool.not_true, Bool.not_false, ne_eq, Nat.reduceEqDiff] at q); with_reducible exact q))) | (simp_all [z_mk]; done))
  · intro n hn ih
    obtain ⟨f1, f2, f3, f4, f5⟩ := z_lt4 hn
    refine z_go (cut := [4]) 27 ?_
    repeat' (first | (simp only [z_wp, Bool.false_eq_true, ↓reduceIte, z_e10, z_e01, eq_self, Int32.reduceLT, Int32.reduceLE, Int32.reduceGT, Int32.reduceGE, z_in, cond_true, cond_false, Nat.reduceAdd, Nat.reduceBEq, z_nth, z_set, z_clr, z_st1, z_st2, z_isL, z_opt, z_pop, z_cats, z_cat, c_X8_readersTaking_0, c_X8_readersTaking_1, c_X8_readersTaking_2, c_X8_readersTaking_3, c_X8_readersTaking_4, c_X8_readersTaking_5, c_X8_readersTaking_6, c_X8_readersTaking_7, c_X8_readersTaking_8, c_X8_readersTaking_9, c_X8_readersTaking_10, c_X8_readersTaking_11, c_X8_readersTaking_12, c_X8_readersTaking_13, c_X8_readersTaking_14, c_X8_readersTaking_15, c_X8_readersTaking_16, c_X8_readersTaking_17, c_X8_readersTaking_18, c_X8_readersTaking_19, c_X8_readersTaking_20, c_X8_readersTaking_21, c_X8_readersTaking_22, c_X8_readersTaking_23, c_X8_readersTaking_24, o_aald, o_aload, o_bin, o_get, o_getr, o_goto, o_ic, o_icmp, o_if, o_iinc, o_iload, o_iret, o_istore, z_cv0, z_cl0, z_cv1, z_cl1, z_cv2, z_cl2, z_cv3, z_cl3, z_cv4, z_cl4, z_cv5, z_cl5, z_cv6, z_cl6, z_cv7, z_cl7, z_cv8, z_cl8, z_cv9, z_cl9, z_cv10, z_cl10, z_cv11, z_cl11, z_cv12, z_cl12, z_cv13, z_cl13, z_len, z_elt, z_isI, z_isJ, Nat.reduceEqDiff, Nat.reduceLeDiff, Nat.reduceLT, Nat.reduceSub, Nat.reduceMul, not_false_eq_true, not_true_eq_false, true_and, and_true, true_or, or_true, false_or, or_false, true_implies, false_implies, implies_true, forall_const, and_self, ne_eq, Classical.not_not, z_up1, z_up2, z_cp1, z_cp2, z_upL1, z_upL2, if_true, if_false, and_false, false_and, f1, f2, f3, f4, f5]) | (with_reducible refine And.intro ?_ ?_) | (with_reducible intro _))
    all_goals (first | (with_reducible exact ih) | ((try simp only [ge_iff_le, gt_iff_lt, ← Int32.not_lt, Classical.not_not] at *); (first | (with_reducible rfl) | rfl | (with_reducible exact z_vi_24 (by assumption) (by assumption)) | (with_reducible exact z_vi_4 (by assumption) (by assumption)) | (with_reducible exact z_vi_512 (by assumption) (by assumption)) | (with_reducible exact z_vi_14 (by assumption) (by assumption)) | (with_reducible exact z_vi_8 (by assumption) (by assumption)) | (with_reducible exact z_vinN (by assumption) (by assumption) (by decide)) | (with_reducible exact z_vin1 (by assumption) (by assumption) (by decide)) | ((try simp only [z_mk] at ih); (try simp only [ge_iff_le, gt_iff_lt, ← Int32.not_lt, Classical.not_not] at ih); (try simp only [*, if_true, if_false, ite_self, true_or, or_true, false_or, or_false, true_and, and_true, false_and, and_false, not_true_eq_false, not_false_eq_true, cond_true, cond_false, decide_true, decide_false, Bool.true_and, Bool.and_true, Bool.false_and, Bool.and_false, Bool.true_or, Bool.or_true, Bool.false_or, Bool.or_false, Bool.not_true, Bool.not_false, ne_eq, Nat.reduceEqDiff] at ih); with_reducible exact ih))) | (simp_all [z_mk]; done))
theorem e_X8_tagsThere {h : Nat} {a0 : zId} {M : zMem} {K : zK} (ha0 : (a0.1 == 99) = false) (q : z_run (z_nop k_X8_tagsThere) (z_call h) K 0 [.inr (.inr a0), z_un, z_un] [] M) : z_call (h + 1) 111 [.inr (.inr a0)] M K := ⟨by simp only [List.all_cons, List.all_nil, z_isU, ha0]; rfl, q⟩
theorem c_X8_tagsThere_0 : z_nop k_X8_tagsThere 0 = o_ic 0 := rfl
theorem c_X8_tagsThere_1 : z_nop k_X8_tagsThere 1 = o_istore 1 := rfl
theorem c_X8_tagsThere_2 : z_nop k_X8_tagsThere 2 = o_ic 0 := rfl
theorem c_X8_tagsThere_3 : z_nop k_X8_tagsThere 3 = o_istore 2 := rfl
theorem c_X8_tagsThere_4 : z_nop k_X8_tagsThere 4 = o_iload 2 := rfl
theorem c_X8_tagsThere_5 : z_nop k_X8_tagsThere 5 = o_ic 24 := rfl
theorem c_X8_tagsThere_6 : z_nop k_X8_tagsThere 6 = o_icmp (fun x y => x ≥ y) 23 := rfl
theorem c_X8_tagsThere_7 : z_nop k_X8_tagsThere 7 = o_iload 1 := rfl
theorem c_X8_tagsThere_8 : z_nop k_X8_tagsThere 8 = o_aload 0 := rfl
theorem c_X8_tagsThere_9 : z_nop k_X8_tagsThere 9 = o_getr 9 (fun w i => (30, w, 0)) := rfl
theorem c_X8_tagsThere_10 : z_nop k_X8_tagsThere 10 = o_iload 2 := rfl
theorem c_X8_tagsThere_11 : z_nop k_X8_tagsThere 11 = o_aald := rfl
theorem c_X8_tagsThere_12 : z_nop k_X8_tagsThere 12 = o_get 7 0 := rfl
theorem c_X8_tagsThere_13 : z_nop k_X8_tagsThere 13 = o_if (fun x => x = 0) 18 := rfl
theorem c_X8_tagsThere_14 : z_nop k_X8_tagsThere 14 = o_ic 1 := rfl
theorem c_X8_tagsThere_15 : z_nop k_X8_tagsThere 15 = o_iload 2 := rfl
theorem c_X8_tagsThere_16 : z_nop k_X8_tagsThere 16 = o_bin (fun x y => x <<< (y &&& 31)) := rfl
theorem c_X8_tagsThere_17 : z_nop k_X8_tagsThere 17 = o_goto 19 := rfl
theorem c_X8_tagsThere_18 : z_nop k_X8_tagsThere 18 = o_ic 0 := rfl
theorem c_X8_tagsThere_19 : z_nop k_X8_tagsThere 19 = o_bin (fun x y => x ||| y) := rfl
theorem c_X8_tagsThere_20 : z_nop k_X8_tagsThere 20 = o_istore 1 := rfl
theorem c_X8_tagsThere_21 : z_nop k_X8_tagsThere 21 = o_iinc 2 1 := rfl
theorem c_X8_tagsThere_22 : z_nop k_X8_tagsThere 22 = o_goto 4 := rfl
theorem c_X8_tagsThere_23 : z_nop k_X8_tagsThere 23 = o_iload 1 := rfl
theorem c_X8_tagsThere_24 : z_nop k_X8_tagsThere 24 = o_iret := rfl

def r_tagsThere (M : zMem) (w : Nat) : Int32 := z_mk (fun i => decide (¬ M.1 7 w i 0 = 0)) 24
set_option maxRecDepth 100000 in
theorem s_tagsThere {h w : Nat} {M : zMem} {K : zK} (q : K (some (.inl (r_tagsThere M w))) M) : z_call (h + 1) 111 [.inr (.inr (9, w, 0))] M K := by
  unfold r_tagsThere at q
  refine e_X8_tagsThere rfl ?_
  refine z_wp_run (cut := [4]) 27 _ _ _ _ ?_
  repeat' (first | (simp only [z_wp, Bool.false_eq_true, ↓reduceIte, z_e10, z_e01, eq_self, Int32.reduceLT, Int32.reduceLE, Int32.reduceGT, Int32.reduceGE, z_in, cond_true, cond_false, Nat.reduceAdd, Nat.reduceBEq, z_nth, z_set, z_clr, z_st1, z_st2, z_isL, z_opt, z_pop, z_cats, z_cat, c_X8_tagsThere_0, c_X8_tagsThere_1, c_X8_tagsThere_2, c_X8_tagsThere_3, c_X8_tagsThere_4, c_X8_tagsThere_5, c_X8_tagsThere_6, c_X8_tagsThere_7, c_X8_tagsThere_8, c_X8_tagsThere_9, c_X8_tagsThere_10, c_X8_tagsThere_11, c_X8_tagsThere_12, c_X8_tagsThere_13, c_X8_tagsThere_14, c_X8_tagsThere_15, c_X8_tagsThere_16, c_X8_tagsThere_17, c_X8_tagsThere_18, c_X8_tagsThere_19, c_X8_tagsThere_20, c_X8_tagsThere_21, c_X8_tagsThere_22, c_X8_tagsThere_23, c_X8_tagsThere_24, o_aald, o_aload, o_bin, o_get, o_getr, o_goto, o_ic, o_icmp, o_if, o_iinc, o_iload, o_iret, o_istore, z_cv0, z_cl0, z_cv1, z_cl1, z_cv2, z_cl2, z_cv3, z_cl3, z_cv4, z_cl4, z_cv5, z_cl5, z_cv6, z_cl6, z_cv7, z_cl7, z_cv8, z_cl8, z_cv9, z_cl9, z_cv10, z_cl10, z_cv11, z_cl11, z_cv12, z_cl12, z_cv13, z_cl13, z_len, z_elt, z_isI, z_isJ, Nat.reduceEqDiff, Nat.reduceLeDiff, Nat.reduceLT, Nat.reduceSub, Nat.reduceMul, not_false_eq_true, not_true_eq_false, true_and, and_true, true_or, or_true, false_or, or_false, true_implies, false_implies, implies_true, forall_const, and_self, ne_eq, Classical.not_not, z_up1, z_up2, z_cp1, z_cp2, z_upL1, z_upL2, if_true, if_false, and_false, false_and]) | (with_reducible refine And.intro ?_ ?_) | (with_reducible intro _))
  refine z_loop (fun n => z_run (z_nop k_X8_tagsThere) (z_call (h)) K 4 [.inr (.inr (9, w, 0)), .inl (z_mk (fun i => decide (¬ M.1 7 w i 0 = 0)) n), .inl (nI n)] [] (M)) 24 ?_ ?_ 0 (by omega)
  · obtain ⟨f1, f2⟩ := z_eq24
    refine z_go (cut := [4]) 27 ?_
    repeat' (first | (simp only [z_wp, Bool.false_eq_true, ↓reduceIte, z_e10, z_e01, eq_self, Int32.reduceLT, Int32.reduceLE, Int32.reduceGT, Int32.reduceGE, z_in, cond_true, cond_false, Nat.reduceAdd, Nat.reduceBEq, z_nth, z_set, z_clr, z_st1, z_st2, z_isL, z_opt, z_pop, z_cats, z_cat, c_X8_tagsThere_0, c_X8_tagsThere_1, c_X8_tagsThere_2, c_X8_tagsThere_3, c_X8_tagsThere_4, c_X8_tagsThere_5, c_X8_tagsThere_6, c_X8_tagsThere_7, c_X8_tagsThere_8, c_X8_tagsThere_9, c_X8_tagsThere_10, c_X8_tagsThere_11, c_X8_tagsThere_12, c_X8_tagsThere_13, c_X8_tagsThere_14, c_X8_tagsThere_15, c_X8_tagsThere_16, c_X8_tagsThere_17, c_X8_tagsThere_18, c_X8_tagsThere_19, c_X8_tagsThere_20, c_X8_tagsThere_21, c_X8_tagsThere_22, c_X8_tagsThere_23, c_X8_tagsThere_24, o_aald, o_aload, o_bin, o_get, o_getr, o_goto, o_ic, o_icmp, o_if, o_iinc, o_iload, o_iret, o_istore, z_cv0, z_cl0, z_cv1, z_cl1, z_cv2, z_cl2, z_cv3, z_cl3, z_cv4, z_cl4, z_cv5, z_cl5, z_cv6, z_cl6, z_cv7, z_cl7, z_cv8, z_cl8, z_cv9, z_cl9, z_cv10, z_cl10, z_cv11, z_cl11, z_cv12, z_cl12, z_cv13, z_cl13, z_len, z_elt, z_isI, z_isJ, Nat.reduceEqDiff, Nat.reduceLeDiff, Nat.reduceLT, Nat.reduceSub, Nat.reduceMul, not_false_eq_true, not_true_eq_false, true_and, and_true, true_or, or_true, false_or, or_false, true_implies, false_implies, implies_true, forall_const, and_self, ne_eq, Classical.not_not, z_up1, z_up2, z_cp1, z_cp2, z_upL1, z_upL2, if_true, if_false, and_false, false_and, f1, f2]) | (with_reducible refine And.intro ?_ ?_) | (with_reducible intro _))
    all_goals (first | (with_reducible exact q) | ((try simp only [ge_iff_le, gt_iff_lt, ← Int32.not_lt, Classical.not_not] at *); (first | (with_reducible rfl) | rfl | (with_reducible exact z_vi_24 (by assumption) (by assumption)) | (with_reducible exact z_vi_4 (by assumption) (by assumption)) | (with_reducible exact z_vi_512 (by assumption) (by assumption)) | (with_reducible exact z_vi_14 (by assumption) (by assumption)) | (with_reducible exact z_vi_8 (by assumption) (by assumption)) | (with_reducible exact z_vinN (by assumption) (by assumption) (by decide)) | (with_reducible exact z_vin1 (by assumption) (by assumption) (by decide)) | ((try simp only [z_mk] at q); (try simp only [ge_iff_le, gt_iff_lt, ← Int32.not_lt, Classical.not_not] at q); (try simp only [*, if_true, if_false, ite_self, true_or, or_true, false_or, or_false, true_and, and_true, false_and, and_false, not_true_eq_false, not_false_eq_true, cond_true, cond_false, decide_true, decide_false, Bool.true_and, Bool.and_true, Bool.false_and, Bool.and_false, Bool.true_or, Bool.or_true, Bool.false_or, Bool.or_false, Bool.not_true, Bool.not_false, ne_eq, Nat.reduceEqDiff] at q); with_reducible exact q))) | (simp_all [z_mk]; done))
  · intro n hn ih
    obtain ⟨f1, f2, f3, f4, f5⟩ := z_lt24 hn
    refine z_go (cut := [4]) 27 ?_
    repeat' (first | (simp only [z_wp, Bool.false_eq_true, ↓reduceIte, z_e10, z_e01, eq_self, Int32.reduceLT, Int32.reduceLE, Int32.reduceGT, Int32.reduceGE, z_in, cond_true, cond_false, Nat.reduceAdd, Nat.reduceBEq, z_nth, z_set, z_clr, z_st1, z_st2, z_isL, z_opt, z_pop, z_cats, z_cat, c_X8_tagsThere_0, c_X8_tagsThere_1, c_X8_tagsThere_2, c_X8_tagsThere_3, c_X8_tagsThere_4, c_X8_tagsThere_5, c_X8_tagsThere_6, c_X8_tagsThere_7, c_X8_tagsThere_8, c_X8_tagsThere_9, c_X8_tagsThere_10, c_X8_tagsThere_11, c_X8_tagsThere_12, c_X8_tagsThere_13, c_X8_tagsThere_14, c_X8_tagsThere_15, c_X8_tagsThere_16, c_X8_tagsThere_17, c_X8_tagsThere_18, c_X8_tagsThere_19, c_X8_tagsThere_20, c_X8_tagsThere_21, c_X8_tagsThere_22, c_X8_tagsThere_23, c_X8_tagsThere_24, o_aald, o_aload, o_bin, o_get, o_getr, o_goto, o_ic, o_icmp, o_if, o_iinc, o_iload, o_iret, o_istore, z_cv0, z_cl0, z_cv1, z_cl1, z_cv2, z_cl2, z_cv3, z_cl3, z_cv4, z_cl4, z_cv5, z_cl5, z_cv6, z_cl6, z_cv7, z_cl7, z_cv8, z_cl8, z_cv9, z_cl9, z_cv10, z_cl10, z_cv11, z_cl11, z_cv12, z_cl12, z_cv13, z_cl13, z_len, z_elt, z_isI, z_isJ, Nat.reduceEqDiff, Nat.reduceLeDiff, Nat.reduceLT, Nat.reduceSub, Nat.reduceMul, not_false_eq_true, not_true_eq_false, true_and, and_true, true_or, or_true, false_or, or_false, true_implies, false_implies, implies_true, forall_const, and_self, ne_eq, Classical.not_not, z_up1, z_up2, z_cp1, z_cp2, z_upL1, z_upL2, if_true, if_false, and_false, false_and, f1, f2, f3, f4, f5]) | (with_reducible refine And.intro ?_ ?_) | (with_reducible intro _))
    all_goals (first | (with_reducible exact ih) | ((try simp only [ge_iff_le, gt_iff_lt, ← Int32.not_lt, Classical.not_not] at *); (first | (with_reducible rfl) | rfl | (with_reducible exact z_vi_24 (by assumption) (by assumption)) | (with_reducible exact z_vi_4 (by assumption) (by assumption)) | (with_reducible exact z_vi_512 (by assumption) (by assumption)) | (with_reducible exact z_vi_14 (by assumption) (by assumption)) | (with_reducible exact z_vi_8 (by assumption) (by assumption)) | (with_reducible exact z_vinN (by assumption) (by assumption) (by decide)) | (with_reducible exact z_vin1 (by assumption) (by assumption) (by decide)) | ((try simp only [z_mk] at ih); (try simp only [ge_iff_le, gt_iff_lt, ← Int32.not_lt, Classical.not_not] at ih); (try simp only [*, if_true, if_false, ite_self, true_or, or_true, false_or, or_false, true_and, and_true, false_and, and_false, not_true_eq_false, not_false_eq_true, cond_true, cond_false, decide_true, decide_false, Bool.true_and, Bool.and_true, Bool.false_and, Bool.and_false, Bool.true_or, Bool.or_true, Bool.false_or, Bool.or_false, Bool.not_true, Bool.not_false, ne_eq, Nat.reduceEqDiff] at ih); with_reducible exact ih))) | (simp_all [z_mk]; done))
theorem e_X8_tagsOf {h : Nat} {a0 : zId} {a1 : Int32} {M : zMem} {K : zK} (ha0 : (a0.1 == 99) = false) (q : z_run (z_nop k_X8_tagsOf) (z_call h) K 0 [.inr (.inr a0), .inl a1, z_un, z_un] [] M) : z_call (h + 1) 112 [.inr (.inr a0), .inl a1] M K := ⟨by simp only [List.all_cons, List.all_nil, z_isU, ha0]; rfl, q⟩
theorem c_X8_tagsOf_0 : z_nop k_X8_tagsOf 0 = o_ic 0 := rfl
theorem c_X8_tagsOf_1 : z_nop k_X8_tagsOf 1 = o_istore 2 := rfl
theorem c_X8_tagsOf_2 : z_nop k_X8_tagsOf 2 = o_ic 0 := rfl
theorem c_X8_tagsOf_3 : z_nop k_X8_tagsOf 3 = o_istore 3 := rfl
theorem c_X8_tagsOf_4 : z_nop k_X8_tagsOf 4 = o_iload 3 := rfl
theorem c_X8_tagsOf_5 : z_nop k_X8_tagsOf 5 = o_ic 24 := rfl
theorem c_X8_tagsOf_6 : z_nop k_X8_tagsOf 6 = o_icmp (fun x y => x ≥ y) 30 := rfl
theorem c_X8_tagsOf_7 : z_nop k_X8_tagsOf 7 = o_iload 2 := rfl
theorem c_X8_tagsOf_8 : z_nop k_X8_tagsOf 8 = o_aload 0 := rfl
theorem c_X8_tagsOf_9 : z_nop k_X8_tagsOf 9 = o_getr 9 (fun w i => (30, w, 0)) := rfl
theorem c_X8_tagsOf_10 : z_nop k_X8_tagsOf 10 = o_iload 3 := rfl
theorem c_X8_tagsOf_11 : z_nop k_X8_tagsOf 11 = o_aald := rfl
theorem c_X8_tagsOf_12 : z_nop k_X8_tagsOf 12 = o_get 7 0 := rfl
theorem c_X8_tagsOf_13 : z_nop k_X8_tagsOf 13 = o_if (fun x => x = 0) 25 := rfl
theorem c_X8_tagsOf_14 : z_nop k_X8_tagsOf 14 = o_aload 0 := rfl
theorem c_X8_tagsOf_15 : z_nop k_X8_tagsOf 15 = o_getr 9 (fun w i => (30, w, 0)) := rfl
theorem c_X8_tagsOf_16 : z_nop k_X8_tagsOf 16 = o_iload 3 := rfl
theorem c_X8_tagsOf_17 : z_nop k_X8_tagsOf 17 = o_aald := rfl
theorem c_X8_tagsOf_18 : z_nop k_X8_tagsOf 18 = o_get 7 4 := rfl
theorem c_X8_tagsOf_19 : z_nop k_X8_tagsOf 19 = o_iload 1 := rfl
theorem c_X8_tagsOf_20 : z_nop k_X8_tagsOf 20 = o_icmp (fun x y => x ≠ y) 25 := rfl
theorem c_X8_tagsOf_21 : z_nop k_X8_tagsOf 21 = o_ic 1 := rfl
theorem c_X8_tagsOf_22 : z_nop k_X8_tagsOf 22 = o_iload 3 := rfl
theorem c_X8_tagsOf_23 : z_nop k_X8_tagsOf 23 = o_bin (fun x y => x <<< (y &&& 31)) := rfl
theorem c_X8_tagsOf_24 : z_nop k_X8_tagsOf 24 = o_goto 26 := rfl
theorem c_X8_tagsOf_25 : z_nop k_X8_tagsOf 25 = o_ic 0 := rfl
theorem c_X8_tagsOf_26 : z_nop k_X8_tagsOf 26 = o_bin (fun x y => x ||| y) := rfl
theorem c_X8_tagsOf_27 : z_nop k_X8_tagsOf 27 = o_istore 2 := rfl
theorem c_X8_tagsOf_28 : z_nop k_X8_tagsOf 28 = o_iinc 3 1 := rfl
theorem c_X8_tagsOf_29 : z_nop k_X8_tagsOf 29 = o_goto 4 := rfl
theorem c_X8_tagsOf_30 : z_nop k_X8_tagsOf 30 = o_iload 2 := rfl
theorem c_X8_tagsOf_31 : z_nop k_X8_tagsOf 31 = o_iret := rfl

def r_tagsOf (M : zMem) (w : Nat) (r : Int32) : Int32 := z_mk (fun i => decide (¬ M.1 7 w i 0 = 0 ∧ M.1 7 w i 4 = r)) 24
set_option maxRecDepth 100000 in
theorem s_tagsOf {h w : Nat} {M : zMem} {r : Int32} {K : zK} (q : K (some (.inl (r_tagsOf M w r))) M) : z_call (h + 1) 112 [.inr (.inr (9, w, 0)), .inl r] M K := by
  unfold r_tagsOf at q
  refine e_X8_tagsOf rfl ?_
  refine z_wp_run (cut := [4]) 34 _ _ _ _ ?_
  repeat' (first | (simp only [z_wp, Bool.false_eq_true, ↓reduceIte, z_e10, z_e01, eq_self, Int32.reduceLT, Int32.reduceLE, Int32.reduceGT, Int32.reduceGE, z_in, cond_true, cond_false, Nat.reduceAdd, Nat.reduceBEq, z_nth, z_set, z_clr, z_st1, z_st2, z_isL, z_opt, z_pop, z_cats, z_cat, c_X8_tagsOf_0, c_X8_tagsOf_1, c_X8_tagsOf_2, c_X8_tagsOf_3, c_X8_tagsOf_4, c_X8_tagsOf_5, c_X8_tagsOf_6, c_X8_tagsOf_7, c_X8_tagsOf_8, c_X8_tagsOf_9, c_X8_tagsOf_10, c_X8_tagsOf_11, c_X8_tagsOf_12, c_X8_tagsOf_13, c_X8_tagsOf_14, c_X8_tagsOf_15, c_X8_tagsOf_16, c_X8_tagsOf_17, c_X8_tagsOf_18, c_X8_tagsOf_19, c_X8_tagsOf_20, c_X8_tagsOf_21, c_X8_tagsOf_22, c_X8_tagsOf_23, c_X8_tagsOf_24, c_X8_tagsOf_25, c_X8_tagsOf_26, c_X8_tagsOf_27, c_X8_tagsOf_28, c_X8_tagsOf_29, c_X8_tagsOf_30, c_X8_tagsOf_31, o_aald, o_aload, o_bin, o_get, o_getr, o_goto, o_ic, o_icmp, o_if, o_iinc, o_iload, o_iret, o_istore, z_cv0, z_cl0, z_cv1, z_cl1, z_cv2, z_cl2, z_cv3, z_cl3, z_cv4, z_cl4, z_cv5, z_cl5, z_cv6, z_cl6, z_cv7, z_cl7, z_cv8, z_cl8, z_cv9, z_cl9, z_cv10, z_cl10, z_cv11, z_cl11, z_cv12, z_cl12, z_cv13, z_cl13, z_len, z_elt, z_isI, z_isJ, Nat.reduceEqDiff, Nat.reduceLeDiff, Nat.reduceLT, Nat.reduceSub, Nat.reduceMul, not_false_eq_true, not_true_eq_false, true_and, and_true, true_or, or_true, false_or, or_false, true_implies, false_implies, implies_true, forall_const, and_self, ne_eq, Classical.not_not, z_up1, z_up2, z_cp1, z_cp2, z_upL1, z_upL2, if_true, if_false, and_false, false_and]) | (with_reducible refine And.intro ?_ ?_) | (with_reducible intro _))
  refine z_loop (fun n => z_run (z_nop k_X8_tagsOf) (z_call (h)) K 4 [.inr (.inr (9, w, 0)), .inl r, .inl (z_mk (fun i => decide (¬ M.1 7 w i 0 = 0 ∧ M.1 7 w i 4 = r)) n), .inl (nI n)] [] (M)) 24 ?_ ?_ 0 (by omega)
  · obtain ⟨f1, f2⟩ := z_eq24
    refine z_go (cut := [4]) 34 ?_
    repeat' (first | (simp only [z_wp, Bool.false_eq_true, ↓reduceIte, z_e10, z_e01, eq_self, Int32.reduceLT, Int32.reduceLE, Int32.reduceGT, Int32.reduceGE, z_in, cond_true, cond_false, Nat.reduceAdd, Nat.reduceBEq, z_nth, z_set, z_clr, z_st1, z_st2, z_isL, z_opt, z_pop, z_cats, z_cat, c_X8_tagsOf_0, c_X8_tagsOf_1, c_X8_tagsOf_2, c_X8_tagsOf_3, c_X8_tagsOf_4, c_X8_tagsOf_5, c_X8_tagsOf_6, c_X8_tagsOf_7, c_X8_tagsOf_8, c_X8_tagsOf_9, c_X8_tagsOf_10, c_X8_tagsOf_11, c_X8_tagsOf_12, c_X8_tagsOf_13, c_X8_tagsOf_14, c_X8_tagsOf_15, c_X8_tagsOf_16, c_X8_tagsOf_17, c_X8_tagsOf_18, c_X8_tagsOf_19, c_X8_tagsOf_20, c_X8_tagsOf_21, c_X8_tagsOf_22, c_X8_tagsOf_23, c_X8_tagsOf_24, c_X8_tagsOf_25, c_X8_tagsOf_26, c_X8_tagsOf_27, c_X8_tagsOf_28, c_X8_tagsOf_29, c_X8_tagsOf_30, c_X8_tagsOf_31, o_aald, o_aload, o_bin, o_get, o_getr, o_goto, o_ic, o_icmp, o_if, o_iinc, o_iload, o_iret, o_istore, z_cv0, z_cl0, z_cv1, z_cl1, z_cv2, z_cl2, z_cv3, z_cl3, z_cv4, z_cl4, z_cv5, z_cl5, z_cv6, z_cl6, z_cv7, z_cl7, z_cv8, z_cl8, z_cv9, z_cl9, z_cv10, z_cl10, z_cv11, z_cl11, z_cv12, z_cl12, z_cv13, z_cl13, z_len, z_elt, z_isI, z_isJ, Nat.reduceEqDiff, Nat.reduceLeDiff, Nat.reduceLT, Nat.reduceSub, Nat.reduceMul, not_false_eq_true, not_true_eq_false, true_and, and_true, true_or, or_true, false_or, or_false, true_implies, false_implies, implies_true, forall_const, and_self, ne_eq, Classical.not_not, z_up1, z_up2, z_cp1, z_cp2, z_upL1, z_upL2, if_true, if_false, and_false, false_and, f1, f2]) | (with_reducible refine And.intro ?_ ?_) | (with_reducible intro _))
    all_goals (first | (with_reducible exact q) | ((try simp only [ge_iff_le, gt_iff_lt, ← Int32.not_lt, Classical.not_not] at *); (first | (with_reducible rfl) | rfl | (with_reducible exact z_vi_24 (by assumption) (by assumption)) | (with_reducible exact z_vi_4 (by assumption) (by assumption)) | (with_reducible exact z_vi_512 (by assumption) (by assumption)) | (with_reducible exact z_vi_14 (by assumption) (by assumption)) | (with_reducible exact z_vi_8 (by assumption) (by assumption)) | (with_reducible exact z_vinN (by assumption) (by assumption) (by decide)) | (with_reducible exact z_vin1 (by assumption) (by assumption) (by decide)) | ((try simp only [z_mk] at q); (try simp only [ge_iff_le, gt_iff_lt, ← Int32.not_lt, Classical.not_not] at q); (try simp only [*, if_true, if_false, ite_self, true_or, or_true, false_or, or_false, true_and, and_true, false_and, and_false, not_true_eq_false, not_false_eq_true, cond_true, cond_false, decide_true, decide_false, Bool.true_and, Bool.and_true, Bool.false_and, Bool.and_false, Bool.true_or, Bool.or_true, Bool.false_or, Bool.or_false, Bool.not_true, Bool.not_false, ne_eq, Nat.reduceEqDiff] at q); with_reducible exact q))) | (simp_all [z_mk]; done))
  · intro n hn ih
    obtain ⟨f1, f2, f3, f4, f5⟩ := z_lt24 hn
    refine z_go (cut := [4]) 34 ?_
    repeat' (first | (simp only [z_wp, Bool.false_eq_true, ↓reduceIte, z_e10, z_e01, eq_self, Int32.reduceLT, Int32.reduceLE, Int32.reduceGT, Int32.reduceGE, z_in, cond_true, cond_false, Nat.reduceAdd, Nat.reduceBEq, z_nth, z_set, z_clr, z_st1, z_st2, z_isL, z_opt, z_pop, z_cats, z_cat, c_X8_tagsOf_0, c_X8_tagsOf_1, c_X8_tagsOf_2, c_X8_tagsOf_3, c_X8_tagsOf_4, c_X8_tagsOf_5, c_X8_tagsOf_6, c_X8_tagsOf_7, c_X8_tagsOf_8, c_X8_tagsOf_9, c_X8_tagsOf_10, c_X8_tagsOf_11, c_X8_tagsOf_12, c_X8_tagsOf_13, c_X8_tagsOf_14, c_X8_tagsOf_15, c_X8_tagsOf_16, c_X8_tagsOf_17, c_X8_tagsOf_18, c_X8_tagsOf_19, c_X8_tagsOf_20, c_X8_tagsOf_21, c_X8_tagsOf_22, c_X8_tagsOf_23, c_X8_tagsOf_24, c_X8_tagsOf_25, c_X8_tagsOf_26, c_X8_tagsOf_27, c_X8_tagsOf_28, c_X8_tagsOf_29, c_X8_tagsOf_30, c_X8_tagsOf_31, o_aald, o_aload, o_bin, o_get, o_getr, o_goto, o_ic, o_icmp, o_if, o_iinc, o_iload, o_iret, o_istore, z_cv0, z_cl0, z_cv1, z_cl1, z_cv2, z_cl2, z_cv3, z_cl3, z_cv4, z_cl4, z_cv5, z_cl5, z_cv6, z_cl6, z_cv7, z_cl7, z_cv8, z_cl8, z_cv9, z_cl9, z_cv10, z_cl10, z_cv11, z_cl11, z_cv12, z_cl12, z_cv13, z_cl13, z_len, z_elt, z_isI, z_isJ, Nat.reduceEqDiff, Nat.reduceLeDiff, Nat.reduceLT, Nat.reduceSub, Nat.reduceMul, not_false_eq_true, not_true_eq_false, true_and, and_true, true_or, or_true, false_or, or_false, true_implies, false_implies, implies_true, forall_const, and_self, ne_eq, Classical.not_not, z_up1, z_up2, z_cp1, z_cp2, z_upL1, z_upL2, if_true, if_false, and_false, false_and, f1, f2, f3, f4, f5]) | (with_reducible refine And.intro ?_ ?_) | (with_reducible intro _))
    all_goals (first | (with_reducible exact ih) | ((try simp only [ge_iff_le, gt_iff_lt, ← Int32.not_lt, Classical.not_not] at *); (first | (with_reducible rfl) | rfl | (with_reducible exact z_vi_24 (by assumption) (by assumption)) | (with_reducible exact z_vi_4 (by assumption) (by assumption)) | (with_reducible exact z_vi_512 (by assumption) (by assumption)) | (with_reducible exact z_vi_14 (by assumption) (by assumption)) | (with_reducible exact z_vi_8 (by assumption) (by assumption)) | (with_reducible exact z_vinN (by assumption) (by assumption) (by decide)) | (with_reducible exact z_vin1 (by assumption) (by assumption) (by decide)) | ((try simp only [z_mk] at ih); (try simp only [ge_iff_le, gt_iff_lt, ← Int32.not_lt, Classical.not_not] at ih); (try simp only [*, if_true, if_false, ite_self, true_or, or_true, false_or, or_false, true_and, and_true, false_and, and_false, not_true_eq_false, not_false_eq_true, cond_true, cond_false, decide_true, decide_false, Bool.true_and, Bool.and_true, Bool.false_and, Bool.and_false, Bool.true_or, Bool.or_true, Bool.false_or, Bool.or_false, Bool.not_true, Bool.not_false, ne_eq, Nat.reduceEqDiff] at ih); with_reducible exact ih))) | (simp_all [z_mk]; done))
theorem e_X8_isJammed {h : Nat} {a0 : zId} {a1 : zId} {a2 : Int32} {M : zMem} {K : zK} (ha0 : (a0.1 == 99) = false) (ha1 : (a1.1 == 99) = false) (q : z_run (z_nop k_X8_isJammed) (z_call h) K 0 [.inr (.inr a0), .inr (.inr a1), .inl a2, z_un, z_un, z_un] [] M) : z_call (h + 1) 114 [.inr (.inr a0), .inr (.inr a1), .inl a2] M K := ⟨by simp only [List.all_cons, List.all_nil, z_isU, ha0, ha1]; rfl, q⟩
theorem c_X8_isJammed_0 : z_nop k_X8_isJammed 0 = o_aload 0 := rfl
theorem c_X8_isJammed_1 : z_nop k_X8_isJammed 1 = o_aload 1 := rfl
theorem c_X8_isJammed_2 : z_nop k_X8_isJammed 2 = o_get 7 4 := rfl
theorem c_X8_isJammed_3 : z_nop k_X8_isJammed 3 = o_callv 9 92 2 := rfl
theorem c_X8_isJammed_4 : z_nop k_X8_isJammed 4 = o_astore 3 := rfl
theorem c_X8_isJammed_5 : z_nop k_X8_isJammed 5 = o_aload 3 := rfl
theorem c_X8_isJammed_6 : z_nop k_X8_isJammed 6 = o_ifnonnull 9 := rfl
theorem c_X8_isJammed_7 : z_nop k_X8_isJammed 7 = o_ic 0 := rfl
theorem c_X8_isJammed_8 : z_nop k_X8_isJammed 8 = o_zret := rfl
theorem c_X8_isJammed_9 : z_nop k_X8_isJammed 9 = o_ic 0 := rfl
theorem c_X8_isJammed_10 : z_nop k_X8_isJammed 10 = o_istore 4 := rfl
theorem c_X8_isJammed_11 : z_nop k_X8_isJammed 11 = o_iload 4 := rfl
theorem c_X8_isJammed_12 : z_nop k_X8_isJammed 12 = o_ic 4 := rfl
theorem c_X8_isJammed_13 : z_nop k_X8_isJammed 13 = o_icmp (fun x y => x ≥ y) 47 := rfl
theorem c_X8_isJammed_14 : z_nop k_X8_isJammed 14 = o_iload 2 := rfl
theorem c_X8_isJammed_15 : z_nop k_X8_isJammed 15 = o_iload 4 := rfl
theorem c_X8_isJammed_16 : z_nop k_X8_isJammed 16 = o_bin (fun x y => x >>> (y &&& 31)) := rfl
theorem c_X8_isJammed_17 : z_nop k_X8_isJammed 17 = o_ic 1 := rfl
theorem c_X8_isJammed_18 : z_nop k_X8_isJammed 18 = o_bin (fun x y => x &&& y) := rfl
theorem c_X8_isJammed_19 : z_nop k_X8_isJammed 19 = o_ic 1 := rfl
theorem c_X8_isJammed_20 : z_nop k_X8_isJammed 20 = o_icmp (fun x y => x ≠ y) 27 := rfl
theorem c_X8_isJammed_21 : z_nop k_X8_isJammed 21 = o_aload 1 := rfl
theorem c_X8_isJammed_22 : z_nop k_X8_isJammed 22 = o_iload 4 := rfl
theorem c_X8_isJammed_23 : z_nop k_X8_isJammed 23 = o_callv 7 82 2 := rfl
theorem c_X8_isJammed_24 : z_nop k_X8_isJammed 24 = o_if (fun x => x = 0) 27 := rfl
theorem c_X8_isJammed_25 : z_nop k_X8_isJammed 25 = o_ic 1 := rfl
theorem c_X8_isJammed_26 : z_nop k_X8_isJammed 26 = o_goto 28 := rfl
theorem c_X8_isJammed_27 : z_nop k_X8_isJammed 27 = o_ic 0 := rfl
theorem c_X8_isJammed_28 : z_nop k_X8_isJammed 28 = o_istore 5 := rfl
theorem c_X8_isJammed_29 : z_nop k_X8_isJammed 29 = o_iload 4 := rfl
theorem c_X8_isJammed_30 : z_nop k_X8_isJammed 30 = o_aload 1 := rfl
theorem c_X8_isJammed_31 : z_nop k_X8_isJammed 31 = o_get 7 4 := rfl
theorem c_X8_isJammed_32 : z_nop k_X8_isJammed 32 = o_icmp (fun x y => x = y) 45 := rfl
theorem c_X8_isJammed_33 : z_nop k_X8_isJammed 33 = o_iload 5 := rfl
theorem c_X8_isJammed_34 : z_nop k_X8_isJammed 34 = o_if (fun x => x = 0) 45 := rfl
theorem c_X8_isJammed_35 : z_nop k_X8_isJammed 35 = o_aload 0 := rfl
theorem c_X8_isJammed_36 : z_nop k_X8_isJammed 36 = o_getr 9 (fun w i => (31, w, 0)) := rfl
theorem c_X8_isJammed_37 : z_nop k_X8_isJammed 37 = o_iload 4 := rfl
theorem c_X8_isJammed_38 : z_nop k_X8_isJammed 38 = o_aald := rfl
theorem c_X8_isJammed_39 : z_nop k_X8_isJammed 39 = o_get 4 4 := rfl
theorem c_X8_isJammed_40 : z_nop k_X8_isJammed 40 = o_aload 3 := rfl
theorem c_X8_isJammed_41 : z_nop k_X8_isJammed 41 = o_get 4 4 := rfl
theorem c_X8_isJammed_42 : z_nop k_X8_isJammed 42 = o_icmp (fun x y => x ≠ y) 45 := rfl
theorem c_X8_isJammed_43 : z_nop k_X8_isJammed 43 = o_ic 1 := rfl
theorem c_X8_isJammed_44 : z_nop k_X8_isJammed 44 = o_zret := rfl
theorem c_X8_isJammed_45 : z_nop k_X8_isJammed 45 = o_iinc 4 1 := rfl
theorem c_X8_isJammed_46 : z_nop k_X8_isJammed 46 = o_goto 11 := rfl
theorem c_X8_isJammed_47 : z_nop k_X8_isJammed 47 = o_ic 0 := rfl
theorem c_X8_isJammed_48 : z_nop k_X8_isJammed 48 = o_zret := rfl

def p_jam (M : zMem) (w i : Nat) (b : Nat) (tk : Int32) (o : Nat) : Bool := decide ((¬ nI o = M.1 7 w i 4 ∧ (tk >>> (nI o &&& 31) &&& 1 = 1 ∧ ¬ r_isReachedBy M w i (nI o) = 0)) ∧ M.1 4 w o 4 = M.1 4 w b 4)
def r_isJammed (M : zMem) (w i : Nat) (tk : Int32) : Int32 :=
  if M.1 7 w i 4 < 0 ∨ M.1 7 w i 4 ≥ 4 then 0 else if z_ex (p_jam M w i (M.1 7 w i 4).toNatClampNeg tk) 4 0 = true then 1 else 0
set_option maxRecDepth 100000 in
theorem s_isJammed {h w i : Nat} {M : zMem} {tk : Int32} {K : zK} (q : K (some (.inl (r_isJammed M w i tk))) M) : z_call (h + 2) 114 [.inr (.inr (9, w, 0)), .inr (.inr (7, w, i)), .inl tk] M K := by
  unfold r_isJammed at q
  refine e_X8_isJammed rfl rfl ?_
  refine z_wp_run (cut := [4, 11, 24]) 60 _ _ _ _ ?_
  simp only [z_wp, Bool.false_eq_true, ↓reduceIte, z_e10, z_e01, eq_self, Int32.reduceLT, Int32.reduceLE, Int32.reduceGT, Int32.reduceGE, z_in, cond_true, cond_false, Nat.reduceAdd, Nat.reduceBEq, z_nth, z_set, z_clr, z_st1, z_st2, z_isL, z_opt, z_pop, z_cats, z_cat, c_X8_isJammed_0, c_X8_isJammed_1, c_X8_isJammed_2, c_X8_isJammed_3, c_X8_isJammed_4, c_X8_isJammed_5, c_X8_isJammed_6, c_X8_isJammed_7, c_X8_isJammed_8, c_X8_isJammed_9, c_X8_isJammed_10, c_X8_isJammed_11, c_X8_isJammed_12, c_X8_isJammed_13, c_X8_isJammed_14, c_X8_isJammed_15, c_X8_isJammed_16, c_X8_isJammed_17, c_X8_isJammed_18, c_X8_isJammed_19, c_X8_isJammed_20, c_X8_isJammed_21, c_X8_isJammed_22, c_X8_isJammed_23, c_X8_isJammed_24, c_X8_isJammed_25, c_X8_isJammed_26, c_X8_isJammed_27, c_X8_isJammed_28, c_X8_isJammed_29, c_X8_isJammed_30, c_X8_isJammed_31, c_X8_isJammed_32, c_X8_isJammed_33, c_X8_isJammed_34, c_X8_isJammed_35, c_X8_isJammed_36, c_X8_isJammed_37, c_X8_isJammed_38, c_X8_isJammed_39, c_X8_isJammed_40, c_X8_isJammed_41, c_X8_isJammed_42, c_X8_isJammed_43, c_X8_isJammed_44, c_X8_isJammed_45, c_X8_isJammed_46, c_X8_isJammed_47, c_X8_isJammed_48, o_aald, o_aload, o_astore, o_bin, o_callv, o_get, o_getr, o_goto, o_ic, o_icmp, o_if, o_ifnonnull, o_iinc, o_iload, o_istore, o_zret, z_cv0, z_cl0, z_cv1, z_cl1, z_cv2, z_cl2, z_cv3, z_cl3, z_cv4, z_cl4, z_cv5, z_cl5, z_cv6, z_cl6, z_cv7, z_cl7, z_cv8, z_cl8, z_cv9, z_cl9, z_cv10, z_cl10, z_cv11, z_cl11, z_cv12, z_cl12, z_cv13, z_cl13, z_len, z_elt, z_isI, z_isJ, Nat.reduceEqDiff, Nat.reduceLeDiff, Nat.reduceLT, Nat.reduceSub, Nat.reduceMul, not_false_eq_true, not_true_eq_false, true_and, and_true, true_or, or_true, false_or, or_false, true_implies, false_implies, implies_true, forall_const, and_self, ne_eq, Classical.not_not, z_up1, z_up2, z_cp1, z_cp2, z_upL1, z_upL2, if_true, if_false, and_false, false_and]
  refine s_readerAt ?_
  unfold r_readerAt
  by_cases hb : M.1 7 w i 4 < 0 ∨ M.1 7 w i 4 ≥ 4
  · rw [if_pos hb] at q ⊢
    refine z_go (cut := [4, 11, 24]) 51 ?_
    simp only [z_wp, Bool.false_eq_true, ↓reduceIte, z_e10, z_e01, eq_self, Int32.reduceLT, Int32.reduceLE, Int32.reduceGT, Int32.reduceGE, z_in, cond_true, cond_false, Nat.reduceAdd, Nat.reduceBEq, z_nth, z_set, z_clr, z_st1, z_st2, z_isL, z_opt, z_pop, z_cats, z_cat, c_X8_isJammed_0, c_X8_isJammed_1, c_X8_isJammed_2, c_X8_isJammed_3, c_X8_isJammed_4, c_X8_isJammed_5, c_X8_isJammed_6, c_X8_isJammed_7, c_X8_isJammed_8, c_X8_isJammed_9, c_X8_isJammed_10, c_X8_isJammed_11, c_X8_isJammed_12, c_X8_isJammed_13, c_X8_isJammed_14, c_X8_isJammed_15, c_X8_isJammed_16, c_X8_isJammed_17, c_X8_isJammed_18, c_X8_isJammed_19, c_X8_isJammed_20, c_X8_isJammed_21, c_X8_isJammed_22, c_X8_isJammed_23, c_X8_isJammed_24, c_X8_isJammed_25, c_X8_isJammed_26, c_X8_isJammed_27, c_X8_isJammed_28, c_X8_isJammed_29, c_X8_isJammed_30, c_X8_isJammed_31, c_X8_isJammed_32, c_X8_isJammed_33, c_X8_isJammed_34, c_X8_isJammed_35, c_X8_isJammed_36, c_X8_isJammed_37, c_X8_isJammed_38, c_X8_isJammed_39, c_X8_isJammed_40, c_X8_isJammed_41, c_X8_isJammed_42, c_X8_isJammed_43, c_X8_isJammed_44, c_X8_isJammed_45, c_X8_isJammed_46, c_X8_isJammed_47, c_X8_isJammed_48, o_aald, o_aload, o_astore, o_bin, o_callv, o_get, o_getr, o_goto, o_ic, o_icmp, o_if, o_ifnonnull, o_iinc, o_iload, o_istore, o_zret, z_cv0, z_cl0, z_cv1, z_cl1, z_cv2, z_cl2, z_cv3, z_cl3, z_cv4, z_cl4, z_cv5, z_cl5, z_cv6, z_cl6, z_cv7, z_cl7, z_cv8, z_cl8, z_cv9, z_cl9, z_cv10, z_cl10, z_cv11, z_cl11, z_cv12, z_cl12, z_cv13, z_cl13, z_len, z_elt, z_isI, z_isJ, Nat.reduceEqDiff, Nat.reduceLeDiff, Nat.reduceLT, Nat.reduceSub, Nat.reduceMul, not_false_eq_true, not_true_eq_false, true_and, and_true, true_or, or_true, false_or, or_false, true_implies, false_implies, implies_true, forall_const, and_self, ne_eq, Classical.not_not, z_up1, z_up2, z_cp1, z_cp2, z_upL1, z_upL2, if_true, if_false, and_false, false_and]
    exact q
  · rw [if_neg hb] at q ⊢
    refine z_go (cut := [4, 11, 24]) 51 ?_
    simp only [z_wp, Bool.false_eq_true, ↓reduceIte, z_e10, z_e01, eq_self, Int32.reduceLT, Int32.reduceLE, Int32.reduceGT, Int32.reduceGE, z_in, cond_true, cond_false, Nat.reduceAdd, Nat.reduceBEq, z_nth, z_set, z_clr, z_st1, z_st2, z_isL, z_opt, z_pop, z_cats, z_cat, c_X8_isJammed_0, c_X8_isJammed_1, c_X8_isJammed_2, c_X8_isJammed_3, c_X8_isJammed_4, c_X8_isJammed_5, c_X8_isJammed_6, c_X8_isJammed_7, c_X8_isJammed_8, c_X8_isJammed_9, c_X8_isJammed_10, c_X8_isJammed_11, c_X8_isJammed_12, c_X8_isJammed_13, c_X8_isJammed_14, c_X8_isJammed_15, c_X8_isJammed_16, c_X8_isJammed_17, c_X8_isJammed_18, c_X8_isJammed_19, c_X8_isJammed_20, c_X8_isJammed_21, c_X8_isJammed_22, c_X8_isJammed_23, c_X8_isJammed_24, c_X8_isJammed_25, c_X8_isJammed_26, c_X8_isJammed_27, c_X8_isJammed_28, c_X8_isJammed_29, c_X8_isJammed_30, c_X8_isJammed_31, c_X8_isJammed_32, c_X8_isJammed_33, c_X8_isJammed_34, c_X8_isJammed_35, c_X8_isJammed_36, c_X8_isJammed_37, c_X8_isJammed_38, c_X8_isJammed_39, c_X8_isJammed_40, c_X8_isJammed_41, c_X8_isJammed_42, c_X8_isJammed_43, c_X8_isJammed_44, c_X8_isJammed_45, c_X8_isJammed_46, c_X8_isJammed_47, c_X8_isJammed_48, o_aald, o_aload, o_astore, o_bin, o_callv, o_get, o_getr, o_goto, o_ic, o_icmp, o_if, o_ifnonnull, o_iinc, o_iload, o_istore, o_zret, z_cv0, z_cl0, z_cv1, z_cl1, z_cv2, z_cl2, z_cv3, z_cl3, z_cv4, z_cl4, z_cv5, z_cl5, z_cv6, z_cl6, z_cv7, z_cl7, z_cv8, z_cl8, z_cv9, z_cl9, z_cv10, z_cl10, z_cv11, z_cl11, z_cv12, z_cl12, z_cv13, z_cl13, z_len, z_elt, z_isI, z_isJ, Nat.reduceEqDiff, Nat.reduceLeDiff, Nat.reduceLT, Nat.reduceSub, Nat.reduceMul, not_false_eq_true, not_true_eq_false, true_and, and_true, true_or, or_true, false_or, or_false, true_implies, false_implies, implies_true, forall_const, and_self, ne_eq, Classical.not_not, z_up1, z_up2, z_cp1, z_cp2, z_upL1, z_upL2, if_true, if_false, and_false, false_and]
    have key := z_loop (fun n => ∀ v, K (some (.inl (if z_ex (p_jam M w i (M.1 7 w i 4).toNatClampNeg tk) (4 - n) n = true then 1 else 0))) M → z_run (z_nop k_X8_isJammed) (z_call (h + 1)) K 11 [.inr (.inr (9, w, 0)), .inr (.inr (7, w, i)), .inl tk, .inr (.inr (4, w, (M.1 7 w i 4).toNatClampNeg)), .inl (nI n), v] [] M) 4 ?_ ?_ 0 (by omega)
    · exact key _ q
    · intro v q
      obtain ⟨f1, f2⟩ := z_eq4
      refine z_go (cut := [4, 11, 24]) 51 ?_
      simp only [z_wp, Bool.false_eq_true, ↓reduceIte, z_e10, z_e01, eq_self, Int32.reduceLT, Int32.reduceLE, Int32.reduceGT, Int32.reduceGE, z_in, cond_true, cond_false, Nat.reduceAdd, Nat.reduceBEq, z_nth, z_set, z_clr, z_st1, z_st2, z_isL, z_opt, z_pop, z_cats, z_cat, c_X8_isJammed_0, c_X8_isJammed_1, c_X8_isJammed_2, c_X8_isJammed_3, c_X8_isJammed_4, c_X8_isJammed_5, c_X8_isJammed_6, c_X8_isJammed_7, c_X8_isJammed_8, c_X8_isJammed_9, c_X8_isJammed_10, c_X8_isJammed_11, c_X8_isJammed_12, c_X8_isJammed_13, c_X8_isJammed_14, c_X8_isJammed_15, c_X8_isJammed_16, c_X8_isJammed_17, c_X8_isJammed_18, c_X8_isJammed_19, c_X8_isJammed_20, c_X8_isJammed_21, c_X8_isJammed_22, c_X8_isJammed_23, c_X8_isJammed_24, c_X8_isJammed_25, c_X8_isJammed_26, c_X8_isJammed_27, c_X8_isJammed_28, c_X8_isJammed_29, c_X8_isJammed_30, c_X8_isJammed_31, c_X8_isJammed_32, c_X8_isJammed_33, c_X8_isJammed_34, c_X8_isJammed_35, c_X8_isJammed_36, c_X8_isJammed_37, c_X8_isJammed_38, c_X8_isJammed_39, c_X8_isJammed_40, c_X8_isJammed_41, c_X8_isJammed_42, c_X8_isJammed_43, c_X8_isJammed_44, c_X8_isJammed_45, c_X8_isJammed_46, c_X8_isJammed_47, c_X8_isJammed_48, o_aald, o_aload, o_astore, o_bin, o_callv, o_get, o_getr, o_goto, o_ic, o_icmp, o_if, o_ifnonnull, o_iinc, o_iload, o_istore, o_zret, z_cv0, z_cl0, z_cv1, z_cl1, z_cv2, z_cl2, z_cv3, z_cl3, z_cv4, z_cl4, z_cv5, z_cl5, z_cv6, z_cl6, z_cv7, z_cl7, z_cv8, z_cl8, z_cv9, z_cl9, z_cv10, z_cl10, z_cv11, z_cl11, z_cv12, z_cl12, z_cv13, z_cl13, z_len, z_elt, z_isI, z_isJ, Nat.reduceEqDiff, Nat.reduceLeDiff, Nat.reduceLT, Nat.reduceSub, Nat.reduceMul, not_false_eq_true, not_true_eq_false, true_and, and_true, true_or, or_true, false_or, or_false, true_implies, false_implies, implies_true, forall_const, and_self, ne_eq, Classical.not_not, z_up1, z_up2, z_cp1, z_cp2, z_upL1, z_upL2, if_true, if_false, and_false, false_and, f1, f2]
      exact q
    · intro n hn ih v q
      obtain ⟨f1, f2, f3, f4, f5⟩ := z_lt4 hn
      rw [show 4 - n = (4 - (n + 1)) + 1 by omega] at q
      unfold z_ex at q
      have tail : ∀ u : Int32, (u = 0 ↔ ¬ (tk >>> (nI n &&& 31) &&& 1 = 1 ∧ ¬ r_isReachedBy M w i (nI n) = 0)) → z_run (z_nop k_X8_isJammed) (z_call (h + 1)) K 28 [.inr (.inr (9, w, 0)), .inr (.inr (7, w, i)), .inl tk, .inr (.inr (4, w, (M.1 7 w i 4).toNatClampNeg)), .inl (nI n), v] [.inl u] M := by
        intro u hu
        refine z_go (cut := [4, 11, 24]) 51 ?_
        simp only [z_wp, Bool.false_eq_true, ↓reduceIte, z_e10, z_e01, eq_self, Int32.reduceLT, Int32.reduceLE, Int32.reduceGT, Int32.reduceGE, z_in, cond_true, cond_false, Nat.reduceAdd, Nat.reduceBEq, z_nth, z_set, z_clr, z_st1, z_st2, z_isL, z_opt, z_pop, z_cats, z_cat, c_X8_isJammed_0, c_X8_isJammed_1, c_X8_isJammed_2, c_X8_isJammed_3, c_X8_isJammed_4, c_X8_isJammed_5, c_X8_isJammed_6, c_X8_isJammed_7, c_X8_isJammed_8, c_X8_isJammed_9, c_X8_isJammed_10, c_X8_isJammed_11, c_X8_isJammed_12, c_X8_isJammed_13, c_X8_isJammed_14, c_X8_isJammed_15, c_X8_isJammed_16, c_X8_isJammed_17, c_X8_isJammed_18, c_X8_isJammed_19, c_X8_isJammed_20, c_X8_isJammed_21, c_X8_isJammed_22, c_X8_isJammed_23, c_X8_isJammed_24, c_X8_isJammed_25, c_X8_isJammed_26, c_X8_isJammed_27, c_X8_isJammed_28, c_X8_isJammed_29, c_X8_isJammed_30, c_X8_isJammed_31, c_X8_isJammed_32, c_X8_isJammed_33, c_X8_isJammed_34, c_X8_isJammed_35, c_X8_isJammed_36, c_X8_isJammed_37, c_X8_isJammed_38, c_X8_isJammed_39, c_X8_isJammed_40, c_X8_isJammed_41, c_X8_isJammed_42, c_X8_isJammed_43, c_X8_isJammed_44, c_X8_isJammed_45, c_X8_isJammed_46, c_X8_isJammed_47, c_X8_isJammed_48, o_aald, o_aload, o_astore, o_bin, o_callv, o_get, o_getr, o_goto, o_ic, o_icmp, o_if, o_ifnonnull, o_iinc, o_iload, o_istore, o_zret, z_cv0, z_cl0, z_cv1, z_cl1, z_cv2, z_cl2, z_cv3, z_cl3, z_cv4, z_cl4, z_cv5, z_cl5, z_cv6, z_cl6, z_cv7, z_cl7, z_cv8, z_cl8, z_cv9, z_cl9, z_cv10, z_cl10, z_cv11, z_cl11, z_cv12, z_cl12, z_cv13, z_cl13, z_len, z_elt, z_isI, z_isJ, Nat.reduceEqDiff, Nat.reduceLeDiff, Nat.reduceLT, Nat.reduceSub, Nat.reduceMul, not_false_eq_true, not_true_eq_false, true_and, and_true, true_or, or_true, false_or, or_false, true_implies, false_implies, implies_true, forall_const, and_self, ne_eq, Classical.not_not, z_up1, z_up2, z_cp1, z_cp2, z_upL1, z_upL2, if_true, if_false, and_false, false_and, f1, f2, f3, f4, f5]
        by_cases c1 : nI n = M.1 7 w i 4
        · refine ⟨fun _ => ih _ ?_, fun c => absurd c1 c⟩
          simpa [p_jam, c1] using q
        · refine ⟨fun c => absurd c c1, fun _ => ⟨fun c => ih _ ?_, fun c => ⟨fun c3 => ih _ ?_, fun c3 => ?_⟩⟩⟩
          · have h9 := hu.mp c
            have e : p_jam M w i (M.1 7 w i 4).toNatClampNeg tk n = false := decide_eq_false (fun z => h9 z.1.2)
            rw [e] at q
            simpa using q
          · have e : p_jam M w i (M.1 7 w i 4).toNatClampNeg tk n = false := decide_eq_false (fun z => c3 z.2)
            rw [e] at q
            simpa using q
          · have h9 : tk >>> (nI n &&& 31) &&& 1 = 1 ∧ ¬ r_isReachedBy M w i (nI n) = 0 := Classical.byContradiction fun z => c (hu.mpr z)
            have e : p_jam M w i (M.1 7 w i 4).toNatClampNeg tk n = true := decide_eq_true ⟨⟨c1, h9⟩, c3⟩
            rw [e] at q
            simpa using q
      refine z_go (cut := [4, 11, 24, 28]) 60 ?_
      simp only [z_wp, Bool.false_eq_true, ↓reduceIte, z_e10, z_e01, eq_self, Int32.reduceLT, Int32.reduceLE, Int32.reduceGT, Int32.reduceGE, z_in, cond_true, cond_false, Nat.reduceAdd, Nat.reduceBEq, z_nth, z_set, z_clr, z_st1, z_st2, z_isL, z_opt, z_pop, z_cats, z_cat, c_X8_isJammed_0, c_X8_isJammed_1, c_X8_isJammed_2, c_X8_isJammed_3, c_X8_isJammed_4, c_X8_isJammed_5, c_X8_isJammed_6, c_X8_isJammed_7, c_X8_isJammed_8, c_X8_isJammed_9, c_X8_isJammed_10, c_X8_isJammed_11, c_X8_isJammed_12, c_X8_isJammed_13, c_X8_isJammed_14, c_X8_isJammed_15, c_X8_isJammed_16, c_X8_isJammed_17, c_X8_isJammed_18, c_X8_isJammed_19, c_X8_isJammed_20, c_X8_isJammed_21, c_X8_isJammed_22, c_X8_isJammed_23, c_X8_isJammed_24, c_X8_isJammed_25, c_X8_isJammed_26, c_X8_isJammed_27, c_X8_isJammed_28, c_X8_isJammed_29, c_X8_isJammed_30, c_X8_isJammed_31, c_X8_isJammed_32, c_X8_isJammed_33, c_X8_isJammed_34, c_X8_isJammed_35, c_X8_isJammed_36, c_X8_isJammed_37, c_X8_isJammed_38, c_X8_isJammed_39, c_X8_isJammed_40, c_X8_isJammed_41, c_X8_isJammed_42, c_X8_isJammed_43, c_X8_isJammed_44, c_X8_isJammed_45, c_X8_isJammed_46, c_X8_isJammed_47, c_X8_isJammed_48, o_aald, o_aload, o_astore, o_bin, o_callv, o_get, o_getr, o_goto, o_ic, o_icmp, o_if, o_ifnonnull, o_iinc, o_iload, o_istore, o_zret, z_cv0, z_cl0, z_cv1, z_cl1, z_cv2, z_cl2, z_cv3, z_cl3, z_cv4, z_cl4, z_cv5, z_cl5, z_cv6, z_cl6, z_cv7, z_cl7, z_cv8, z_cl8, z_cv9, z_cl9, z_cv10, z_cl10, z_cv11, z_cl11, z_cv12, z_cl12, z_cv13, z_cl13, z_len, z_elt, z_isI, z_isJ, Nat.reduceEqDiff, Nat.reduceLeDiff, Nat.reduceLT, Nat.reduceSub, Nat.reduceMul, not_false_eq_true, not_true_eq_false, true_and, and_true, true_or, or_true, false_or, or_false, true_implies, false_implies, implies_true, forall_const, and_self, ne_eq, Classical.not_not, z_up1, z_up2, z_cp1, z_cp2, z_upL1, z_upL2, if_true, if_false, and_false, false_and, f1, f2, f3, f4, f5]
      refine ⟨fun c => tail 0 ⟨fun _ z => c z.1, fun _ => rfl⟩, fun c => s_isReachedBy ?_⟩
      refine z_go (cut := [4, 11, 24, 28]) 60 ?_
      simp only [z_wp, Bool.false_eq_true, ↓reduceIte, z_e10, z_e01, eq_self, Int32.reduceLT, Int32.reduceLE, Int32.reduceGT, Int32.reduceGE, z_in, cond_true, cond_false, Nat.reduceAdd, Nat.reduceBEq, z_nth, z_set, z_clr, z_st1, z_st2, z_isL, z_opt, z_pop, z_cats, z_cat, c_X8_isJammed_0, c_X8_isJammed_1, c_X8_isJammed_2, c_X8_isJammed_3, c_X8_isJammed_4, c_X8_isJammed_5, c_X8_isJammed_6, c_X8_isJammed_7, c_X8_isJammed_8, c_X8_isJammed_9, c_X8_isJammed_10, c_X8_isJammed_11, c_X8_isJammed_12, c_X8_isJammed_13, c_X8_isJammed_14, c_X8_isJammed_15, c_X8_isJammed_16, c_X8_isJammed_17, c_X8_isJammed_18, c_X8_isJammed_19, c_X8_isJammed_20, c_X8_isJammed_21, c_X8_isJammed_22, c_X8_isJammed_23, c_X8_isJammed_24, c_X8_isJammed_25, c_X8_isJammed_26, c_X8_isJammed_27, c_X8_isJammed_28, c_X8_isJammed_29, c_X8_isJammed_30, c_X8_isJammed_31, c_X8_isJammed_32, c_X8_isJammed_33, c_X8_isJammed_34, c_X8_isJammed_35, c_X8_isJammed_36, c_X8_isJammed_37, c_X8_isJammed_38, c_X8_isJammed_39, c_X8_isJammed_40, c_X8_isJammed_41, c_X8_isJammed_42, c_X8_isJammed_43, c_X8_isJammed_44, c_X8_isJammed_45, c_X8_isJammed_46, c_X8_isJammed_47, c_X8_isJammed_48, o_aald, o_aload, o_astore, o_bin, o_callv, o_get, o_getr, o_goto, o_ic, o_icmp, o_if, o_ifnonnull, o_iinc, o_iload, o_istore, o_zret, z_cv0, z_cl0, z_cv1, z_cl1, z_cv2, z_cl2, z_cv3, z_cl3, z_cv4, z_cl4, z_cv5, z_cl5, z_cv6, z_cl6, z_cv7, z_cl7, z_cv8, z_cl8, z_cv9, z_cl9, z_cv10, z_cl10, z_cv11, z_cl11, z_cv12, z_cl12, z_cv13, z_cl13, z_len, z_elt, z_isI, z_isJ, Nat.reduceEqDiff, Nat.reduceLeDiff, Nat.reduceLT, Nat.reduceSub, Nat.reduceMul, not_false_eq_true, not_true_eq_false, true_and, and_true, true_or, or_true, false_or, or_false, true_implies, false_implies, implies_true, forall_const, and_self, ne_eq, Classical.not_not, z_up1, z_up2, z_cp1, z_cp2, z_upL1, z_upL2, if_true, if_false, and_false, false_and, f1, f2, f3, f4, f5]
      refine ⟨fun c2 => tail 0 ⟨fun _ z => z.2 c2, fun _ => rfl⟩, fun c2 => tail 1 ⟨fun z => absurd z (by decide), fun z => absurd ⟨c, c2⟩ z⟩⟩
theorem e_X8_tagsJammed {h : Nat} {a0 : zId} {a1 : Int32} {M : zMem} {K : zK} (ha0 : (a0.1 == 99) = false) (q : z_run (z_nop k_X8_tagsJammed) (z_call h) K 0 [.inr (.inr a0), .inl a1, z_un, z_un] [] M) : z_call (h + 1) 113 [.inr (.inr a0), .inl a1] M K := ⟨by simp only [List.all_cons, List.all_nil, z_isU, ha0]; rfl, q⟩
theorem c_X8_tagsJammed_0 : z_nop k_X8_tagsJammed 0 = o_ic 0 := rfl
theorem c_X8_tagsJammed_1 : z_nop k_X8_tagsJammed 1 = o_istore 2 := rfl
theorem c_X8_tagsJammed_2 : z_nop k_X8_tagsJammed 2 = o_ic 0 := rfl
theorem c_X8_tagsJammed_3 : z_nop k_X8_tagsJammed 3 = o_istore 3 := rfl
theorem c_X8_tagsJammed_4 : z_nop k_X8_tagsJammed 4 = o_iload 3 := rfl
theorem c_X8_tagsJammed_5 : z_nop k_X8_tagsJammed 5 = o_ic 24 := rfl
theorem c_X8_tagsJammed_6 : z_nop k_X8_tagsJammed 6 = o_icmp (fun x y => x ≥ y) 31 := rfl
theorem c_X8_tagsJammed_7 : z_nop k_X8_tagsJammed 7 = o_iload 2 := rfl
theorem c_X8_tagsJammed_8 : z_nop k_X8_tagsJammed 8 = o_aload 0 := rfl
theorem c_X8_tagsJammed_9 : z_nop k_X8_tagsJammed 9 = o_getr 9 (fun w i => (30, w, 0)) := rfl
theorem c_X8_tagsJammed_10 : z_nop k_X8_tagsJammed 10 = o_iload 3 := rfl
theorem c_X8_tagsJammed_11 : z_nop k_X8_tagsJammed 11 = o_aald := rfl
theorem c_X8_tagsJammed_12 : z_nop k_X8_tagsJammed 12 = o_get 7 0 := rfl
theorem c_X8_tagsJammed_13 : z_nop k_X8_tagsJammed 13 = o_if (fun x => x = 0) 26 := rfl
theorem c_X8_tagsJammed_14 : z_nop k_X8_tagsJammed 14 = o_aload 0 := rfl
theorem c_X8_tagsJammed_15 : z_nop k_X8_tagsJammed 15 = o_aload 0 := rfl
theorem c_X8_tagsJammed_16 : z_nop k_X8_tagsJammed 16 = o_getr 9 (fun w i => (30, w, 0)) := rfl
theorem c_X8_tagsJammed_17 : z_nop k_X8_tagsJammed 17 = o_iload 3 := rfl
theorem c_X8_tagsJammed_18 : z_nop k_X8_tagsJammed 18 = o_aald := rfl
theorem c_X8_tagsJammed_19 : z_nop k_X8_tagsJammed 19 = o_iload 1 := rfl
theorem c_X8_tagsJammed_20 : z_nop k_X8_tagsJammed 20 = o_callv 9 114 3 := rfl
theorem c_X8_tagsJammed_21 : z_nop k_X8_tagsJammed 21 = o_if (fun x => x = 0) 26 := rfl
theorem c_X8_tagsJammed_22 : z_nop k_X8_tagsJammed 22 = o_ic 1 := rfl
theorem c_X8_tagsJammed_23 : z_nop k_X8_tagsJammed 23 = o_iload 3 := rfl
theorem c_X8_tagsJammed_24 : z_nop k_X8_tagsJammed 24 = o_bin (fun x y => x <<< (y &&& 31)) := rfl
theorem c_X8_tagsJammed_25 : z_nop k_X8_tagsJammed 25 = o_goto 27 := rfl
theorem c_X8_tagsJammed_26 : z_nop k_X8_tagsJammed 26 = o_ic 0 := rfl
theorem c_X8_tagsJammed_27 : z_nop k_X8_tagsJammed 27 = o_bin (fun x y => x ||| y) := rfl
theorem c_X8_tagsJammed_28 : z_nop k_X8_tagsJammed 28 = o_istore 2 := rfl
theorem c_X8_tagsJammed_29 : z_nop k_X8_tagsJammed 29 = o_iinc 3 1 := rfl
theorem c_X8_tagsJammed_30 : z_nop k_X8_tagsJammed 30 = o_goto 4 := rfl
theorem c_X8_tagsJammed_31 : z_nop k_X8_tagsJammed 31 = o_iload 2 := rfl
theorem c_X8_tagsJammed_32 : z_nop k_X8_tagsJammed 32 = o_iret := rfl

def r_tagsJammed (M : zMem) (w : Nat) (tk : Int32) : Int32 := z_mk (fun i => decide (¬ M.1 7 w i 0 = 0 ∧ ¬ r_isJammed M w i tk = 0)) 24
set_option maxRecDepth 100000 in
theorem s_tagsJammed {h w : Nat} {M : zMem} {tk : Int32} {K : zK} (q : K (some (.inl (r_tagsJammed M w tk))) M) : z_call (h + 3) 113 [.inr (.inr (9, w, 0)), .inl tk] M K := by
  unfold r_tagsJammed at q
  refine e_X8_tagsJammed rfl ?_
  refine z_wp_run (cut := [4, 21]) 35 _ _ _ _ ?_
  repeat' (first | (simp only [z_wp, Bool.false_eq_true, ↓reduceIte, z_e10, z_e01, eq_self, Int32.reduceLT, Int32.reduceLE, Int32.reduceGT, Int32.reduceGE, z_in, cond_true, cond_false, Nat.reduceAdd, Nat.reduceBEq, z_nth, z_set, z_clr, z_st1, z_st2, z_isL, z_opt, z_pop, z_cats, z_cat, c_X8_tagsJammed_0, c_X8_tagsJammed_1, c_X8_tagsJammed_2, c_X8_tagsJammed_3, c_X8_tagsJammed_4, c_X8_tagsJammed_5, c_X8_tagsJammed_6, c_X8_tagsJammed_7, c_X8_tagsJammed_8, c_X8_tagsJammed_9, c_X8_tagsJammed_10, c_X8_tagsJammed_11, c_X8_tagsJammed_12, c_X8_tagsJammed_13, c_X8_tagsJammed_14, c_X8_tagsJammed_15, c_X8_tagsJammed_16, c_X8_tagsJammed_17, c_X8_tagsJammed_18, c_X8_tagsJammed_19, c_X8_tagsJammed_20, c_X8_tagsJammed_21, c_X8_tagsJammed_22, c_X8_tagsJammed_23, c_X8_tagsJammed_24, c_X8_tagsJammed_25, c_X8_tagsJammed_26, c_X8_tagsJammed_27, c_X8_tagsJammed_28, c_X8_tagsJammed_29, c_X8_tagsJammed_30, c_X8_tagsJammed_31, c_X8_tagsJammed_32, o_aald, o_aload, o_bin, o_callv, o_get, o_getr, o_goto, o_ic, o_icmp, o_if, o_iinc, o_iload, o_iret, o_istore, z_cv0, z_cl0, z_cv1, z_cl1, z_cv2, z_cl2, z_cv3, z_cl3, z_cv4, z_cl4, z_cv5, z_cl5, z_cv6, z_cl6, z_cv7, z_cl7, z_cv8, z_cl8, z_cv9, z_cl9, z_cv10, z_cl10, z_cv11, z_cl11, z_cv12, z_cl12, z_cv13, z_cl13, z_len, z_elt, z_isI, z_isJ, Nat.reduceEqDiff, Nat.reduceLeDiff, Nat.reduceLT, Nat.reduceSub, Nat.reduceMul, not_false_eq_true, not_true_eq_false, true_and, and_true, true_or, or_true, false_or, or_false, true_implies, false_implies, implies_true, forall_const, and_self, ne_eq, Classical.not_not, z_up1, z_up2, z_cp1, z_cp2, z_upL1, z_upL2, if_true, if_false, and_false, false_and]) | (with_reducible refine And.intro ?_ ?_) | (with_reducible intro _) | (with_reducible refine z_go (i := 21) (cut := [4, 21]) 35 ?_))
  refine z_loop (fun n => z_run (z_nop k_X8_tagsJammed) (z_call (h+ 2)) K 4 [.inr (.inr (9, w, 0)), .inl tk, .inl (z_mk (fun i => decide (¬ M.1 7 w i 0 = 0 ∧ ¬ r_isJammed M w i tk = 0)) n), .inl (nI n)] [] (M)) 24 ?_ ?_ 0 (by omega)
  · obtain ⟨f1, f2⟩ := z_eq24
    refine z_go (cut := [4, 21]) 35 ?_
    repeat' (first | (simp only [z_wp, Bool.false_eq_true, ↓reduceIte, z_e10, z_e01, eq_self, Int32.reduceLT, Int32.reduceLE, Int32.reduceGT, Int32.reduceGE, z_in, cond_true, cond_false, Nat.reduceAdd, Nat.reduceBEq, z_nth, z_set, z_clr, z_st1, z_st2, z_isL, z_opt, z_pop, z_cats, z_cat, c_X8_tagsJammed_0, c_X8_tagsJammed_1, c_X8_tagsJammed_2, c_X8_tagsJammed_3, c_X8_tagsJammed_4, c_X8_tagsJammed_5, c_X8_tagsJammed_6, c_X8_tagsJammed_7, c_X8_tagsJammed_8, c_X8_tagsJammed_9, c_X8_tagsJammed_10, c_X8_tagsJammed_11, c_X8_tagsJammed_12, c_X8_tagsJammed_13, c_X8_tagsJammed_14, c_X8_tagsJammed_15, c_X8_tagsJammed_16, c_X8_tagsJammed_17, c_X8_tagsJammed_18, c_X8_tagsJammed_19, c_X8_tagsJammed_20, c_X8_tagsJammed_21, c_X8_tagsJammed_22, c_X8_tagsJammed_23, c_X8_tagsJammed_24, c_X8_tagsJammed_25, c_X8_tagsJammed_26, c_X8_tagsJammed_27, c_X8_tagsJammed_28, c_X8_tagsJammed_29, c_X8_tagsJammed_30, c_X8_tagsJammed_31, c_X8_tagsJammed_32, o_aald, o_aload, o_bin, o_callv, o_get, o_getr, o_goto, o_ic, o_icmp, o_if, o_iinc, o_iload, o_iret, o_istore, z_cv0, z_cl0, z_cv1, z_cl1, z_cv2, z_cl2, z_cv3, z_cl3, z_cv4, z_cl4, z_cv5, z_cl5, z_cv6, z_cl6, z_cv7, z_cl7, z_cv8, z_cl8, z_cv9, z_cl9, z_cv10, z_cl10, z_cv11, z_cl11, z_cv12, z_cl12, z_cv13, z_cl13, z_len, z_elt, z_isI, z_isJ, Nat.reduceEqDiff, Nat.reduceLeDiff, Nat.reduceLT, Nat.reduceSub, Nat.reduceMul, not_false_eq_true, not_true_eq_false, true_and, and_true, true_or, or_true, false_or, or_false, true_implies, false_implies, implies_true, forall_const, and_self, ne_eq, Classical.not_not, z_up1, z_up2, z_cp1, z_cp2, z_upL1, z_upL2, if_true, if_false, and_false, false_and, f1, f2]) | (refine s_isJammed ?_) | (with_reducible refine And.intro ?_ ?_) | (with_reducible intro _) | (with_reducible refine z_go (i := 21) (cut := [4, 21]) 35 ?_))
    all_goals (first | (with_reducible exact q) | ((try simp only [ge_iff_le, gt_iff_lt, ← Int32.not_lt, Classical.not_not] at *); (first | (with_reducible rfl) | rfl | (with_reducible exact z_vi_24 (by assumption) (by assumption)) | (with_reducible exact z_vi_4 (by assumption) (by assumption)) | (with_reducible exact z_vi_512 (by assumption) (by assumption)) | (with_reducible exact z_vi_14 (by assumption) (by assumption)) | (with_reducible exact z_vi_8 (by assumption) (by assumption)) | (with_reducible exact z_vinN (by assumption) (by assumption) (by decide)) | (with_reducible exact z_vin1 (by assumption) (by assumption) (by decide)) | ((try simp only [z_mk] at q); (try simp only [ge_iff_le, gt_iff_lt, ← Int32.not_lt, Classical.not_not] at q); (try simp only [*, if_true, if_false, ite_self, true_or, or_true, false_or, or_false, true_and, and_true, false_and, and_false, not_true_eq_false, not_false_eq_true, cond_true, cond_false, decide_true, decide_false, Bool.true_and, Bool.and_true, Bool.false_and, Bool.and_false, Bool.true_or, Bool.or_true, Bool.false_or, Bool.or_false, Bool.not_true, Bool.not_false, ne_eq, Nat.reduceEqDiff] at q); with_reducible exact q))) | (simp_all [z_mk]; done))
  · intro n hn ih
    obtain ⟨f1, f2, f3, f4, f5⟩ := z_lt24 hn
    refine z_go (cut := [4, 21]) 35 ?_
    repeat' (first | (simp only [z_wp, Bool.false_eq_true, ↓reduceIte, z_e10, z_e01, eq_self, Int32.reduceLT, Int32.reduceLE, Int32.reduceGT, Int32.reduceGE, z_in, cond_true, cond_false, Nat.reduceAdd, Nat.reduceBEq, z_nth, z_set, z_clr, z_st1, z_st2, z_isL, z_opt, z_pop, z_cats, z_cat, c_X8_tagsJammed_0, c_X8_tagsJammed_1, c_X8_tagsJammed_2, c_X8_tagsJammed_3, c_X8_tagsJammed_4, c_X8_tagsJammed_5, c_X8_tagsJammed_6, c_X8_tagsJammed_7, c_X8_tagsJammed_8, c_X8_tagsJammed_9, c_X8_tagsJammed_10, c_X8_tagsJammed_11, c_X8_tagsJammed_12, c_X8_tagsJammed_13, c_X8_tagsJammed_14, c_X8_tagsJammed_15, c_X8_tagsJammed_16, c_X8_tagsJammed_17, c_X8_tagsJammed_18, c_X8_tagsJammed_19, c_X8_tagsJammed_20, c_X8_tagsJammed_21, c_X8_tagsJammed_22, c_X8_tagsJammed_23, c_X8_tagsJammed_24, c_X8_tagsJammed_25, c_X8_tagsJammed_26, c_X8_tagsJammed_27, c_X8_tagsJammed_28, c_X8_tagsJammed_29, c_X8_tagsJammed_30, c_X8_tagsJammed_31, c_X8_tagsJammed_32, o_aald, o_aload, o_bin, o_callv, o_get, o_getr, o_goto, o_ic, o_icmp, o_if, o_iinc, o_iload, o_iret, o_istore, z_cv0, z_cl0, z_cv1, z_cl1, z_cv2, z_cl2, z_cv3, z_cl3, z_cv4, z_cl4, z_cv5, z_cl5, z_cv6, z_cl6, z_cv7, z_cl7, z_cv8, z_cl8, z_cv9, z_cl9, z_cv10, z_cl10, z_cv11, z_cl11, z_cv12, z_cl12, z_cv13, z_cl13, z_len, z_elt, z_isI, z_isJ, Nat.reduceEqDiff, Nat.reduceLeDiff, Nat.reduceLT, Nat.reduceSub, Nat.reduceMul, not_false_eq_true, not_true_eq_false, true_and, and_true, true_or, or_true, false_or, or_false, true_implies, false_implies, implies_true, forall_const, and_self, ne_eq, Classical.not_not, z_up1, z_up2, z_cp1, z_cp2, z_upL1, z_upL2, if_true, if_false, and_false, false_and, f1, f2, f3, f4, f5]) | (refine s_isJammed ?_) | (with_reducible refine And.intro ?_ ?_) | (with_reducible intro _) | (with_reducible refine z_go (i := 21) (cut := [4, 21]) 35 ?_))
    all_goals (first | (with_reducible exact ih) | ((try simp only [ge_iff_le, gt_iff_lt, ← Int32.not_lt, Classical.not_not] at *); (first | (with_reducible rfl) | rfl | (with_reducible exact z_vi_24 (by assumption) (by assumption)) | (with_reducible exact z_vi_4 (by assumption) (by assumption)) | (with_reducible exact z_vi_512 (by assumption) (by assumption)) | (with_reducible exact z_vi_14 (by assumption) (by assumption)) | (with_reducible exact z_vi_8 (by assumption) (by assumption)) | (with_reducible exact z_vinN (by assumption) (by assumption) (by decide)) | (with_reducible exact z_vin1 (by assumption) (by assumption) (by decide)) | ((try simp only [z_mk] at ih); (try simp only [ge_iff_le, gt_iff_lt, ← Int32.not_lt, Classical.not_not] at ih); (try simp only [*, if_true, if_false, ite_self, true_or, or_true, false_or, or_false, true_and, and_true, false_and, and_false, not_true_eq_false, not_false_eq_true, cond_true, cond_false, decide_true, decide_false, Bool.true_and, Bool.and_true, Bool.false_and, Bool.and_false, Bool.true_or, Bool.or_true, Bool.false_or, Bool.or_false, Bool.not_true, Bool.not_false, ne_eq, Nat.reduceEqDiff] at ih); with_reducible exact ih))) | (simp_all [z_mk]; done))
