/-! tests -/
theorem z_up1 (M : zMem) (kd w i k : Nat) (x : Int32) (a b c d : Nat) : (z_up M kd w i k x).1 a b c d = if a = kd ∧ b = w ∧ c = i ∧ d = k then x else M.1 a b c d := rfl
theorem z_up2 (M : zMem) (kd w i k : Nat) (x : Int32) : (z_up M kd w i k x).2 = M.2 := rfl
theorem e_X6_setFlag {h : Nat} {a0 : zId} {a1 : Int32} {a2 : Int32} {a3 : Int32} {M : zMem} {K : zK} (ha0 : (a0.1 == 99) = false) (q : z_run (z_nop k_X6_setFlag) (z_call h) K 0 [.inr (.inr a0), .inl a1, .inl a2, .inl a3] [] M) : z_call (h + 1) 84 [.inr (.inr a0), .inl a1, .inl a2, .inl a3] M K := ⟨by simp only [List.all_cons, List.all_nil, z_isU, ha0]; rfl, q⟩
theorem c_X6_setFlag_0 : z_nop k_X6_setFlag 0 = o_aload 0 := rfl
theorem c_X6_setFlag_1 : z_nop k_X6_setFlag 1 = o_iload 2 := rfl
theorem c_X6_setFlag_2 : z_nop k_X6_setFlag 2 = o_ic 1 := rfl
theorem c_X6_setFlag_3 : z_nop k_X6_setFlag 3 = o_icmp (fun x y => x ≠ y) 11 := rfl
theorem c_X6_setFlag_4 : z_nop k_X6_setFlag 4 = o_aload 0 := rfl
theorem c_X6_setFlag_5 : z_nop k_X6_setFlag 5 = o_get 7 3 := rfl
theorem c_X6_setFlag_6 : z_nop k_X6_setFlag 6 = o_ic 1 := rfl
theorem c_X6_setFlag_7 : z_nop k_X6_setFlag 7 = o_iload 1 := rfl
theorem c_X6_setFlag_8 : z_nop k_X6_setFlag 8 = o_bin (fun x y => x <<< (y &&& 31)) := rfl
theorem c_X6_setFlag_9 : z_nop k_X6_setFlag 9 = o_bin (fun x y => x ||| y) := rfl
theorem c_X6_setFlag_10 : z_nop k_X6_setFlag 10 = o_goto 19 := rfl
theorem c_X6_setFlag_11 : z_nop k_X6_setFlag 11 = o_aload 0 := rfl
theorem c_X6_setFlag_12 : z_nop k_X6_setFlag 12 = o_get 7 3 := rfl
theorem c_X6_setFlag_13 : z_nop k_X6_setFlag 13 = o_ic 1 := rfl
theorem c_X6_setFlag_14 : z_nop k_X6_setFlag 14 = o_iload 1 := rfl
theorem c_X6_setFlag_15 : z_nop k_X6_setFlag 15 = o_bin (fun x y => x <<< (y &&& 31)) := rfl
theorem c_X6_setFlag_16 : z_nop k_X6_setFlag 16 = o_ic (-1) := rfl
theorem c_X6_setFlag_17 : z_nop k_X6_setFlag 17 = o_bin (fun x y => x ^^^ y) := rfl
theorem c_X6_setFlag_18 : z_nop k_X6_setFlag 18 = o_bin (fun x y => x &&& y) := rfl
theorem c_X6_setFlag_19 : z_nop k_X6_setFlag 19 = o_put 7 3 := rfl
theorem c_X6_setFlag_20 : z_nop k_X6_setFlag 20 = o_iload 1 := rfl
theorem c_X6_setFlag_21 : z_nop k_X6_setFlag 21 = o_ic 1 := rfl
theorem c_X6_setFlag_22 : z_nop k_X6_setFlag 22 = o_icmp (fun x y => x ≠ y) 29 := rfl
theorem c_X6_setFlag_23 : z_nop k_X6_setFlag 23 = o_iload 2 := rfl
theorem c_X6_setFlag_24 : z_nop k_X6_setFlag 24 = o_ic 1 := rfl
theorem c_X6_setFlag_25 : z_nop k_X6_setFlag 25 = o_icmp (fun x y => x ≠ y) 29 := rfl
theorem c_X6_setFlag_26 : z_nop k_X6_setFlag 26 = o_aload 0 := rfl
theorem c_X6_setFlag_27 : z_nop k_X6_setFlag 27 = o_iload 3 := rfl
theorem c_X6_setFlag_28 : z_nop k_X6_setFlag 28 = o_put 7 8 := rfl
theorem c_X6_setFlag_29 : z_nop k_X6_setFlag 29 = o_ret := rfl

def m_setFlag (M : zMem) (w i : Nat) (f v t : Int32) : zMem :=
  if v = 1 then (if f = 1 then z_up (z_up M 7 w i 3 (M.1 7 w i 3 ||| 1 <<< (f &&& 31))) 7 w i 8 t else z_up M 7 w i 3 (M.1 7 w i 3 ||| 1 <<< (f &&& 31)))
  else z_up M 7 w i 3 (M.1 7 w i 3 &&& (1 <<< (f &&& 31) ^^^ -1))
theorem s_setFlag {h : Nat} {M : zMem} {w i : Nat} {f v t : Int32} {K : zK} (q : K none (m_setFlag M w i f v t)) : z_call (h + 1) 84 [.inr (.inr (7, w, i)), .inl f, .inl v, .inl t] M K := by
  refine e_X6_setFlag rfl ?_
  refine z_wp_run (cut := []) 40 ?_
  simp only [z_wp, z_in, cond_true, cond_false, Nat.reduceAdd, Nat.reduceBEq, z_nth, z_set, z_clr, z_st1, z_st2, z_isL, z_opt, z_pop, z_cats, z_cat, c_X6_setFlag_0, c_X6_setFlag_1, c_X6_setFlag_2, c_X6_setFlag_3, c_X6_setFlag_4, c_X6_setFlag_5, c_X6_setFlag_6, c_X6_setFlag_7, c_X6_setFlag_8, c_X6_setFlag_9, c_X6_setFlag_10, c_X6_setFlag_11, c_X6_setFlag_12, c_X6_setFlag_13, c_X6_setFlag_14, c_X6_setFlag_15, c_X6_setFlag_16, c_X6_setFlag_17, c_X6_setFlag_18, c_X6_setFlag_19, c_X6_setFlag_20, c_X6_setFlag_21, c_X6_setFlag_22, c_X6_setFlag_23, c_X6_setFlag_24, c_X6_setFlag_25, c_X6_setFlag_26, c_X6_setFlag_27, c_X6_setFlag_28, c_X6_setFlag_29, o_aload, o_bin, o_get, o_goto, o_ic, o_icmp, o_iload, o_put, o_ret]
  unfold m_setFlag at q
  by_cases h1 : v = 1 <;> by_cases h2 : f = 1 <;> simp_all
theorem e_X8_tagsOf {h : Nat} {a0 : zId} {a1 : Int32} {M : zMem} {K : zK} (ha0 : (a0.1 == 99) = false) (q : z_run (z_nop k_X8_tagsOf) (z_call h) K 0 [.inr (.inr a0), .inl a1, z_un, z_un] [] M) : z_call (h + 1) 112 [.inr (.inr a0), .inl a1] M K := ⟨by simp only [List.all_cons, List.all_nil, z_isU, ha0]; rfl, q⟩
theorem c_X8_tagsOf_0 : z_nop k_X8_tagsOf 0 = o_ic 0 := rfl
theorem c_X8_tagsOf_1 : z_nop k_X8_tagsOf 1 = o_istore 2 := rfl
theorem c_X8_tagsOf_2 : z_nop k_X8_tagsOf 2 = o_ic 0 := rfl
theorem c_X8_tagsOf_3 : z_nop k_X8_tagsOf 3 = o_istore 3 := rfl
theorem c_X8_tagsOf_4 : z_nop k_X8_tagsOf 4 = o_iload 3 := rfl
theorem c_X8_tagsOf_5 : z_nop k_X8_tagsOf 5 = o_ic 24 := rfl
theorem c_X8_tagsOf_6 : z_nop k_X8_tagsOf 6 = o_icmp (fun x y => x ≥ y) 30 := rfl
theorem c_X8_tagsOf_7 : z_nop k_X8_tagsOf 7 = o_iload 2 := rfl
theorem c_X8_tagsOf_8 : z_nop k_X8_tagsOf 8 = o_aload 0 := rfl
theorem c_X8_tagsOf_9 : z_nop k_X8_tagsOf 9 = o_getr 9 (fun w i => (30, w, 0)) := rfl
theorem c_X8_tagsOf_10 : z_nop k_X8_tagsOf 10 = o_iload 3 := rfl
theorem c_X8_tagsOf_11 : z_nop k_X8_tagsOf 11 = o_aald := rfl
theorem c_X8_tagsOf_12 : z_nop k_X8_tagsOf 12 = o_get 7 0 := rfl
theorem c_X8_tagsOf_13 : z_nop k_X8_tagsOf 13 = o_if (fun x => x = 0) 25 := rfl
theorem c_X8_tagsOf_14 : z_nop k_X8_tagsOf 14 = o_aload 0 := rfl
theorem c_X8_tagsOf_15 : z_nop k_X8_tagsOf 15 = o_getr 9 (fun w i => (30, w, 0)) := rfl
theorem c_X8_tagsOf_16 : z_nop k_X8_tagsOf 16 = o_iload 3 := rfl
theorem c_X8_tagsOf_17 : z_nop k_X8_tagsOf 17 = o_aald := rfl
theorem c_X8_tagsOf_18 : z_nop k_X8_tagsOf 18 = o_get 7 4 := rfl
theorem c_X8_tagsOf_19 : z_nop k_X8_tagsOf 19 = o_iload 1 := rfl
theorem c_X8_tagsOf_20 : z_nop k_X8_tagsOf 20 = o_icmp (fun x y => x ≠ y) 25 := rfl
theorem c_X8_tagsOf_21 : z_nop k_X8_tagsOf 21 = o_ic 1 := rfl
theorem c_X8_tagsOf_22 : z_nop k_X8_tagsOf 22 = o_iload 3 := rfl
theorem c_X8_tagsOf_23 : z_nop k_X8_tagsOf 23 = o_bin (fun x y => x <<< (y &&& 31)) := rfl
theorem c_X8_tagsOf_24 : z_nop k_X8_tagsOf 24 = o_goto 26 := rfl
theorem c_X8_tagsOf_25 : z_nop k_X8_tagsOf 25 = o_ic 0 := rfl
theorem c_X8_tagsOf_26 : z_nop k_X8_tagsOf 26 = o_bin (fun x y => x ||| y) := rfl
theorem c_X8_tagsOf_27 : z_nop k_X8_tagsOf 27 = o_istore 2 := rfl
theorem c_X8_tagsOf_28 : z_nop k_X8_tagsOf 28 = o_iinc 3 1 := rfl
theorem c_X8_tagsOf_29 : z_nop k_X8_tagsOf 29 = o_goto 4 := rfl
theorem c_X8_tagsOf_30 : z_nop k_X8_tagsOf 30 = o_iload 2 := rfl
theorem c_X8_tagsOf_31 : z_nop k_X8_tagsOf 31 = o_iret := rfl

def r_tagsOf (M : zMem) (w : Nat) (r : Int32) : Nat → Int32
  | 0 => 0
  | n + 1 => r_tagsOf M w r n ||| (if ¬ M.1 7 w n 0 = 0 ∧ M.1 7 w n 4 = r then 1 <<< (nI n &&& 31) else 0)
theorem s_tagsOf {h : Nat} {M : zMem} {w : Nat} {r : Int32} {K : zK} (q : K (some (.inl (r_tagsOf M w r 24))) M) : z_call (h + 1) 112 [.inr (.inr (9, w, 0)), .inl r] M K := by
  refine e_X8_tagsOf rfl ?_
  refine z_wp_run (cut := [4]) 10 ?_
  simp only [z_wp, z_in, cond_true, cond_false, Nat.reduceAdd, Nat.reduceBEq, z_nth, z_set, z_clr, z_st1, z_st2, z_isL, z_opt, z_pop, z_cats, z_cat, c_X8_tagsOf_0, c_X8_tagsOf_1, c_X8_tagsOf_2, c_X8_tagsOf_3, c_X8_tagsOf_4, c_X8_tagsOf_5, c_X8_tagsOf_6, c_X8_tagsOf_7, c_X8_tagsOf_8, c_X8_tagsOf_9, c_X8_tagsOf_10, c_X8_tagsOf_11, c_X8_tagsOf_12, c_X8_tagsOf_13, c_X8_tagsOf_14, c_X8_tagsOf_15, c_X8_tagsOf_16, c_X8_tagsOf_17, c_X8_tagsOf_18, c_X8_tagsOf_19, c_X8_tagsOf_20, c_X8_tagsOf_21, c_X8_tagsOf_22, c_X8_tagsOf_23, c_X8_tagsOf_24, c_X8_tagsOf_25, c_X8_tagsOf_26, c_X8_tagsOf_27, c_X8_tagsOf_28, c_X8_tagsOf_29, c_X8_tagsOf_30, c_X8_tagsOf_31, o_aald, o_aload, o_bin, o_get, o_getr, o_goto, o_ic, o_icmp, o_if, o_iinc, o_iload, o_iret, o_istore]
  refine z_loop (fun n => z_run (z_nop k_X8_tagsOf) (z_call h) K 4 [.inr (.inr (9, w, 0)), .inl r, .inl (r_tagsOf M w r n), .inl (nI n)] [] M) 24 ?_ ?_ 0 (by omega)
  · refine z_go (cut := [4]) 10 ?_
    simp only [z_wp, z_in, cond_true, cond_false, Nat.reduceAdd, Nat.reduceBEq, z_nth, z_set, z_clr, z_st1, z_st2, z_isL, z_opt, z_pop, z_cats, z_cat, c_X8_tagsOf_0, c_X8_tagsOf_1, c_X8_tagsOf_2, c_X8_tagsOf_3, c_X8_tagsOf_4, c_X8_tagsOf_5, c_X8_tagsOf_6, c_X8_tagsOf_7, c_X8_tagsOf_8, c_X8_tagsOf_9, c_X8_tagsOf_10, c_X8_tagsOf_11, c_X8_tagsOf_12, c_X8_tagsOf_13, c_X8_tagsOf_14, c_X8_tagsOf_15, c_X8_tagsOf_16, c_X8_tagsOf_17, c_X8_tagsOf_18, c_X8_tagsOf_19, c_X8_tagsOf_20, c_X8_tagsOf_21, c_X8_tagsOf_22, c_X8_tagsOf_23, c_X8_tagsOf_24, c_X8_tagsOf_25, c_X8_tagsOf_26, c_X8_tagsOf_27, c_X8_tagsOf_28, c_X8_tagsOf_29, c_X8_tagsOf_30, c_X8_tagsOf_31, o_aald, o_aload, o_bin, o_get, o_getr, o_goto, o_ic, o_icmp, o_if, o_iinc, o_iload, o_iret, o_istore]
    trace_state
    sorry
  · intro n hn ih
    refine z_go (cut := [4]) 40 ?_
    simp only [z_wp, z_in, cond_true, cond_false, Nat.reduceAdd, Nat.reduceBEq, z_nth, z_set, z_clr, z_st1, z_st2, z_isL, z_opt, z_pop, z_cats, z_cat, c_X8_tagsOf_0, c_X8_tagsOf_1, c_X8_tagsOf_2, c_X8_tagsOf_3, c_X8_tagsOf_4, c_X8_tagsOf_5, c_X8_tagsOf_6, c_X8_tagsOf_7, c_X8_tagsOf_8, c_X8_tagsOf_9, c_X8_tagsOf_10, c_X8_tagsOf_11, c_X8_tagsOf_12, c_X8_tagsOf_13, c_X8_tagsOf_14, c_X8_tagsOf_15, c_X8_tagsOf_16, c_X8_tagsOf_17, c_X8_tagsOf_18, c_X8_tagsOf_19, c_X8_tagsOf_20, c_X8_tagsOf_21, c_X8_tagsOf_22, c_X8_tagsOf_23, c_X8_tagsOf_24, c_X8_tagsOf_25, c_X8_tagsOf_26, c_X8_tagsOf_27, c_X8_tagsOf_28, c_X8_tagsOf_29, c_X8_tagsOf_30, c_X8_tagsOf_31, o_aald, o_aload, o_bin, o_get, o_getr, o_goto, o_ic, o_icmp, o_if, o_iinc, o_iload, o_iret, o_istore]
    trace_state
    sorry
