/-! the reference: base rows, small methods -/
theorem zn_ltT {a b : Nat} (h : a < b) (hb : b < 2147483648) : (nI a < nI b) = True := eq_true (nI_lt h hb)
theorem zn_ltF {a b : Nat} (h : b ≤ a) (ha : a < 2147483648) : (nI a < nI b) = False := eq_false (nI_nlt h ha)
theorem zn_leT {a b : Nat} (h : a ≤ b) (hb : b < 2147483648) : (nI a ≤ nI b) = True := eq_true (nI_le h hb)
theorem zn_leF {a b : Nat} (h : b < a) (ha : a < 2147483648) : (nI a ≤ nI b) = False := eq_false (nI_ge h ha)
theorem zn_eqT {a b : Nat} (h : a = b) : (nI a = nI b) = True := eq_true (by rw [h])
theorem zn_eqF {a b : Nat} (h : ¬ a = b) (ha : a < 2147483648) (hb : b < 2147483648) : (nI a = nI b) = False := eq_false (fun e => h ((nI_eq ha hb).mp e))
theorem zn_in {a N : Nat} (h : a < N) (hN : N < 2147483648) : vp_in (nI a) N = True := eq_true (vp_in_nI h hN)
theorem zn_in0 {N : Nat} (h : 0 < N) (hN : N < 2147483648) : vp_in 0 N = True := eq_true (vp_in_nI (n := 0) h hN)
theorem zn_in1 {N : Nat} (h : 1 < N) (hN : N < 2147483648) : vp_in 1 N = True := eq_true (vp_in_nI (n := 1) h hN)
theorem zn_cl {a : Nat} (h : a < 2147483648) : (nI a).toNatClampNeg = a := nI_clamp h
theorem zn_cl0 : (0 : Int32).toNatClampNeg = 0 := rfl
theorem zn_cl1 : (1 : Int32).toNatClampNeg = 1 := rfl
theorem zn_sub {a b : Nat} (h : b ≤ a) : nI a - nI b = nI (a - b) := pk_sub h
theorem zn_upS {M : zMem} {kd w i k : Nat} {x : Int32} : (z_up M kd w i k x).1 kd w i k = x := by simp [z_up]
theorem zn_upN {M : zMem} {kd w i k j : Nat} {x : Int32} (h : ¬ j = k) : (z_up M kd w i k x).1 kd w i j = M.1 kd w i j := by simp [z_up, h]
theorem zn_upO {M : zMem} {kd w i k a b c d : Nat} {x : Int32} (h : ¬ a = kd) : (z_up M kd w i k x).1 a b c d = M.1 a b c d := by simp [z_up, h]
theorem zn_z {a : Nat} (h : ¬ a = 0) (ha : a < 2147483648) : (nI a = 0) = False := eq_false (nI_ne0 (by omega) ha)
theorem zn_lt0 {a : Nat} (ha : a < 2147483648) : (nI a < 0) = False := eq_false (nI_pos ha)
theorem zn_0le {a : Nat} (ha : a < 2147483648) : (0 ≤ nI a) = True := eq_true (nI_pos' ha)
theorem zn_le0 {a : Nat} (h : 0 < a) (ha : a < 2147483648) : (nI a ≤ 0) = False := eq_false (nI_nle h ha)
theorem zn_m1 {a : Nat} (ha : a < 2147483648) : (nI a = -1) = False := eq_false (fun e => absurd (e ▸ nI_pos ha) (by decide))
theorem zn_g1 {a : Nat} (h : 1 < a) (ha : a < 2147483648) : (1 < nI a) = True := eq_true (nI_lt (a := 1) h ha)
theorem zn_1F {a : Nat} (h : ¬ a = 1) (ha : a < 2147483648) : (nI a = 1) = False := zn_eqF (b := 1) h ha (by decide)
theorem zn_1T {a : Nat} (h : a = 1) : (nI a = 1) = True := eq_true (by rw [h]; rfl)
theorem zn_zT {a : Nat} (h : a = 0) : (nI a = 0) = True := eq_true (by rw [h]; rfl)
theorem zn_1le {a : Nat} (h : 1 ≤ a) (ha : a < 2147483648) : (1 ≤ nI a) = True := eq_true (nI_le (a := 1) h ha)
theorem zn_lt1 {a : Nat} (h : 1 ≤ a) (ha : a < 2147483648) : (nI a < 1) = False := eq_false (nI_nlt (b := 1) h ha)
theorem zn_le1 {a : Nat} (h : 1 < a) (ha : a < 2147483648) : (nI a ≤ 1) = False := eq_false (nI_ge (a := 1) h ha)
theorem zi_icmp (f : Int32 → Int32 → Prop) (t : Nat) (O : zO) (K : zK) (P : zP) (i : Nat) (ls : List zV) (x y : Int32) (st : List zV) (M : zMem) : o_icmp f t O K P i ls (.inl y :: .inl x :: st) M = @ite Prop (f x y) (Classical.propDecidable _) (P t ls st M) (P (i + 1) ls st M) := by
  unfold o_icmp
  by_cases h : f x y
  · rw [if_pos h]
    exact propext ⟨fun z => z.1 h, fun z => ⟨fun _ => z, fun z2 => absurd h z2⟩⟩
  · rw [if_neg h]
    exact propext ⟨fun z => z.2 h, fun z => ⟨fun z2 => absurd z2 h, fun _ => z⟩⟩
theorem zi_if (f : Int32 → Prop) (t : Nat) (O : zO) (K : zK) (P : zP) (i : Nat) (ls : List zV) (x : Int32) (st : List zV) (M : zMem) : o_if f t O K P i ls (.inl x :: st) M = @ite Prop (f x) (Classical.propDecidable _) (P t ls st M) (P (i + 1) ls st M) := by
  unfold o_if
  by_cases h : f x
  · rw [if_pos h]
    exact propext ⟨fun z => z.1 h, fun z => ⟨fun _ => z, fun z2 => absurd h z2⟩⟩
  · rw [if_neg h]
    exact propext ⟨fun z => z.2 h, fun z => ⟨fun z2 => absurd z2 h, fun _ => z⟩⟩
theorem zi_ite {c : Prop} (i : Decidable c) (A B : Prop) : @ite Prop c i A B = ((c → A) ∧ (¬ c → B)) := by
  by_cases h : c
  · rw [if_pos h]
    exact propext ⟨fun z => ⟨fun _ => z, fun z2 => absurd h z2⟩, fun z => z.1 h⟩
  · rw [if_neg h]
    exact propext ⟨fun z => ⟨fun z2 => absurd z2 h, fun _ => z⟩, fun z => z.2 h⟩
/-- one of the two, by what is asked -/
def z_b (p : Prop) [Decidable p] : Int32 := if p then 1 else 0
theorem e_X10_isIn {h : Nat} {a0 : Int32} {a1 : Int32} {a2 : Int32} {M : zMem} {K : zK} (q : z_run (z_nop k_X10_isIn) (z_call h) K 0 [.inl a0, .inl a1, .inl a2] [] M) : z_call (h + 1) 162 [.inl a0, .inl a1, .inl a2] M K := ⟨by simp only [List.all_cons, List.all_nil, z_isU]; rfl, q⟩
theorem c_X10_isIn_0 : z_nop k_X10_isIn 0 = o_iload 0 := rfl
theorem c_X10_isIn_1 : z_nop k_X10_isIn 1 = o_iload 1 := rfl
theorem c_X10_isIn_2 : z_nop k_X10_isIn 2 = o_icmp (fun x y => x < y) 8 := rfl
theorem c_X10_isIn_3 : z_nop k_X10_isIn 3 = o_iload 0 := rfl
theorem c_X10_isIn_4 : z_nop k_X10_isIn 4 = o_iload 2 := rfl
theorem c_X10_isIn_5 : z_nop k_X10_isIn 5 = o_icmp (fun x y => x > y) 8 := rfl
theorem c_X10_isIn_6 : z_nop k_X10_isIn 6 = o_ic 1 := rfl
theorem c_X10_isIn_7 : z_nop k_X10_isIn 7 = o_goto 9 := rfl
theorem c_X10_isIn_8 : z_nop k_X10_isIn 8 = o_ic 0 := rfl
theorem c_X10_isIn_9 : z_nop k_X10_isIn 9 = o_zret := rfl

def r_isIn (v a b : Int32) : Int32 := if ¬ v < a ∧ ¬ b < v then 1 else 0
set_option maxRecDepth 100000 in
theorem s_isIn {h : Nat} {M : zMem} {v a b : Int32} {K : zK} (q : K (some (.inl (r_isIn v a b))) M) : z_call (h + 1) 162 [.inl v, .inl a, .inl b] M K := by
  refine e_X10_isIn  ?_
  refine z_wp_run (cut := [8]) 12 _ _ _ _ ?_
  repeat' (first | (with_reducible refine And.intro ?_ ?_) | (with_reducible intro _) | (with_reducible refine z_go (i := 8) (cut := [8]) 12 ?_) | (simp (maxSteps := 1000000) (disch := omega) only [z_wp, Bool.false_eq_true, ↓reduceIte, z_e10, z_e01, eq_self, Int32.reduceLT, Int32.reduceLE, Int32.reduceGT, Int32.reduceGE, z_in, cond_true, cond_false, Nat.reduceAdd, Nat.reduceBEq, z_nth, z_set, z_clr, z_st1, z_st2, z_isL, z_opt, z_pop, z_cats, z_cat, c_X10_isIn_0, c_X10_isIn_1, c_X10_isIn_2, c_X10_isIn_3, c_X10_isIn_4, c_X10_isIn_5, c_X10_isIn_6, c_X10_isIn_7, c_X10_isIn_8, c_X10_isIn_9, o_goto, o_ic, o_icmp, o_iload, o_zret, z_len, z_elt, z_isI, z_isJ, Nat.reduceEqDiff, Nat.reduceLeDiff, Nat.reduceLT, Nat.reduceSub, Nat.reduceMul, not_false_eq_true, not_true_eq_false, true_and, and_true, true_or, or_true, false_or, or_false, true_implies, false_implies, implies_true, forall_const, and_self, ne_eq, Classical.not_not, z_up2, z_cp2, z_upL1, z_upL2, if_true, if_false, and_false, false_and, ge_iff_le, gt_iff_lt, nI_add, pk_mul, nI_1, zn_ltT, zn_ltF, zn_leT, zn_leF, zn_eqT, zn_eqF, zn_in, zn_cl, zn_sub, zn_upS, zn_upN, zn_upO, zn_z, zn_lt0, zn_le0, zn_0le, zn_m1, zn_in0, zn_in1, zn_cl0, zn_cl1, zn_g1, zn_1F, zn_1T, zn_zT, zn_1le, zn_lt1, zn_le1]))
  all_goals (first | (with_reducible exact q) | omega | ((try simp only [ge_iff_le, gt_iff_lt, ← Int32.not_lt, Classical.not_not] at *); (first | (with_reducible rfl) | ((try simp only [r_isIn] at q); (try simp only [ge_iff_le, gt_iff_lt, ← Int32.not_lt, Classical.not_not] at q); (try simp (disch := omega) only [*, zn_upS, zn_upN, zn_upO, if_true, if_false, ite_self, true_or, or_true, false_or, or_false, true_and, and_true, false_and, and_false, not_true_eq_false, not_false_eq_true, cond_true, cond_false, decide_true, decide_false, Bool.true_and, Bool.and_true, Bool.false_and, Bool.and_false, Bool.true_or, Bool.or_true, Bool.false_or, Bool.or_false, Bool.not_true, Bool.not_false, ne_eq, Nat.reduceEqDiff] at q); first | (with_reducible exact q) | omega))) | assumption | (unfold r_isIn; split <;> simp; done) | (unfold r_has; split <;> simp; done) | ((try simp only [r_isIn] at q); (repeat' (first | (with_reducible exact q) | split at q)); all_goals (first | (exfalso; omega) | (exfalso; simp_all; done))) | exact q)
theorem e_X10_has {h : Nat} {a0 : Int32} {a1 : Int32} {M : zMem} {K : zK} (q : z_run (z_nop k_X10_has) (z_call h) K 0 [.inl a0, .inl a1] [] M) : z_call (h + 1) 163 [.inl a0, .inl a1] M K := ⟨by simp only [List.all_cons, List.all_nil, z_isU]; rfl, q⟩
theorem c_X10_has_0 : z_nop k_X10_has 0 = o_iload 0 := rfl
theorem c_X10_has_1 : z_nop k_X10_has 1 = o_iload 1 := rfl
theorem c_X10_has_2 : z_nop k_X10_has 2 = o_bin (fun x y => x >>> (y &&& 31)) := rfl
theorem c_X10_has_3 : z_nop k_X10_has 3 = o_ic 1 := rfl
theorem c_X10_has_4 : z_nop k_X10_has 4 = o_bin (fun x y => x &&& y) := rfl
theorem c_X10_has_5 : z_nop k_X10_has 5 = o_ic 1 := rfl
theorem c_X10_has_6 : z_nop k_X10_has 6 = o_icmp (fun x y => x ≠ y) 9 := rfl
theorem c_X10_has_7 : z_nop k_X10_has 7 = o_ic 1 := rfl
theorem c_X10_has_8 : z_nop k_X10_has 8 = o_goto 10 := rfl
theorem c_X10_has_9 : z_nop k_X10_has 9 = o_ic 0 := rfl
theorem c_X10_has_10 : z_nop k_X10_has 10 = o_zret := rfl

def r_has (s k : Int32) : Int32 := if s >>> (k &&& 31) &&& 1 = 1 then 1 else 0
set_option maxRecDepth 100000 in
theorem s_has {h : Nat} {M : zMem} {s k : Int32} {K : zK} (q : K (some (.inl (r_has s k))) M) : z_call (h + 1) 163 [.inl s, .inl k] M K := by
  refine e_X10_has  ?_
  refine z_wp_run (cut := [9]) 13 _ _ _ _ ?_
  repeat' (first | (with_reducible refine And.intro ?_ ?_) | (with_reducible intro _) | (with_reducible refine z_go (i := 9) (cut := [9]) 13 ?_) | (simp (maxSteps := 1000000) (disch := omega) only [z_wp, Bool.false_eq_true, ↓reduceIte, z_e10, z_e01, eq_self, Int32.reduceLT, Int32.reduceLE, Int32.reduceGT, Int32.reduceGE, z_in, cond_true, cond_false, Nat.reduceAdd, Nat.reduceBEq, z_nth, z_set, z_clr, z_st1, z_st2, z_isL, z_opt, z_pop, z_cats, z_cat, c_X10_has_0, c_X10_has_1, c_X10_has_2, c_X10_has_3, c_X10_has_4, c_X10_has_5, c_X10_has_6, c_X10_has_7, c_X10_has_8, c_X10_has_9, c_X10_has_10, o_bin, o_goto, o_ic, o_icmp, o_iload, o_zret, z_len, z_elt, z_isI, z_isJ, Nat.reduceEqDiff, Nat.reduceLeDiff, Nat.reduceLT, Nat.reduceSub, Nat.reduceMul, not_false_eq_true, not_true_eq_false, true_and, and_true, true_or, or_true, false_or, or_false, true_implies, false_implies, implies_true, forall_const, and_self, ne_eq, Classical.not_not, z_up2, z_cp2, z_upL1, z_upL2, if_true, if_false, and_false, false_and, ge_iff_le, gt_iff_lt, nI_add, pk_mul, nI_1, zn_ltT, zn_ltF, zn_leT, zn_leF, zn_eqT, zn_eqF, zn_in, zn_cl, zn_sub, zn_upS, zn_upN, zn_upO, zn_z, zn_lt0, zn_le0, zn_0le, zn_m1, zn_in0, zn_in1, zn_cl0, zn_cl1, zn_g1, zn_1F, zn_1T, zn_zT, zn_1le, zn_lt1, zn_le1]))
  all_goals (first | (with_reducible exact q) | omega | ((try simp only [ge_iff_le, gt_iff_lt, ← Int32.not_lt, Classical.not_not] at *); (first | (with_reducible rfl) | ((try simp only [r_has] at q); (try simp only [ge_iff_le, gt_iff_lt, ← Int32.not_lt, Classical.not_not] at q); (try simp (disch := omega) only [*, zn_upS, zn_upN, zn_upO, if_true, if_false, ite_self, true_or, or_true, false_or, or_false, true_and, and_true, false_and, and_false, not_true_eq_false, not_false_eq_true, cond_true, cond_false, decide_true, decide_false, Bool.true_and, Bool.and_true, Bool.false_and, Bool.and_false, Bool.true_or, Bool.or_true, Bool.false_or, Bool.or_false, Bool.not_true, Bool.not_false, ne_eq, Nat.reduceEqDiff] at q); first | (with_reducible exact q) | omega))) | assumption | (unfold r_isIn; split <;> simp; done) | (unfold r_has; split <;> simp; done) | ((try simp only [r_has] at q); (repeat' (first | (with_reducible exact q) | split at q)); all_goals (first | (exfalso; omega) | (exfalso; simp_all; done))) | exact q)
theorem e_X10_isReader {h : Nat} {a0 : Int32} {M : zMem} {K : zK} (q : z_run (z_nop k_X10_isReader) (z_call h) K 0 [.inl a0] [] M) : z_call (h + 1) 166 [.inl a0] M K := ⟨by simp only [List.all_cons, List.all_nil, z_isU]; rfl, q⟩
theorem c_X10_isReader_0 : z_nop k_X10_isReader 0 = o_iload 0 := rfl
theorem c_X10_isReader_1 : z_nop k_X10_isReader 1 = o_ic 0 := rfl
theorem c_X10_isReader_2 : z_nop k_X10_isReader 2 = o_ic (nI 3) := rfl
theorem c_X10_isReader_3 : z_nop k_X10_isReader 3 = o_call 162 3 := rfl
theorem c_X10_isReader_4 : z_nop k_X10_isReader 4 = o_zret := rfl

set_option maxRecDepth 100000 in
theorem s_isReader {h : Nat} {M : zMem} {r : Int32} {K : zK} (q : K (some (.inl (r_isIn r 0 3))) M) : z_call (h + 2) 166 [.inl r] M K := by
  refine e_X10_isReader  ?_
  refine z_wp_run (cut := [4]) 7 _ _ _ _ ?_
  repeat' (first | (with_reducible refine And.intro ?_ ?_) | (with_reducible intro _) | (refine s_isIn ?_) | (with_reducible refine z_go (i := 4) (cut := [4]) 7 ?_) | (simp (maxSteps := 1000000) (disch := omega) only [z_wp, Bool.false_eq_true, ↓reduceIte, z_e10, z_e01, eq_self, Int32.reduceLT, Int32.reduceLE, Int32.reduceGT, Int32.reduceGE, z_in, cond_true, cond_false, Nat.reduceAdd, Nat.reduceBEq, z_nth, z_set, z_clr, z_st1, z_st2, z_isL, z_opt, z_pop, z_cats, z_cat, c_X10_isReader_0, c_X10_isReader_1, c_X10_isReader_2, c_X10_isReader_3, c_X10_isReader_4, o_call, o_ic, o_iload, o_zret, z_len, z_elt, z_isI, z_isJ, Nat.reduceEqDiff, Nat.reduceLeDiff, Nat.reduceLT, Nat.reduceSub, Nat.reduceMul, not_false_eq_true, not_true_eq_false, true_and, and_true, true_or, or_true, false_or, or_false, true_implies, false_implies, implies_true, forall_const, and_self, ne_eq, Classical.not_not, z_up2, z_cp2, z_upL1, z_upL2, if_true, if_false, and_false, false_and, ge_iff_le, gt_iff_lt, nI_add, pk_mul, nI_1, zn_ltT, zn_ltF, zn_leT, zn_leF, zn_eqT, zn_eqF, zn_in, zn_cl, zn_sub, zn_upS, zn_upN, zn_upO, zn_z, zn_lt0, zn_le0, zn_0le, zn_m1, zn_in0, zn_in1, zn_cl0, zn_cl1, zn_g1, zn_1F, zn_1T, zn_zT, zn_1le, zn_lt1, zn_le1]))
  all_goals (first | (with_reducible exact q) | omega | ((try simp only [ge_iff_le, gt_iff_lt, ← Int32.not_lt, Classical.not_not] at *); (first | (with_reducible rfl) | ((try simp only [ge_iff_le, gt_iff_lt, ← Int32.not_lt, Classical.not_not] at q); (try simp (disch := omega) only [*, zn_upS, zn_upN, zn_upO, if_true, if_false, ite_self, true_or, or_true, false_or, or_false, true_and, and_true, false_and, and_false, not_true_eq_false, not_false_eq_true, cond_true, cond_false, decide_true, decide_false, Bool.true_and, Bool.and_true, Bool.false_and, Bool.and_false, Bool.true_or, Bool.or_true, Bool.false_or, Bool.or_false, Bool.not_true, Bool.not_false, ne_eq, Nat.reduceEqDiff] at q); first | (with_reducible exact q) | omega))) | assumption | (unfold r_isIn; split <;> simp; done) | (unfold r_has; split <;> simp; done) | ((repeat' (first | (with_reducible exact q) | split at q)); all_goals (first | (exfalso; omega) | (exfalso; simp_all; done))) | exact q)
theorem e_X10_isTag {h : Nat} {a0 : zId} {a1 : Int32} {M : zMem} {K : zK} (ha0 : (a0.1 == 99) = false) (q : z_run (z_nop k_X10_isTag) (z_call h) K 0 [.inr (.inr a0), .inl a1] [] M) : z_call (h + 1) 167 [.inr (.inr a0), .inl a1] M K := ⟨by simp only [List.all_cons, List.all_nil, z_isU, ha0]; rfl, q⟩
theorem c_X10_isTag_0 : z_nop k_X10_isTag 0 = o_iload 1 := rfl
theorem c_X10_isTag_1 : z_nop k_X10_isTag 1 = o_ic 0 := rfl
theorem c_X10_isTag_2 : z_nop k_X10_isTag 2 = o_ic (nI 23) := rfl
theorem c_X10_isTag_3 : z_nop k_X10_isTag 3 = o_call 162 3 := rfl
theorem c_X10_isTag_4 : z_nop k_X10_isTag 4 = o_if (fun x => x = 0) 15 := rfl
theorem c_X10_isTag_5 : z_nop k_X10_isTag 5 = o_aload 0 := rfl
theorem c_X10_isTag_6 : z_nop k_X10_isTag 6 = o_getr 11 (fun w i => (24, 0, 0)) := rfl
theorem c_X10_isTag_7 : z_nop k_X10_isTag 7 = o_ic (nI 454) := rfl
theorem c_X10_isTag_8 : z_nop k_X10_isTag 8 = o_iload 1 := rfl
theorem c_X10_isTag_9 : z_nop k_X10_isTag 9 = o_bin (fun x y => x + y) := rfl
theorem c_X10_isTag_10 : z_nop k_X10_isTag 10 = o_iald := rfl
theorem c_X10_isTag_11 : z_nop k_X10_isTag 11 = o_ic 1 := rfl
theorem c_X10_isTag_12 : z_nop k_X10_isTag 12 = o_icmp (fun x y => x ≠ y) 15 := rfl
theorem c_X10_isTag_13 : z_nop k_X10_isTag 13 = o_ic 1 := rfl
theorem c_X10_isTag_14 : z_nop k_X10_isTag 14 = o_goto 16 := rfl
theorem c_X10_isTag_15 : z_nop k_X10_isTag 15 = o_ic 0 := rfl
theorem c_X10_isTag_16 : z_nop k_X10_isTag 16 = o_zret := rfl

theorem z_isIn0 {v b : Int32} {N : Nat} (hN : N < 2147483647) (hb : b = nI N) (h : r_isIn v 0 b = 0) : v < 0 ∨ nI (N + 1) ≤ v := by
  unfold r_isIn at h
  split at h
  · exact absurd h (by decide)
  · rename_i c
    by_cases c1 : v < 0
    · exact .inl c1
    · right
      obtain ⟨j, hj, rfl⟩ := nI_of c1
      have c2 : nI N < nI j := by
        rw [← hb]
        exact Classical.byContradiction fun c3 => c ⟨c1, c3⟩
      rw [nI_ltI (by omega) hj] at c2
      exact nI_le (by omega) hj
theorem z_isIn1 {v b : Int32} {N : Nat} (hN : N < 2147483647) (hb : b = nI N) (h : ¬ r_isIn v 0 b = 0) : ∃ j, j ≤ N ∧ v = nI j := by
  unfold r_isIn at h
  split at h
  · rename_i c
    obtain ⟨j, hj, rfl⟩ := nI_of c.1
    refine ⟨j, ?_, rfl⟩
    have c2 := c.2
    rw [hb, nI_ltI (by omega) hj] at c2
    omega
  · exact absurd rfl h
def r_isTag (M : zMem) (t : Int32) : Int32 := if r_isIn t 0 23 = 0 then 0 else if (M.1 24 0 0 (454 + t.toNatClampNeg)) = 1 then 1 else 0
set_option maxRecDepth 100000 in
theorem s_isTag {h : Nat} {M : zMem} {t : Int32} {K : zK} (q : K (some (.inl (r_isTag M t))) M) : z_call (h + 2) 167 [.inr (.inr (11, 0, 0)), .inl t] M K := by
  unfold r_isTag at q
  refine e_X10_isTag rfl ?_
  refine z_wp_run (cut := [4]) 60 _ _ _ _ ?_
  simp (maxSteps := 1000000) (disch := omega) only [z_wp, Bool.false_eq_true, ↓reduceIte, z_e10, z_e01, eq_self, Int32.reduceLT, Int32.reduceLE, Int32.reduceGT, Int32.reduceGE, z_in, cond_true, cond_false, Nat.reduceAdd, Nat.reduceBEq, z_nth, z_set, z_clr, z_st1, z_st2, z_isL, z_opt, z_pop, z_cats, z_cat, c_X10_isTag_0, c_X10_isTag_1, c_X10_isTag_2, c_X10_isTag_3, c_X10_isTag_4, c_X10_isTag_5, c_X10_isTag_6, c_X10_isTag_7, c_X10_isTag_8, c_X10_isTag_9, c_X10_isTag_10, c_X10_isTag_11, c_X10_isTag_12, c_X10_isTag_13, c_X10_isTag_14, c_X10_isTag_15, c_X10_isTag_16, o_aload, o_bin, o_call, o_getr, o_goto, o_iald, o_ic, o_icmp, o_if, o_iload, o_zret, z_len, z_elt, z_isI, z_isJ, Nat.reduceEqDiff, Nat.reduceLeDiff, Nat.reduceLT, Nat.reduceSub, Nat.reduceMul, not_false_eq_true, not_true_eq_false, true_and, and_true, true_or, or_true, false_or, or_false, true_implies, false_implies, implies_true, forall_const, and_self, ne_eq, Classical.not_not, z_up2, z_cp2, z_upL1, z_upL2, if_true, if_false, and_false, false_and, ge_iff_le, gt_iff_lt, nI_add, pk_mul, nI_1, zn_ltT, zn_ltF, zn_leT, zn_leF, zn_eqT, zn_eqF, zn_in, zn_cl, zn_sub, zn_upS, zn_upN, zn_upO, zn_z, zn_lt0, zn_le0, zn_0le, zn_m1, zn_in0, zn_in1, zn_cl0, zn_cl1, zn_g1, zn_1F, zn_1T, zn_zT, zn_1le, zn_lt1, zn_le1]
  refine s_isIn ?_
  refine z_go (cut := [4]) 19 ?_
  simp (maxSteps := 1000000) (disch := omega) only [z_wp, Bool.false_eq_true, ↓reduceIte, z_e10, z_e01, eq_self, Int32.reduceLT, Int32.reduceLE, Int32.reduceGT, Int32.reduceGE, z_in, cond_true, cond_false, Nat.reduceAdd, Nat.reduceBEq, z_nth, z_set, z_clr, z_st1, z_st2, z_isL, z_opt, z_pop, z_cats, z_cat, c_X10_isTag_0, c_X10_isTag_1, c_X10_isTag_2, c_X10_isTag_3, c_X10_isTag_4, c_X10_isTag_5, c_X10_isTag_6, c_X10_isTag_7, c_X10_isTag_8, c_X10_isTag_9, c_X10_isTag_10, c_X10_isTag_11, c_X10_isTag_12, c_X10_isTag_13, c_X10_isTag_14, c_X10_isTag_15, c_X10_isTag_16, o_aload, o_bin, o_call, o_getr, o_goto, o_iald, o_ic, o_icmp, o_if, o_iload, o_zret, z_len, z_elt, z_isI, z_isJ, Nat.reduceEqDiff, Nat.reduceLeDiff, Nat.reduceLT, Nat.reduceSub, Nat.reduceMul, not_false_eq_true, not_true_eq_false, true_and, and_true, true_or, or_true, false_or, or_false, true_implies, false_implies, implies_true, forall_const, and_self, ne_eq, Classical.not_not, z_up2, z_cp2, z_upL1, z_upL2, if_true, if_false, and_false, false_and, ge_iff_le, gt_iff_lt, nI_add, pk_mul, nI_1, zn_ltT, zn_ltF, zn_leT, zn_leF, zn_eqT, zn_eqF, zn_in, zn_cl, zn_sub, zn_upS, zn_upN, zn_upO, zn_z, zn_lt0, zn_le0, zn_0le, zn_m1, zn_in0, zn_in1, zn_cl0, zn_cl1, zn_g1, zn_1F, zn_1T, zn_zT, zn_1le, zn_lt1, zn_le1]
  refine ⟨fun c => ?_, fun c => ?_⟩
  · rw [if_pos (show r_isIn t 0 23 = 0 from c)] at q
    exact q
  · obtain ⟨j, hj, rfl⟩ := z_isIn1 (N := 23) (by decide) rfl c
    rw [if_neg (show ¬ r_isIn (nI j) 0 23 = 0 from c), nI_clamp (by omega)] at q
    simp (maxSteps := 1000000) (disch := omega) only [z_wp, Bool.false_eq_true, ↓reduceIte, z_e10, z_e01, eq_self, Int32.reduceLT, Int32.reduceLE, Int32.reduceGT, Int32.reduceGE, z_in, cond_true, cond_false, Nat.reduceAdd, Nat.reduceBEq, z_nth, z_set, z_clr, z_st1, z_st2, z_isL, z_opt, z_pop, z_cats, z_cat, c_X10_isTag_0, c_X10_isTag_1, c_X10_isTag_2, c_X10_isTag_3, c_X10_isTag_4, c_X10_isTag_5, c_X10_isTag_6, c_X10_isTag_7, c_X10_isTag_8, c_X10_isTag_9, c_X10_isTag_10, c_X10_isTag_11, c_X10_isTag_12, c_X10_isTag_13, c_X10_isTag_14, c_X10_isTag_15, c_X10_isTag_16, o_aload, o_bin, o_call, o_getr, o_goto, o_iald, o_ic, o_icmp, o_if, o_iload, o_zret, z_len, z_elt, z_isI, z_isJ, Nat.reduceEqDiff, Nat.reduceLeDiff, Nat.reduceLT, Nat.reduceSub, Nat.reduceMul, not_false_eq_true, not_true_eq_false, true_and, and_true, true_or, or_true, false_or, or_false, true_implies, false_implies, implies_true, forall_const, and_self, ne_eq, Classical.not_not, z_up2, z_cp2, z_upL1, z_upL2, if_true, if_false, and_false, false_and, ge_iff_le, gt_iff_lt, nI_add, pk_mul, nI_1, zn_ltT, zn_ltF, zn_leT, zn_leF, zn_eqT, zn_eqF, zn_in, zn_cl, zn_sub, zn_upS, zn_upN, zn_upO, zn_z, zn_lt0, zn_le0, zn_0le, zn_m1, zn_in0, zn_in1, zn_cl0, zn_cl1, zn_g1, zn_1F, zn_1T, zn_zT, zn_1le, zn_lt1, zn_le1]
    refine ⟨fun c1 => ?_, fun c1 => ?_⟩
    · rw [if_neg c1] at q
      exact q
    · rw [if_pos c1] at q
      exact q
theorem e_X10_counts {h : Nat} {a0 : zId} {a1 : Int32} {a2 : Int32} {M : zMem} {K : zK} (ha0 : (a0.1 == 99) = false) (q : z_run (z_nop k_X10_counts) (z_call h) K 0 [.inr (.inr a0), .inl a1, .inl a2] [] M) : z_call (h + 1) 168 [.inr (.inr a0), .inl a1, .inl a2] M K := ⟨by simp only [List.all_cons, List.all_nil, z_isU, ha0]; rfl, q⟩
theorem c_X10_counts_0 : z_nop k_X10_counts 0 = o_aload 0 := rfl
theorem c_X10_counts_1 : z_nop k_X10_counts 1 = o_getr 11 (fun w i => (24, 0, 0)) := rfl
theorem c_X10_counts_2 : z_nop k_X10_counts 2 = o_ic (nI 5) := rfl
theorem c_X10_counts_3 : z_nop k_X10_counts 3 = o_iload 1 := rfl
theorem c_X10_counts_4 : z_nop k_X10_counts 4 = o_bin (fun x y => x + y) := rfl
theorem c_X10_counts_5 : z_nop k_X10_counts 5 = o_dup2 := rfl
theorem c_X10_counts_6 : z_nop k_X10_counts 6 = o_iald := rfl
theorem c_X10_counts_7 : z_nop k_X10_counts 7 = o_iload 2 := rfl
theorem c_X10_counts_8 : z_nop k_X10_counts 8 = o_bin (fun x y => x + y) := rfl
theorem c_X10_counts_9 : z_nop k_X10_counts 9 = o_iast := rfl
theorem c_X10_counts_10 : z_nop k_X10_counts 10 = o_ret := rfl

def n_counts (M : zMem) (k : Nat) (x : Int32) : zMem := z_up M 24 0 0 (5 + k) ((M.1 24 0 0 (5 + k)) + x)
set_option maxRecDepth 100000 in
theorem s_counts {h k : Nat} {M : zMem} {x : Int32} {K : zK} (hk : k < 20) (q : K none (n_counts M k x)) : z_call (h + 1) 168 [.inr (.inr (11, 0, 0)), .inl (nI k), .inl x] M K := by
  refine e_X10_counts rfl ?_
  refine z_wp_run (cut := []) 13 _ _ _ _ ?_
  repeat' (first | (with_reducible refine And.intro ?_ ?_) | (with_reducible intro _) | (simp (maxSteps := 1000000) (disch := omega) only [z_wp, Bool.false_eq_true, ↓reduceIte, z_e10, z_e01, eq_self, Int32.reduceLT, Int32.reduceLE, Int32.reduceGT, Int32.reduceGE, z_in, cond_true, cond_false, Nat.reduceAdd, Nat.reduceBEq, z_nth, z_set, z_clr, z_st1, z_st2, z_isL, z_opt, z_pop, z_cats, z_cat, c_X10_counts_0, c_X10_counts_1, c_X10_counts_2, c_X10_counts_3, c_X10_counts_4, c_X10_counts_5, c_X10_counts_6, c_X10_counts_7, c_X10_counts_8, c_X10_counts_9, c_X10_counts_10, o_aload, o_bin, o_dup2, o_getr, o_iald, o_iast, o_ic, o_iload, o_ret, z_len, z_elt, z_isI, z_isJ, Nat.reduceEqDiff, Nat.reduceLeDiff, Nat.reduceLT, Nat.reduceSub, Nat.reduceMul, not_false_eq_true, not_true_eq_false, true_and, and_true, true_or, or_true, false_or, or_false, true_implies, false_implies, implies_true, forall_const, and_self, ne_eq, Classical.not_not, z_up2, z_cp2, z_upL1, z_upL2, if_true, if_false, and_false, false_and, ge_iff_le, gt_iff_lt, nI_add, pk_mul, nI_1, zn_ltT, zn_ltF, zn_leT, zn_leF, zn_eqT, zn_eqF, zn_in, zn_cl, zn_sub, zn_upS, zn_upN, zn_upO, zn_z, zn_lt0, zn_le0, zn_0le, zn_m1, zn_in0, zn_in1, zn_cl0, zn_cl1, zn_g1, zn_1F, zn_1T, zn_zT, zn_1le, zn_lt1, zn_le1]))
  all_goals (first | (with_reducible exact q) | omega | ((try simp only [ge_iff_le, gt_iff_lt, ← Int32.not_lt, Classical.not_not] at *); (first | (with_reducible rfl) | ((try simp only [n_counts] at q); (try simp only [ge_iff_le, gt_iff_lt, ← Int32.not_lt, Classical.not_not] at q); (try simp (disch := omega) only [*, zn_upS, zn_upN, zn_upO, if_true, if_false, ite_self, true_or, or_true, false_or, or_false, true_and, and_true, false_and, and_false, not_true_eq_false, not_false_eq_true, cond_true, cond_false, decide_true, decide_false, Bool.true_and, Bool.and_true, Bool.false_and, Bool.and_false, Bool.true_or, Bool.or_true, Bool.false_or, Bool.or_false, Bool.not_true, Bool.not_false, ne_eq, Nat.reduceEqDiff] at q); first | (with_reducible exact q) | omega))) | assumption | (unfold r_isIn; split <;> simp; done) | (unfold r_has; split <;> simp; done) | ((try simp only [n_counts] at q); (repeat' (first | (with_reducible exact q) | split at q)); all_goals (first | (exfalso; omega) | (exfalso; simp_all; done))) | exact q)
theorem e_X10_idOf {h : Nat} {a0 : zId} {a1 : Int32} {M : zMem} {K : zK} (ha0 : (a0.1 == 99) = false) (q : z_run (z_nop k_X10_idOf) (z_call h) K 0 [.inr (.inr a0), .inl a1] [] M) : z_call (h + 1) 171 [.inr (.inr a0), .inl a1] M K := ⟨by simp only [List.all_cons, List.all_nil, z_isU, ha0]; rfl, q⟩
theorem c_X10_idOf_0 : z_nop k_X10_idOf 0 = o_aload 0 := rfl
theorem c_X10_idOf_1 : z_nop k_X10_idOf 1 = o_getr 11 (fun w i => (24, 0, 0)) := rfl
theorem c_X10_idOf_2 : z_nop k_X10_idOf 2 = o_ic (nI 478) := rfl
theorem c_X10_idOf_3 : z_nop k_X10_idOf 3 = o_iload 1 := rfl
theorem c_X10_idOf_4 : z_nop k_X10_idOf 4 = o_bin (fun x y => x + y) := rfl
theorem c_X10_idOf_5 : z_nop k_X10_idOf 5 = o_iald := rfl
theorem c_X10_idOf_6 : z_nop k_X10_idOf 6 = o_ic (nI 16) := rfl
theorem c_X10_idOf_7 : z_nop k_X10_idOf 7 = o_bin (fun x y => (x.toUInt32 >>> (y.toUInt32 &&& Int32.toUInt32 31)).toInt32) := rfl
theorem c_X10_idOf_8 : z_nop k_X10_idOf 8 = o_iret := rfl

def r_idOf (M : zMem) (t : Nat) : Int32 := z_ush (M.1 24 0 0 (478 + t)) 16
set_option maxRecDepth 100000 in
theorem s_idOf {h t : Nat} {M : zMem} {K : zK} (ht : t < 24) (q : K (some (.inl (r_idOf M t))) M) : z_call (h + 1) 171 [.inr (.inr (11, 0, 0)), .inl (nI t)] M K := by
  refine e_X10_idOf rfl ?_
  refine z_wp_run (cut := []) 11 _ _ _ _ ?_
  repeat' (first | (with_reducible refine And.intro ?_ ?_) | (with_reducible intro _) | (simp (maxSteps := 1000000) (disch := omega) only [z_wp, Bool.false_eq_true, ↓reduceIte, z_e10, z_e01, eq_self, Int32.reduceLT, Int32.reduceLE, Int32.reduceGT, Int32.reduceGE, z_in, cond_true, cond_false, Nat.reduceAdd, Nat.reduceBEq, z_nth, z_set, z_clr, z_st1, z_st2, z_isL, z_opt, z_pop, z_cats, z_cat, c_X10_idOf_0, c_X10_idOf_1, c_X10_idOf_2, c_X10_idOf_3, c_X10_idOf_4, c_X10_idOf_5, c_X10_idOf_6, c_X10_idOf_7, c_X10_idOf_8, o_aload, o_bin, o_getr, o_iald, o_ic, o_iload, o_iret, z_len, z_elt, z_isI, z_isJ, Nat.reduceEqDiff, Nat.reduceLeDiff, Nat.reduceLT, Nat.reduceSub, Nat.reduceMul, not_false_eq_true, not_true_eq_false, true_and, and_true, true_or, or_true, false_or, or_false, true_implies, false_implies, implies_true, forall_const, and_self, ne_eq, Classical.not_not, z_up2, z_cp2, z_upL1, z_upL2, if_true, if_false, and_false, false_and, ge_iff_le, gt_iff_lt, nI_add, pk_mul, nI_1, zn_ltT, zn_ltF, zn_leT, zn_leF, zn_eqT, zn_eqF, zn_in, zn_cl, zn_sub, zn_upS, zn_upN, zn_upO, zn_z, zn_lt0, zn_le0, zn_0le, zn_m1, zn_in0, zn_in1, zn_cl0, zn_cl1, zn_g1, zn_1F, zn_1T, zn_zT, zn_1le, zn_lt1, zn_le1]))
  all_goals (first | (with_reducible exact q) | omega | ((try simp only [ge_iff_le, gt_iff_lt, ← Int32.not_lt, Classical.not_not] at *); (first | (with_reducible rfl) | ((try simp only [r_idOf, z_ush] at q); (try simp only [ge_iff_le, gt_iff_lt, ← Int32.not_lt, Classical.not_not] at q); (try simp (disch := omega) only [*, zn_upS, zn_upN, zn_upO, if_true, if_false, ite_self, true_or, or_true, false_or, or_false, true_and, and_true, false_and, and_false, not_true_eq_false, not_false_eq_true, cond_true, cond_false, decide_true, decide_false, Bool.true_and, Bool.and_true, Bool.false_and, Bool.and_false, Bool.true_or, Bool.or_true, Bool.false_or, Bool.or_false, Bool.not_true, Bool.not_false, ne_eq, Nat.reduceEqDiff] at q); first | (with_reducible exact q) | omega))) | assumption | (unfold r_isIn; split <;> simp; done) | (unfold r_has; split <;> simp; done) | ((try simp only [r_idOf, z_ush] at q); (repeat' (first | (with_reducible exact q) | split at q)); all_goals (first | (exfalso; omega) | (exfalso; simp_all; done))) | exact q)
theorem e_X10_reaches {h : Nat} {a0 : zId} {a1 : Int32} {a2 : Int32} {M : zMem} {K : zK} (ha0 : (a0.1 == 99) = false) (q : z_run (z_nop k_X10_reaches) (z_call h) K 0 [.inr (.inr a0), .inl a1, .inl a2] [] M) : z_call (h + 1) 172 [.inr (.inr a0), .inl a1, .inl a2] M K := ⟨by simp only [List.all_cons, List.all_nil, z_isU, ha0]; rfl, q⟩
theorem c_X10_reaches_0 : z_nop k_X10_reaches 0 = o_aload 0 := rfl
theorem c_X10_reaches_1 : z_nop k_X10_reaches 1 = o_getr 11 (fun w i => (24, 0, 0)) := rfl
theorem c_X10_reaches_2 : z_nop k_X10_reaches 2 = o_ic (nI 502) := rfl
theorem c_X10_reaches_3 : z_nop k_X10_reaches 3 = o_iload 2 := rfl
theorem c_X10_reaches_4 : z_nop k_X10_reaches 4 = o_bin (fun x y => x + y) := rfl
theorem c_X10_reaches_5 : z_nop k_X10_reaches 5 = o_iald := rfl
theorem c_X10_reaches_6 : z_nop k_X10_reaches 6 = o_iload 1 := rfl
theorem c_X10_reaches_7 : z_nop k_X10_reaches 7 = o_call 163 2 := rfl
theorem c_X10_reaches_8 : z_nop k_X10_reaches 8 = o_zret := rfl

def r_reaches (M : zMem) (r t : Nat) : Int32 := r_has (M.1 24 0 0 (502 + t)) (nI r)
set_option maxRecDepth 100000 in
theorem s_reaches {h r t : Nat} {M : zMem} {K : zK} (ht : t < 24) (q : K (some (.inl (r_reaches M r t))) M) : z_call (h + 2) 172 [.inr (.inr (11, 0, 0)), .inl (nI r), .inl (nI t)] M K := by
  refine e_X10_reaches rfl ?_
  refine z_wp_run (cut := [8]) 11 _ _ _ _ ?_
  repeat' (first | (with_reducible refine And.intro ?_ ?_) | (with_reducible intro _) | (refine s_has ?_) | (with_reducible refine z_go (i := 8) (cut := [8]) 11 ?_) | (simp (maxSteps := 1000000) (disch := omega) only [z_wp, Bool.false_eq_true, ↓reduceIte, z_e10, z_e01, eq_self, Int32.reduceLT, Int32.reduceLE, Int32.reduceGT, Int32.reduceGE, z_in, cond_true, cond_false, Nat.reduceAdd, Nat.reduceBEq, z_nth, z_set, z_clr, z_st1, z_st2, z_isL, z_opt, z_pop, z_cats, z_cat, c_X10_reaches_0, c_X10_reaches_1, c_X10_reaches_2, c_X10_reaches_3, c_X10_reaches_4, c_X10_reaches_5, c_X10_reaches_6, c_X10_reaches_7, c_X10_reaches_8, o_aload, o_bin, o_call, o_getr, o_iald, o_ic, o_iload, o_zret, z_len, z_elt, z_isI, z_isJ, Nat.reduceEqDiff, Nat.reduceLeDiff, Nat.reduceLT, Nat.reduceSub, Nat.reduceMul, not_false_eq_true, not_true_eq_false, true_and, and_true, true_or, or_true, false_or, or_false, true_implies, false_implies, implies_true, forall_const, and_self, ne_eq, Classical.not_not, z_up2, z_cp2, z_upL1, z_upL2, if_true, if_false, and_false, false_and, ge_iff_le, gt_iff_lt, nI_add, pk_mul, nI_1, zn_ltT, zn_ltF, zn_leT, zn_leF, zn_eqT, zn_eqF, zn_in, zn_cl, zn_sub, zn_upS, zn_upN, zn_upO, zn_z, zn_lt0, zn_le0, zn_0le, zn_m1, zn_in0, zn_in1, zn_cl0, zn_cl1, zn_g1, zn_1F, zn_1T, zn_zT, zn_1le, zn_lt1, zn_le1]))
  all_goals (first | (with_reducible exact q) | omega | ((try simp only [ge_iff_le, gt_iff_lt, ← Int32.not_lt, Classical.not_not] at *); (first | (with_reducible rfl) | ((try simp only [r_reaches] at q); (try simp only [ge_iff_le, gt_iff_lt, ← Int32.not_lt, Classical.not_not] at q); (try simp (disch := omega) only [*, zn_upS, zn_upN, zn_upO, if_true, if_false, ite_self, true_or, or_true, false_or, or_false, true_and, and_true, false_and, and_false, not_true_eq_false, not_false_eq_true, cond_true, cond_false, decide_true, decide_false, Bool.true_and, Bool.and_true, Bool.false_and, Bool.and_false, Bool.true_or, Bool.or_true, Bool.false_or, Bool.or_false, Bool.not_true, Bool.not_false, ne_eq, Nat.reduceEqDiff] at q); first | (with_reducible exact q) | omega))) | assumption | (unfold r_isIn; split <;> simp; done) | (unfold r_has; split <;> simp; done) | ((try simp only [r_reaches] at q); (repeat' (first | (with_reducible exact q) | split at q)); all_goals (first | (exfalso; omega) | (exfalso; simp_all; done))) | exact q)
theorem e_X10_flag {h : Nat} {a0 : zId} {a1 : Int32} {a2 : Int32} {M : zMem} {K : zK} (ha0 : (a0.1 == 99) = false) (q : z_run (z_nop k_X10_flag) (z_call h) K 0 [.inr (.inr a0), .inl a1, .inl a2] [] M) : z_call (h + 1) 174 [.inr (.inr a0), .inl a1, .inl a2] M K := ⟨by simp only [List.all_cons, List.all_nil, z_isU, ha0]; rfl, q⟩
theorem c_X10_flag_0 : z_nop k_X10_flag 0 = o_iload 2 := rfl
theorem c_X10_flag_1 : z_nop k_X10_flag 1 = o_ic (nI 4) := rfl
theorem c_X10_flag_2 : z_nop k_X10_flag 2 = o_icmp (fun x y => x ≠ y) 10 := rfl
theorem c_X10_flag_3 : z_nop k_X10_flag 3 = o_aload 0 := rfl
theorem c_X10_flag_4 : z_nop k_X10_flag 4 = o_getr 11 (fun w i => (24, 0, 0)) := rfl
theorem c_X10_flag_5 : z_nop k_X10_flag 5 = o_ic (nI 526) := rfl
theorem c_X10_flag_6 : z_nop k_X10_flag 6 = o_iload 1 := rfl
theorem c_X10_flag_7 : z_nop k_X10_flag 7 = o_bin (fun x y => x + y) := rfl
theorem c_X10_flag_8 : z_nop k_X10_flag 8 = o_iald := rfl
theorem c_X10_flag_9 : z_nop k_X10_flag 9 = o_goto 20 := rfl
theorem c_X10_flag_10 : z_nop k_X10_flag 10 = o_aload 0 := rfl
theorem c_X10_flag_11 : z_nop k_X10_flag 11 = o_getr 11 (fun w i => (24, 0, 0)) := rfl
theorem c_X10_flag_12 : z_nop k_X10_flag 12 = o_ic (nI 718) := rfl
theorem c_X10_flag_13 : z_nop k_X10_flag 13 = o_ic (nI 4) := rfl
theorem c_X10_flag_14 : z_nop k_X10_flag 14 = o_iload 1 := rfl
theorem c_X10_flag_15 : z_nop k_X10_flag 15 = o_bin (fun x y => x * y) := rfl
theorem c_X10_flag_16 : z_nop k_X10_flag 16 = o_bin (fun x y => x + y) := rfl
theorem c_X10_flag_17 : z_nop k_X10_flag 17 = o_iload 2 := rfl
theorem c_X10_flag_18 : z_nop k_X10_flag 18 = o_bin (fun x y => x + y) := rfl
theorem c_X10_flag_19 : z_nop k_X10_flag 19 = o_iald := rfl
theorem c_X10_flag_20 : z_nop k_X10_flag 20 = o_iret := rfl

def r_fl (M : zMem) (t f : Nat) : Int32 := if f = 4 then (M.1 24 0 0 (526 + t)) else (M.1 24 0 0 (718 + 4 * t + f))
set_option maxRecDepth 100000 in
theorem s_fl {h t f : Nat} {M : zMem} {K : zK} (ht : t < 24) (hf : f < 5) (q : K (some (.inl (r_fl M t f))) M) : z_call (h + 1) 174 [.inr (.inr (11, 0, 0)), .inl (nI t), .inl (nI f)] M K := by
  unfold r_fl at q
  by_cases h4 : f = 4
  · refine e_X10_flag rfl ?_
    refine z_wp_run (cut := [10]) 23 _ _ _ _ ?_
    repeat' (first | (with_reducible refine And.intro ?_ ?_) | (with_reducible intro _) | (with_reducible refine z_go (i := 10) (cut := [10]) 23 ?_) | (simp (maxSteps := 1000000) (disch := omega) only [z_wp, Bool.false_eq_true, ↓reduceIte, z_e10, z_e01, eq_self, Int32.reduceLT, Int32.reduceLE, Int32.reduceGT, Int32.reduceGE, z_in, cond_true, cond_false, Nat.reduceAdd, Nat.reduceBEq, z_nth, z_set, z_clr, z_st1, z_st2, z_isL, z_opt, z_pop, z_cats, z_cat, c_X10_flag_0, c_X10_flag_1, c_X10_flag_2, c_X10_flag_3, c_X10_flag_4, c_X10_flag_5, c_X10_flag_6, c_X10_flag_7, c_X10_flag_8, c_X10_flag_9, c_X10_flag_10, c_X10_flag_11, c_X10_flag_12, c_X10_flag_13, c_X10_flag_14, c_X10_flag_15, c_X10_flag_16, c_X10_flag_17, c_X10_flag_18, c_X10_flag_19, c_X10_flag_20, o_aload, o_bin, o_getr, o_goto, o_iald, o_ic, o_icmp, o_iload, o_iret, z_len, z_elt, z_isI, z_isJ, Nat.reduceEqDiff, Nat.reduceLeDiff, Nat.reduceLT, Nat.reduceSub, Nat.reduceMul, not_false_eq_true, not_true_eq_false, true_and, and_true, true_or, or_true, false_or, or_false, true_implies, false_implies, implies_true, forall_const, and_self, ne_eq, Classical.not_not, z_up2, z_cp2, z_upL1, z_upL2, if_true, if_false, and_false, false_and, ge_iff_le, gt_iff_lt, nI_add, pk_mul, nI_1, zn_ltT, zn_ltF, zn_leT, zn_leF, zn_eqT, zn_eqF, zn_in, zn_cl, zn_sub, zn_upS, zn_upN, zn_upO, zn_z, zn_lt0, zn_le0, zn_0le, zn_m1, zn_in0, zn_in1, zn_cl0, zn_cl1, zn_g1, zn_1F, zn_1T, zn_zT, zn_1le, zn_lt1, zn_le1]))
    all_goals (first | (with_reducible exact q) | omega | ((try simp only [ge_iff_le, gt_iff_lt, ← Int32.not_lt, Classical.not_not] at *); (first | (with_reducible rfl) | ((try simp only [ge_iff_le, gt_iff_lt, ← Int32.not_lt, Classical.not_not] at q); (try simp (disch := omega) only [*, zn_upS, zn_upN, zn_upO, if_true, if_false, ite_self, true_or, or_true, false_or, or_false, true_and, and_true, false_and, and_false, not_true_eq_false, not_false_eq_true, cond_true, cond_false, decide_true, decide_false, Bool.true_and, Bool.and_true, Bool.false_and, Bool.and_false, Bool.true_or, Bool.or_true, Bool.false_or, Bool.or_false, Bool.not_true, Bool.not_false, ne_eq, Nat.reduceEqDiff] at q); first | (with_reducible exact q) | omega))) | assumption | (unfold r_isIn; split <;> simp; done) | (unfold r_has; split <;> simp; done) | ((repeat' (first | (with_reducible exact q) | split at q)); all_goals (first | (exfalso; omega) | (exfalso; simp_all; done))) | exact q)
  · refine e_X10_flag rfl ?_
    refine z_wp_run (cut := [10]) 23 _ _ _ _ ?_
    repeat' (first | (with_reducible refine And.intro ?_ ?_) | (with_reducible intro _) | (with_reducible refine z_go (i := 10) (cut := [10]) 23 ?_) | (simp (maxSteps := 1000000) (disch := omega) only [z_wp, Bool.false_eq_true, ↓reduceIte, z_e10, z_e01, eq_self, Int32.reduceLT, Int32.reduceLE, Int32.reduceGT, Int32.reduceGE, z_in, cond_true, cond_false, Nat.reduceAdd, Nat.reduceBEq, z_nth, z_set, z_clr, z_st1, z_st2, z_isL, z_opt, z_pop, z_cats, z_cat, c_X10_flag_0, c_X10_flag_1, c_X10_flag_2, c_X10_flag_3, c_X10_flag_4, c_X10_flag_5, c_X10_flag_6, c_X10_flag_7, c_X10_flag_8, c_X10_flag_9, c_X10_flag_10, c_X10_flag_11, c_X10_flag_12, c_X10_flag_13, c_X10_flag_14, c_X10_flag_15, c_X10_flag_16, c_X10_flag_17, c_X10_flag_18, c_X10_flag_19, c_X10_flag_20, o_aload, o_bin, o_getr, o_goto, o_iald, o_ic, o_icmp, o_iload, o_iret, z_len, z_elt, z_isI, z_isJ, Nat.reduceEqDiff, Nat.reduceLeDiff, Nat.reduceLT, Nat.reduceSub, Nat.reduceMul, not_false_eq_true, not_true_eq_false, true_and, and_true, true_or, or_true, false_or, or_false, true_implies, false_implies, implies_true, forall_const, and_self, ne_eq, Classical.not_not, z_up2, z_cp2, z_upL1, z_upL2, if_true, if_false, and_false, false_and, ge_iff_le, gt_iff_lt, nI_add, pk_mul, nI_1, zn_ltT, zn_ltF, zn_leT, zn_leF, zn_eqT, zn_eqF, zn_in, zn_cl, zn_sub, zn_upS, zn_upN, zn_upO, zn_z, zn_lt0, zn_le0, zn_0le, zn_m1, zn_in0, zn_in1, zn_cl0, zn_cl1, zn_g1, zn_1F, zn_1T, zn_zT, zn_1le, zn_lt1, zn_le1]))
    all_goals (first | (with_reducible exact q) | omega | ((try simp only [ge_iff_le, gt_iff_lt, ← Int32.not_lt, Classical.not_not] at *); (first | (with_reducible rfl) | ((try simp only [ge_iff_le, gt_iff_lt, ← Int32.not_lt, Classical.not_not] at q); (try simp (disch := omega) only [*, zn_upS, zn_upN, zn_upO, if_true, if_false, ite_self, true_or, or_true, false_or, or_false, true_and, and_true, false_and, and_false, not_true_eq_false, not_false_eq_true, cond_true, cond_false, decide_true, decide_false, Bool.true_and, Bool.and_true, Bool.false_and, Bool.and_false, Bool.true_or, Bool.or_true, Bool.false_or, Bool.or_false, Bool.not_true, Bool.not_false, ne_eq, Nat.reduceEqDiff] at q); first | (with_reducible exact q) | omega))) | assumption | (unfold r_isIn; split <;> simp; done) | (unfold r_has; split <;> simp; done) | ((repeat' (first | (with_reducible exact q) | split at q)); all_goals (first | (exfalso; omega) | (exfalso; simp_all; done))) | exact q)
theorem e_X10_turns {h : Nat} {a0 : zId} {a1 : Int32} {a2 : Int32} {a3 : Int32} {M : zMem} {K : zK} (ha0 : (a0.1 == 99) = false) (q : z_run (z_nop k_X10_turns) (z_call h) K 0 [.inr (.inr a0), .inl a1, .inl a2, .inl a3] [] M) : z_call (h + 1) 175 [.inr (.inr a0), .inl a1, .inl a2, .inl a3] M K := ⟨by simp only [List.all_cons, List.all_nil, z_isU, ha0]; rfl, q⟩
theorem c_X10_turns_0 : z_nop k_X10_turns 0 = o_iload 2 := rfl
theorem c_X10_turns_1 : z_nop k_X10_turns 1 = o_ic (nI 4) := rfl
theorem c_X10_turns_2 : z_nop k_X10_turns 2 = o_icmp (fun x y => x ≠ y) 11 := rfl
theorem c_X10_turns_3 : z_nop k_X10_turns 3 = o_aload 0 := rfl
theorem c_X10_turns_4 : z_nop k_X10_turns 4 = o_getr 11 (fun w i => (24, 0, 0)) := rfl
theorem c_X10_turns_5 : z_nop k_X10_turns 5 = o_ic (nI 526) := rfl
theorem c_X10_turns_6 : z_nop k_X10_turns 6 = o_iload 1 := rfl
theorem c_X10_turns_7 : z_nop k_X10_turns 7 = o_bin (fun x y => x + y) := rfl
theorem c_X10_turns_8 : z_nop k_X10_turns 8 = o_iload 3 := rfl
theorem c_X10_turns_9 : z_nop k_X10_turns 9 = o_iast := rfl
theorem c_X10_turns_10 : z_nop k_X10_turns 10 = o_goto 22 := rfl
theorem c_X10_turns_11 : z_nop k_X10_turns 11 = o_aload 0 := rfl
theorem c_X10_turns_12 : z_nop k_X10_turns 12 = o_getr 11 (fun w i => (24, 0, 0)) := rfl
theorem c_X10_turns_13 : z_nop k_X10_turns 13 = o_ic (nI 718) := rfl
theorem c_X10_turns_14 : z_nop k_X10_turns 14 = o_ic (nI 4) := rfl
theorem c_X10_turns_15 : z_nop k_X10_turns 15 = o_iload 1 := rfl
theorem c_X10_turns_16 : z_nop k_X10_turns 16 = o_bin (fun x y => x * y) := rfl
theorem c_X10_turns_17 : z_nop k_X10_turns 17 = o_bin (fun x y => x + y) := rfl
theorem c_X10_turns_18 : z_nop k_X10_turns 18 = o_iload 2 := rfl
theorem c_X10_turns_19 : z_nop k_X10_turns 19 = o_bin (fun x y => x + y) := rfl
theorem c_X10_turns_20 : z_nop k_X10_turns 20 = o_iload 3 := rfl
theorem c_X10_turns_21 : z_nop k_X10_turns 21 = o_iast := rfl
theorem c_X10_turns_22 : z_nop k_X10_turns 22 = o_iload 2 := rfl
theorem c_X10_turns_23 : z_nop k_X10_turns 23 = o_ic 1 := rfl
theorem c_X10_turns_24 : z_nop k_X10_turns 24 = o_icmp (fun x y => x ≠ y) 38 := rfl
theorem c_X10_turns_25 : z_nop k_X10_turns 25 = o_iload 3 := rfl
theorem c_X10_turns_26 : z_nop k_X10_turns 26 = o_ic 1 := rfl
theorem c_X10_turns_27 : z_nop k_X10_turns 27 = o_icmp (fun x y => x ≠ y) 38 := rfl
theorem c_X10_turns_28 : z_nop k_X10_turns 28 = o_aload 0 := rfl
theorem c_X10_turns_29 : z_nop k_X10_turns 29 = o_getr 11 (fun w i => (24, 0, 0)) := rfl
theorem c_X10_turns_30 : z_nop k_X10_turns 30 = o_ic (nI 646) := rfl
theorem c_X10_turns_31 : z_nop k_X10_turns 31 = o_iload 1 := rfl
theorem c_X10_turns_32 : z_nop k_X10_turns 32 = o_bin (fun x y => x + y) := rfl
theorem c_X10_turns_33 : z_nop k_X10_turns 33 = o_aload 0 := rfl
theorem c_X10_turns_34 : z_nop k_X10_turns 34 = o_getr 11 (fun w i => (24, 0, 0)) := rfl
theorem c_X10_turns_35 : z_nop k_X10_turns 35 = o_ic 0 := rfl
theorem c_X10_turns_36 : z_nop k_X10_turns 36 = o_iald := rfl
theorem c_X10_turns_37 : z_nop k_X10_turns 37 = o_iast := rfl
theorem c_X10_turns_38 : z_nop k_X10_turns 38 = o_ret := rfl

def n_turns1 (M : zMem) (t f : Nat) (v : Int32) : zMem := if f = 4 then z_up M 24 0 0 (526 + t) v else z_up M 24 0 0 (718 + 4 * t + f) v
def n_turns (M : zMem) (t f : Nat) (v : Int32) : zMem := if f = 1 ∧ v = 1 then z_up (n_turns1 M t f v) 24 0 0 (646 + t) (M.1 24 0 0 (0)) else n_turns1 M t f v
set_option maxRecDepth 100000 in
theorem s_turns {h t f : Nat} {M : zMem} {v : Int32} {K : zK} (ht : t < 24) (hf : f < 5) (q : K none (n_turns M t f v)) : z_call (h + 1) 175 [.inr (.inr (11, 0, 0)), .inl (nI t), .inl (nI f), .inl v] M K := by
  unfold n_turns n_turns1 at q
  by_cases h4 : f = 4
  · subst h4
    refine e_X10_turns rfl ?_
    refine z_wp_run (cut := [11, 38]) 41 _ _ _ _ ?_
    repeat' (first | (with_reducible refine And.intro ?_ ?_) | (with_reducible intro _) | (with_reducible refine z_go (i := 11) (cut := [11, 38]) 41 ?_) | (with_reducible refine z_go (i := 38) (cut := [11, 38]) 41 ?_) | (simp (maxSteps := 1000000) (disch := omega) only [z_wp, Bool.false_eq_true, ↓reduceIte, z_e10, z_e01, eq_self, Int32.reduceLT, Int32.reduceLE, Int32.reduceGT, Int32.reduceGE, z_in, cond_true, cond_false, Nat.reduceAdd, Nat.reduceBEq, z_nth, z_set, z_clr, z_st1, z_st2, z_isL, z_opt, z_pop, z_cats, z_cat, c_X10_turns_0, c_X10_turns_1, c_X10_turns_2, c_X10_turns_3, c_X10_turns_4, c_X10_turns_5, c_X10_turns_6, c_X10_turns_7, c_X10_turns_8, c_X10_turns_9, c_X10_turns_10, c_X10_turns_11, c_X10_turns_12, c_X10_turns_13, c_X10_turns_14, c_X10_turns_15, c_X10_turns_16, c_X10_turns_17, c_X10_turns_18, c_X10_turns_19, c_X10_turns_20, c_X10_turns_21, c_X10_turns_22, c_X10_turns_23, c_X10_turns_24, c_X10_turns_25, c_X10_turns_26, c_X10_turns_27, c_X10_turns_28, c_X10_turns_29, c_X10_turns_30, c_X10_turns_31, c_X10_turns_32, c_X10_turns_33, c_X10_turns_34, c_X10_turns_35, c_X10_turns_36, c_X10_turns_37, c_X10_turns_38, o_aload, o_bin, o_getr, o_goto, o_iald, o_iast, o_ic, o_icmp, o_iload, o_ret, z_len, z_elt, z_isI, z_isJ, Nat.reduceEqDiff, Nat.reduceLeDiff, Nat.reduceLT, Nat.reduceSub, Nat.reduceMul, not_false_eq_true, not_true_eq_false, true_and, and_true, true_or, or_true, false_or, or_false, true_implies, false_implies, implies_true, forall_const, and_self, ne_eq, Classical.not_not, z_up2, z_cp2, z_upL1, z_upL2, if_true, if_false, and_false, false_and, ge_iff_le, gt_iff_lt, nI_add, pk_mul, nI_1, zn_ltT, zn_ltF, zn_leT, zn_leF, zn_eqT, zn_eqF, zn_in, zn_cl, zn_sub, zn_upS, zn_upN, zn_upO, zn_z, zn_lt0, zn_le0, zn_0le, zn_m1, zn_in0, zn_in1, zn_cl0, zn_cl1, zn_g1, zn_1F, zn_1T, zn_zT, zn_1le, zn_lt1, zn_le1]))
    all_goals (first | (with_reducible exact q) | omega | ((try simp only [ge_iff_le, gt_iff_lt, ← Int32.not_lt, Classical.not_not] at *); (first | (with_reducible rfl) | ((try simp only [ge_iff_le, gt_iff_lt, ← Int32.not_lt, Classical.not_not] at q); (try simp (disch := omega) only [*, zn_upS, zn_upN, zn_upO, if_true, if_false, ite_self, true_or, or_true, false_or, or_false, true_and, and_true, false_and, and_false, not_true_eq_false, not_false_eq_true, cond_true, cond_false, decide_true, decide_false, Bool.true_and, Bool.and_true, Bool.false_and, Bool.and_false, Bool.true_or, Bool.or_true, Bool.false_or, Bool.or_false, Bool.not_true, Bool.not_false, ne_eq, Nat.reduceEqDiff] at q); first | (with_reducible exact q) | omega))) | assumption | (unfold r_isIn; split <;> simp; done) | (unfold r_has; split <;> simp; done) | ((repeat' (first | (with_reducible exact q) | split at q)); all_goals (first | (exfalso; omega) | (exfalso; simp_all; done))) | exact q)
  · by_cases h1 : f = 1
    · subst h1
      refine e_X10_turns rfl ?_
      refine z_wp_run (cut := [11, 38]) 41 _ _ _ _ ?_
      repeat' (first | (with_reducible refine And.intro ?_ ?_) | (with_reducible intro _) | (with_reducible refine z_go (i := 11) (cut := [11, 38]) 41 ?_) | (with_reducible refine z_go (i := 38) (cut := [11, 38]) 41 ?_) | (simp (maxSteps := 1000000) (disch := omega) only [z_wp, Bool.false_eq_true, ↓reduceIte, z_e10, z_e01, eq_self, Int32.reduceLT, Int32.reduceLE, Int32.reduceGT, Int32.reduceGE, z_in, cond_true, cond_false, Nat.reduceAdd, Nat.reduceBEq, z_nth, z_set, z_clr, z_st1, z_st2, z_isL, z_opt, z_pop, z_cats, z_cat, c_X10_turns_0, c_X10_turns_1, c_X10_turns_2, c_X10_turns_3, c_X10_turns_4, c_X10_turns_5, c_X10_turns_6, c_X10_turns_7, c_X10_turns_8, c_X10_turns_9, c_X10_turns_10, c_X10_turns_11, c_X10_turns_12, c_X10_turns_13, c_X10_turns_14, c_X10_turns_15, c_X10_turns_16, c_X10_turns_17, c_X10_turns_18, c_X10_turns_19, c_X10_turns_20, c_X10_turns_21, c_X10_turns_22, c_X10_turns_23, c_X10_turns_24, c_X10_turns_25, c_X10_turns_26, c_X10_turns_27, c_X10_turns_28, c_X10_turns_29, c_X10_turns_30, c_X10_turns_31, c_X10_turns_32, c_X10_turns_33, c_X10_turns_34, c_X10_turns_35, c_X10_turns_36, c_X10_turns_37, c_X10_turns_38, o_aload, o_bin, o_getr, o_goto, o_iald, o_iast, o_ic, o_icmp, o_iload, o_ret, z_len, z_elt, z_isI, z_isJ, Nat.reduceEqDiff, Nat.reduceLeDiff, Nat.reduceLT, Nat.reduceSub, Nat.reduceMul, not_false_eq_true, not_true_eq_false, true_and, and_true, true_or, or_true, false_or, or_false, true_implies, false_implies, implies_true, forall_const, and_self, ne_eq, Classical.not_not, z_up2, z_cp2, z_upL1, z_upL2, if_true, if_false, and_false, false_and, ge_iff_le, gt_iff_lt, nI_add, pk_mul, nI_1, zn_ltT, zn_ltF, zn_leT, zn_leF, zn_eqT, zn_eqF, zn_in, zn_cl, zn_sub, zn_upS, zn_upN, zn_upO, zn_z, zn_lt0, zn_le0, zn_0le, zn_m1, zn_in0, zn_in1, zn_cl0, zn_cl1, zn_g1, zn_1F, zn_1T, zn_zT, zn_1le, zn_lt1, zn_le1]))
      all_goals (first | (with_reducible exact q) | omega | ((try simp only [ge_iff_le, gt_iff_lt, ← Int32.not_lt, Classical.not_not] at *); (first | (with_reducible rfl) | ((try simp only [ge_iff_le, gt_iff_lt, ← Int32.not_lt, Classical.not_not] at q); (try simp (disch := omega) only [*, zn_upS, zn_upN, zn_upO, if_true, if_false, ite_self, true_or, or_true, false_or, or_false, true_and, and_true, false_and, and_false, not_true_eq_false, not_false_eq_true, cond_true, cond_false, decide_true, decide_false, Bool.true_and, Bool.and_true, Bool.false_and, Bool.and_false, Bool.true_or, Bool.or_true, Bool.false_or, Bool.or_false, Bool.not_true, Bool.not_false, ne_eq, Nat.reduceEqDiff] at q); first | (with_reducible exact q) | omega))) | assumption | (unfold r_isIn; split <;> simp; done) | (unfold r_has; split <;> simp; done) | ((repeat' (first | (with_reducible exact q) | split at q)); all_goals (first | (exfalso; omega) | (exfalso; simp_all; done))) | exact q)
    · refine e_X10_turns rfl ?_
      refine z_wp_run (cut := [11, 38]) 41 _ _ _ _ ?_
      repeat' (first | (with_reducible refine And.intro ?_ ?_) | (with_reducible intro _) | (with_reducible refine z_go (i := 11) (cut := [11, 38]) 41 ?_) | (with_reducible refine z_go (i := 38) (cut := [11, 38]) 41 ?_) | (simp (maxSteps := 1000000) (disch := omega) only [z_wp, Bool.false_eq_true, ↓reduceIte, z_e10, z_e01, eq_self, Int32.reduceLT, Int32.reduceLE, Int32.reduceGT, Int32.reduceGE, z_in, cond_true, cond_false, Nat.reduceAdd, Nat.reduceBEq, z_nth, z_set, z_clr, z_st1, z_st2, z_isL, z_opt, z_pop, z_cats, z_cat, c_X10_turns_0, c_X10_turns_1, c_X10_turns_2, c_X10_turns_3, c_X10_turns_4, c_X10_turns_5, c_X10_turns_6, c_X10_turns_7, c_X10_turns_8, c_X10_turns_9, c_X10_turns_10, c_X10_turns_11, c_X10_turns_12, c_X10_turns_13, c_X10_turns_14, c_X10_turns_15, c_X10_turns_16, c_X10_turns_17, c_X10_turns_18, c_X10_turns_19, c_X10_turns_20, c_X10_turns_21, c_X10_turns_22, c_X10_turns_23, c_X10_turns_24, c_X10_turns_25, c_X10_turns_26, c_X10_turns_27, c_X10_turns_28, c_X10_turns_29, c_X10_turns_30, c_X10_turns_31, c_X10_turns_32, c_X10_turns_33, c_X10_turns_34, c_X10_turns_35, c_X10_turns_36, c_X10_turns_37, c_X10_turns_38, o_aload, o_bin, o_getr, o_goto, o_iald, o_iast, o_ic, o_icmp, o_iload, o_ret, z_len, z_elt, z_isI, z_isJ, Nat.reduceEqDiff, Nat.reduceLeDiff, Nat.reduceLT, Nat.reduceSub, Nat.reduceMul, not_false_eq_true, not_true_eq_false, true_and, and_true, true_or, or_true, false_or, or_false, true_implies, false_implies, implies_true, forall_const, and_self, ne_eq, Classical.not_not, z_up2, z_cp2, z_upL1, z_upL2, if_true, if_false, and_false, false_and, ge_iff_le, gt_iff_lt, nI_add, pk_mul, nI_1, zn_ltT, zn_ltF, zn_leT, zn_leF, zn_eqT, zn_eqF, zn_in, zn_cl, zn_sub, zn_upS, zn_upN, zn_upO, zn_z, zn_lt0, zn_le0, zn_0le, zn_m1, zn_in0, zn_in1, zn_cl0, zn_cl1, zn_g1, zn_1F, zn_1T, zn_zT, zn_1le, zn_lt1, zn_le1]))
      all_goals (first | (with_reducible exact q) | omega | ((try simp only [ge_iff_le, gt_iff_lt, ← Int32.not_lt, Classical.not_not] at *); (first | (with_reducible rfl) | ((try simp only [ge_iff_le, gt_iff_lt, ← Int32.not_lt, Classical.not_not] at q); (try simp (disch := omega) only [*, zn_upS, zn_upN, zn_upO, if_true, if_false, ite_self, true_or, or_true, false_or, or_false, true_and, and_true, false_and, and_false, not_true_eq_false, not_false_eq_true, cond_true, cond_false, decide_true, decide_false, Bool.true_and, Bool.and_true, Bool.false_and, Bool.and_false, Bool.true_or, Bool.or_true, Bool.false_or, Bool.or_false, Bool.not_true, Bool.not_false, ne_eq, Nat.reduceEqDiff] at q); first | (with_reducible exact q) | omega))) | assumption | (unfold r_isIn; split <;> simp; done) | (unfold r_has; split <;> simp; done) | ((repeat' (first | (with_reducible exact q) | split at q)); all_goals (first | (exfalso; omega) | (exfalso; simp_all; done))) | exact q)
theorem e_X10_fades {h : Nat} {a0 : zId} {a1 : Int32} {a2 : Int32} {M : zMem} {K : zK} (ha0 : (a0.1 == 99) = false) (q : z_run (z_nop k_X10_fades) (z_call h) K 0 [.inr (.inr a0), .inl a1, .inl a2] [] M) : z_call (h + 1) 176 [.inr (.inr a0), .inl a1, .inl a2] M K := ⟨by simp only [List.all_cons, List.all_nil, z_isU, ha0]; rfl, q⟩
theorem c_X10_fades_0 : z_nop k_X10_fades 0 = o_aload 0 := rfl
theorem c_X10_fades_1 : z_nop k_X10_fades 1 = o_iload 1 := rfl
theorem c_X10_fades_2 : z_nop k_X10_fades 2 = o_iload 2 := rfl
theorem c_X10_fades_3 : z_nop k_X10_fades 3 = o_callv 11 174 3 := rfl
theorem c_X10_fades_4 : z_nop k_X10_fades 4 = o_if (fun x => x ≠ 0) 6 := rfl
theorem c_X10_fades_5 : z_nop k_X10_fades 5 = o_ret := rfl
theorem c_X10_fades_6 : z_nop k_X10_fades 6 = o_aload 0 := rfl
theorem c_X10_fades_7 : z_nop k_X10_fades 7 = o_iload 1 := rfl
theorem c_X10_fades_8 : z_nop k_X10_fades 8 = o_iload 2 := rfl
theorem c_X10_fades_9 : z_nop k_X10_fades 9 = o_ic 0 := rfl
theorem c_X10_fades_10 : z_nop k_X10_fades 10 = o_callv 11 175 4 := rfl
theorem c_X10_fades_11 : z_nop k_X10_fades 11 = o_aload 0 := rfl
theorem c_X10_fades_12 : z_nop k_X10_fades 12 = o_ic (nI 9) := rfl
theorem c_X10_fades_13 : z_nop k_X10_fades 13 = o_ic 1 := rfl
theorem c_X10_fades_14 : z_nop k_X10_fades 14 = o_callv 11 168 3 := rfl
theorem c_X10_fades_15 : z_nop k_X10_fades 15 = o_ret := rfl

def n_fades (M : zMem) (t f : Nat) : zMem := if r_fl M t f = 0 then M else n_counts (n_turns M t f 0) 9 1
set_option maxRecDepth 100000 in
theorem s_fades {h t f : Nat} {M : zMem} {K : zK} (ht : t < 24) (hf : f < 5) (q : K none (n_fades M t f)) : z_call (h + 2) 176 [.inr (.inr (11, 0, 0)), .inl (nI t), .inl (nI f)] M K := by
  unfold n_fades at q
  refine e_X10_fades rfl ?_
  refine z_wp_run (cut := [4, 6, 11, 15]) 18 _ _ _ _ ?_
  repeat' (first | (with_reducible refine And.intro ?_ ?_) | (with_reducible intro _) | (refine (s_fl ht hf) ?_) | (refine (s_turns ht hf) ?_) | (refine (s_counts (by decide)) ?_) | (with_reducible refine z_go (i := 4) (cut := [4, 6, 11, 15]) 18 ?_) | (with_reducible refine z_go (i := 6) (cut := [4, 6, 11, 15]) 18 ?_) | (with_reducible refine z_go (i := 11) (cut := [4, 6, 11, 15]) 18 ?_) | (with_reducible refine z_go (i := 15) (cut := [4, 6, 11, 15]) 18 ?_) | (simp (maxSteps := 1000000) (disch := omega) only [z_wp, Bool.false_eq_true, ↓reduceIte, z_e10, z_e01, eq_self, Int32.reduceLT, Int32.reduceLE, Int32.reduceGT, Int32.reduceGE, z_in, cond_true, cond_false, Nat.reduceAdd, Nat.reduceBEq, z_nth, z_set, z_clr, z_st1, z_st2, z_isL, z_opt, z_pop, z_cats, z_cat, c_X10_fades_0, c_X10_fades_1, c_X10_fades_2, c_X10_fades_3, c_X10_fades_4, c_X10_fades_5, c_X10_fades_6, c_X10_fades_7, c_X10_fades_8, c_X10_fades_9, c_X10_fades_10, c_X10_fades_11, c_X10_fades_12, c_X10_fades_13, c_X10_fades_14, c_X10_fades_15, o_aload, o_callv, o_ic, o_if, o_iload, o_ret, z_len, z_elt, z_isI, z_isJ, Nat.reduceEqDiff, Nat.reduceLeDiff, Nat.reduceLT, Nat.reduceSub, Nat.reduceMul, not_false_eq_true, not_true_eq_false, true_and, and_true, true_or, or_true, false_or, or_false, true_implies, false_implies, implies_true, forall_const, and_self, ne_eq, Classical.not_not, z_up2, z_cp2, z_upL1, z_upL2, if_true, if_false, and_false, false_and, ge_iff_le, gt_iff_lt, nI_add, pk_mul, nI_1, zn_ltT, zn_ltF, zn_leT, zn_leF, zn_eqT, zn_eqF, zn_in, zn_cl, zn_sub, zn_upS, zn_upN, zn_upO, zn_z, zn_lt0, zn_le0, zn_0le, zn_m1, zn_in0, zn_in1, zn_cl0, zn_cl1, zn_g1, zn_1F, zn_1T, zn_zT, zn_1le, zn_lt1, zn_le1]))
  all_goals (first | (with_reducible exact q) | omega | ((try simp only [ge_iff_le, gt_iff_lt, ← Int32.not_lt, Classical.not_not] at *); (first | (with_reducible rfl) | ((try simp only [ge_iff_le, gt_iff_lt, ← Int32.not_lt, Classical.not_not] at q); (try simp (disch := omega) only [*, zn_upS, zn_upN, zn_upO, if_true, if_false, ite_self, true_or, or_true, false_or, or_false, true_and, and_true, false_and, and_false, not_true_eq_false, not_false_eq_true, cond_true, cond_false, decide_true, decide_false, Bool.true_and, Bool.and_true, Bool.false_and, Bool.and_false, Bool.true_or, Bool.or_true, Bool.false_or, Bool.or_false, Bool.not_true, Bool.not_false, ne_eq, Nat.reduceEqDiff] at q); first | (with_reducible exact q) | omega))) | assumption | (unfold r_isIn; split <;> simp; done) | (unfold r_has; split <;> simp; done) | ((repeat' (first | (with_reducible exact q) | split at q)); all_goals (first | (exfalso; omega) | (exfalso; simp_all; done))) | exact q)
theorem e_X10_isFree {h : Nat} {a0 : zId} {a1 : Int32} {M : zMem} {K : zK} (ha0 : (a0.1 == 99) = false) (q : z_run (z_nop k_X10_isFree) (z_call h) K 0 [.inr (.inr a0), .inl a1] [] M) : z_call (h + 1) 185 [.inr (.inr a0), .inl a1] M K := ⟨by simp only [List.all_cons, List.all_nil, z_isU, ha0]; rfl, q⟩
theorem c_X10_isFree_0 : z_nop k_X10_isFree 0 = o_aload 0 := rfl
theorem c_X10_isFree_1 : z_nop k_X10_isFree 1 = o_getr 11 (fun w i => (24, 0, 0)) := rfl
theorem c_X10_isFree_2 : z_nop k_X10_isFree 2 = o_ic (nI 550) := rfl
theorem c_X10_isFree_3 : z_nop k_X10_isFree 3 = o_iload 1 := rfl
theorem c_X10_isFree_4 : z_nop k_X10_isFree 4 = o_bin (fun x y => x + y) := rfl
theorem c_X10_isFree_5 : z_nop k_X10_isFree 5 = o_ic (-1) := rfl
theorem c_X10_isFree_6 : z_nop k_X10_isFree 6 = o_iast := rfl
theorem c_X10_isFree_7 : z_nop k_X10_isFree 7 = o_aload 0 := rfl
theorem c_X10_isFree_8 : z_nop k_X10_isFree 8 = o_getr 11 (fun w i => (24, 0, 0)) := rfl
theorem c_X10_isFree_9 : z_nop k_X10_isFree 9 = o_ic (nI 574) := rfl
theorem c_X10_isFree_10 : z_nop k_X10_isFree 10 = o_iload 1 := rfl
theorem c_X10_isFree_11 : z_nop k_X10_isFree 11 = o_bin (fun x y => x + y) := rfl
theorem c_X10_isFree_12 : z_nop k_X10_isFree 12 = o_ic (-1) := rfl
theorem c_X10_isFree_13 : z_nop k_X10_isFree 13 = o_iast := rfl
theorem c_X10_isFree_14 : z_nop k_X10_isFree 14 = o_ret := rfl

def n_isFree (M : zMem) (t : Nat) : zMem := z_up (z_up M 24 0 0 (550 + t) (-1)) 24 0 0 (574 + t) (-1)
set_option maxRecDepth 100000 in
theorem s_mIsFree {h t : Nat} {M : zMem} {K : zK} (ht : t < 24) (q : K none (n_isFree M t)) : z_call (h + 1) 185 [.inr (.inr (11, 0, 0)), .inl (nI t)] M K := by
  refine e_X10_isFree rfl ?_
  refine z_wp_run (cut := []) 17 _ _ _ _ ?_
  repeat' (first | (with_reducible refine And.intro ?_ ?_) | (with_reducible intro _) | (simp (maxSteps := 1000000) (disch := omega) only [z_wp, Bool.false_eq_true, ↓reduceIte, z_e10, z_e01, eq_self, Int32.reduceLT, Int32.reduceLE, Int32.reduceGT, Int32.reduceGE, z_in, cond_true, cond_false, Nat.reduceAdd, Nat.reduceBEq, z_nth, z_set, z_clr, z_st1, z_st2, z_isL, z_opt, z_pop, z_cats, z_cat, c_X10_isFree_0, c_X10_isFree_1, c_X10_isFree_2, c_X10_isFree_3, c_X10_isFree_4, c_X10_isFree_5, c_X10_isFree_6, c_X10_isFree_7, c_X10_isFree_8, c_X10_isFree_9, c_X10_isFree_10, c_X10_isFree_11, c_X10_isFree_12, c_X10_isFree_13, c_X10_isFree_14, o_aload, o_bin, o_getr, o_iast, o_ic, o_iload, o_ret, z_len, z_elt, z_isI, z_isJ, Nat.reduceEqDiff, Nat.reduceLeDiff, Nat.reduceLT, Nat.reduceSub, Nat.reduceMul, not_false_eq_true, not_true_eq_false, true_and, and_true, true_or, or_true, false_or, or_false, true_implies, false_implies, implies_true, forall_const, and_self, ne_eq, Classical.not_not, z_up2, z_cp2, z_upL1, z_upL2, if_true, if_false, and_false, false_and, ge_iff_le, gt_iff_lt, nI_add, pk_mul, nI_1, zn_ltT, zn_ltF, zn_leT, zn_leF, zn_eqT, zn_eqF, zn_in, zn_cl, zn_sub, zn_upS, zn_upN, zn_upO, zn_z, zn_lt0, zn_le0, zn_0le, zn_m1, zn_in0, zn_in1, zn_cl0, zn_cl1, zn_g1, zn_1F, zn_1T, zn_zT, zn_1le, zn_lt1, zn_le1]))
  all_goals (first | (with_reducible exact q) | omega | ((try simp only [ge_iff_le, gt_iff_lt, ← Int32.not_lt, Classical.not_not] at *); (first | (with_reducible rfl) | ((try simp only [n_isFree] at q); (try simp only [ge_iff_le, gt_iff_lt, ← Int32.not_lt, Classical.not_not] at q); (try simp (disch := omega) only [*, zn_upS, zn_upN, zn_upO, if_true, if_false, ite_self, true_or, or_true, false_or, or_false, true_and, and_true, false_and, and_false, not_true_eq_false, not_false_eq_true, cond_true, cond_false, decide_true, decide_false, Bool.true_and, Bool.and_true, Bool.false_and, Bool.and_false, Bool.true_or, Bool.or_true, Bool.false_or, Bool.or_false, Bool.not_true, Bool.not_false, ne_eq, Nat.reduceEqDiff] at q); first | (with_reducible exact q) | omega))) | assumption | (unfold r_isIn; split <;> simp; done) | (unfold r_has; split <;> simp; done) | ((try simp only [n_isFree] at q); (repeat' (first | (with_reducible exact q) | split at q)); all_goals (first | (exfalso; omega) | (exfalso; simp_all; done))) | exact q)
theorem e_X10_qOf {h : Nat} {a0 : zId} {a1 : Int32} {M : zMem} {K : zK} (ha0 : (a0.1 == 99) = false) (q : z_run (z_nop k_X10_qOf) (z_call h) K 0 [.inr (.inr a0), .inl a1] [] M) : z_call (h + 1) 204 [.inr (.inr a0), .inl a1] M K := ⟨by simp only [List.all_cons, List.all_nil, z_isU, ha0]; rfl, q⟩
theorem c_X10_qOf_0 : z_nop k_X10_qOf 0 = o_aload 0 := rfl
theorem c_X10_qOf_1 : z_nop k_X10_qOf 1 = o_getr 11 (fun w i => (24, 0, 0)) := rfl
theorem c_X10_qOf_2 : z_nop k_X10_qOf 2 = o_ic (nI 266) := rfl
theorem c_X10_qOf_3 : z_nop k_X10_qOf 3 = o_iload 1 := rfl
theorem c_X10_qOf_4 : z_nop k_X10_qOf 4 = o_bin (fun x y => x + y) := rfl
theorem c_X10_qOf_5 : z_nop k_X10_qOf 5 = o_iald := rfl
theorem c_X10_qOf_6 : z_nop k_X10_qOf 6 = o_ic (nI 4) := rfl
theorem c_X10_qOf_7 : z_nop k_X10_qOf 7 = o_bin (fun x y => x + y) := rfl
theorem c_X10_qOf_8 : z_nop k_X10_qOf 8 = o_ic (nI 8) := rfl
theorem c_X10_qOf_9 : z_nop k_X10_qOf 9 = o_divi (fun x y => x / y) := rfl
theorem c_X10_qOf_10 : z_nop k_X10_qOf 10 = o_iret := rfl

def r_qOf (M : zMem) (r : Nat) : Int32 := ((M.1 24 0 0 (266 + r)) + 4) / 8
set_option maxRecDepth 100000 in
theorem s_qOf {h r : Nat} {M : zMem} {K : zK} (hr : r < 4) (q : K (some (.inl (r_qOf M r))) M) : z_call (h + 1) 204 [.inr (.inr (11, 0, 0)), .inl (nI r)] M K := by
  refine e_X10_qOf rfl ?_
  refine z_wp_run (cut := []) 13 _ _ _ _ ?_
  repeat' (first | (with_reducible refine And.intro ?_ ?_) | (with_reducible intro _) | (simp (maxSteps := 1000000) (disch := omega) only [z_wp, Bool.false_eq_true, ↓reduceIte, z_e10, z_e01, eq_self, Int32.reduceLT, Int32.reduceLE, Int32.reduceGT, Int32.reduceGE, z_in, cond_true, cond_false, Nat.reduceAdd, Nat.reduceBEq, z_nth, z_set, z_clr, z_st1, z_st2, z_isL, z_opt, z_pop, z_cats, z_cat, c_X10_qOf_0, c_X10_qOf_1, c_X10_qOf_2, c_X10_qOf_3, c_X10_qOf_4, c_X10_qOf_5, c_X10_qOf_6, c_X10_qOf_7, c_X10_qOf_8, c_X10_qOf_9, c_X10_qOf_10, o_aload, o_bin, o_divi, o_getr, o_iald, o_ic, o_iload, o_iret, z_len, z_elt, z_isI, z_isJ, Nat.reduceEqDiff, Nat.reduceLeDiff, Nat.reduceLT, Nat.reduceSub, Nat.reduceMul, not_false_eq_true, not_true_eq_false, true_and, and_true, true_or, or_true, false_or, or_false, true_implies, false_implies, implies_true, forall_const, and_self, ne_eq, Classical.not_not, z_up2, z_cp2, z_upL1, z_upL2, if_true, if_false, and_false, false_and, ge_iff_le, gt_iff_lt, nI_add, pk_mul, nI_1, zn_ltT, zn_ltF, zn_leT, zn_leF, zn_eqT, zn_eqF, zn_in, zn_cl, zn_sub, zn_upS, zn_upN, zn_upO, zn_z, zn_lt0, zn_le0, zn_0le, zn_m1, zn_in0, zn_in1, zn_cl0, zn_cl1, zn_g1, zn_1F, zn_1T, zn_zT, zn_1le, zn_lt1, zn_le1]))
  all_goals (first | (with_reducible exact q) | omega | ((try simp only [ge_iff_le, gt_iff_lt, ← Int32.not_lt, Classical.not_not] at *); (first | (with_reducible rfl) | ((try simp only [r_qOf] at q); (try simp only [ge_iff_le, gt_iff_lt, ← Int32.not_lt, Classical.not_not] at q); (try simp (disch := omega) only [*, zn_upS, zn_upN, zn_upO, if_true, if_false, ite_self, true_or, or_true, false_or, or_false, true_and, and_true, false_and, and_false, not_true_eq_false, not_false_eq_true, cond_true, cond_false, decide_true, decide_false, Bool.true_and, Bool.and_true, Bool.false_and, Bool.and_false, Bool.true_or, Bool.or_true, Bool.false_or, Bool.or_false, Bool.not_true, Bool.not_false, ne_eq, Nat.reduceEqDiff] at q); first | (with_reducible exact q) | omega))) | assumption | (unfold r_isIn; split <;> simp; done) | (unfold r_has; split <;> simp; done) | ((try simp only [r_qOf] at q); (repeat' (first | (with_reducible exact q) | split at q)); all_goals (first | (exfalso; omega) | (exfalso; simp_all; done))) | exact q)
theorem e_X10_prefixAt {h : Nat} {a0 : Int32} {a1 : Int32} {a2 : Int32} {M : zMem} {K : zK} (q : z_run (z_nop k_X10_prefixAt) (z_call h) K 0 [.inl a0, .inl a1, .inl a2] [] M) : z_call (h + 1) 207 [.inl a0, .inl a1, .inl a2] M K := ⟨by simp only [List.all_cons, List.all_nil, z_isU]; rfl, q⟩
theorem c_X10_prefixAt_0 : z_nop k_X10_prefixAt 0 = o_iload 0 := rfl
theorem c_X10_prefixAt_1 : z_nop k_X10_prefixAt 1 = o_ic (nI 3) := rfl
theorem c_X10_prefixAt_2 : z_nop k_X10_prefixAt 2 = o_ic (nI 900) := rfl
theorem c_X10_prefixAt_3 : z_nop k_X10_prefixAt 3 = o_iload 1 := rfl
theorem c_X10_prefixAt_4 : z_nop k_X10_prefixAt 4 = o_bin (fun x y => x * y) := rfl
theorem c_X10_prefixAt_5 : z_nop k_X10_prefixAt 5 = o_iload 2 := rfl
theorem c_X10_prefixAt_6 : z_nop k_X10_prefixAt 6 = o_bin (fun x y => x + y) := rfl
theorem c_X10_prefixAt_7 : z_nop k_X10_prefixAt 7 = o_bin (fun x y => x * y) := rfl
theorem c_X10_prefixAt_8 : z_nop k_X10_prefixAt 8 = o_bin (fun x y => x + y) := rfl
theorem c_X10_prefixAt_9 : z_nop k_X10_prefixAt 9 = o_iret := rfl

set_option maxRecDepth 100000 in
theorem s_prefixAt {h b r i : Nat} {M : zMem} {K : zK} (q : K (some (.inl (nI (b + 3 * (900 * r + i))))) M) : z_call (h + 1) 207 [.inl (nI b), .inl (nI r), .inl (nI i)] M K := by
  refine e_X10_prefixAt  ?_
  refine z_wp_run (cut := []) 12 _ _ _ _ ?_
  repeat' (first | (with_reducible refine And.intro ?_ ?_) | (with_reducible intro _) | (simp (maxSteps := 1000000) (disch := omega) only [z_wp, Bool.false_eq_true, ↓reduceIte, z_e10, z_e01, eq_self, Int32.reduceLT, Int32.reduceLE, Int32.reduceGT, Int32.reduceGE, z_in, cond_true, cond_false, Nat.reduceAdd, Nat.reduceBEq, z_nth, z_set, z_clr, z_st1, z_st2, z_isL, z_opt, z_pop, z_cats, z_cat, c_X10_prefixAt_0, c_X10_prefixAt_1, c_X10_prefixAt_2, c_X10_prefixAt_3, c_X10_prefixAt_4, c_X10_prefixAt_5, c_X10_prefixAt_6, c_X10_prefixAt_7, c_X10_prefixAt_8, c_X10_prefixAt_9, o_bin, o_ic, o_iload, o_iret, z_len, z_elt, z_isI, z_isJ, Nat.reduceEqDiff, Nat.reduceLeDiff, Nat.reduceLT, Nat.reduceSub, Nat.reduceMul, not_false_eq_true, not_true_eq_false, true_and, and_true, true_or, or_true, false_or, or_false, true_implies, false_implies, implies_true, forall_const, and_self, ne_eq, Classical.not_not, z_up2, z_cp2, z_upL1, z_upL2, if_true, if_false, and_false, false_and, ge_iff_le, gt_iff_lt, nI_add, pk_mul, nI_1, zn_ltT, zn_ltF, zn_leT, zn_leF, zn_eqT, zn_eqF, zn_in, zn_cl, zn_sub, zn_upS, zn_upN, zn_upO, zn_z, zn_lt0, zn_le0, zn_0le, zn_m1, zn_in0, zn_in1, zn_cl0, zn_cl1, zn_g1, zn_1F, zn_1T, zn_zT, zn_1le, zn_lt1, zn_le1]))
  all_goals (first | (with_reducible exact q) | omega | ((try simp only [ge_iff_le, gt_iff_lt, ← Int32.not_lt, Classical.not_not] at *); (first | (with_reducible rfl) | ((try simp only [ge_iff_le, gt_iff_lt, ← Int32.not_lt, Classical.not_not] at q); (try simp (disch := omega) only [*, zn_upS, zn_upN, zn_upO, if_true, if_false, ite_self, true_or, or_true, false_or, or_false, true_and, and_true, false_and, and_false, not_true_eq_false, not_false_eq_true, cond_true, cond_false, decide_true, decide_false, Bool.true_and, Bool.and_true, Bool.false_and, Bool.and_false, Bool.true_or, Bool.or_true, Bool.false_or, Bool.or_false, Bool.not_true, Bool.not_false, ne_eq, Nat.reduceEqDiff] at q); first | (with_reducible exact q) | omega))) | assumption | (unfold r_isIn; split <;> simp; done) | (unfold r_has; split <;> simp; done) | ((repeat' (first | (with_reducible exact q) | split at q)); all_goals (first | (exfalso; omega) | (exfalso; simp_all; done))) | exact q)
theorem e_X10_begins {h : Nat} {a0 : Int32} {a1 : Int32} {a2 : Int32} {M : zMem} {K : zK} (q : z_run (z_nop k_X10_begins) (z_call h) K 0 [.inl a0, .inl a1, .inl a2] [] M) : z_call (h + 1) 203 [.inl a0, .inl a1, .inl a2] M K := ⟨by simp only [List.all_cons, List.all_nil, z_isU]; rfl, q⟩
theorem c_X10_begins_0 : z_nop k_X10_begins 0 = o_iload 0 := rfl
theorem c_X10_begins_1 : z_nop k_X10_begins 1 = o_ic (nI 16) := rfl
theorem c_X10_begins_2 : z_nop k_X10_begins 2 = o_iload 1 := rfl
theorem c_X10_begins_3 : z_nop k_X10_begins 3 = o_bin (fun x y => x - y) := rfl
theorem c_X10_begins_4 : z_nop k_X10_begins 4 = o_bin (fun x y => x >>> (y &&& 31)) := rfl
theorem c_X10_begins_5 : z_nop k_X10_begins 5 = o_iload 2 := rfl
theorem c_X10_begins_6 : z_nop k_X10_begins 6 = o_icmp (fun x y => x ≠ y) 9 := rfl
theorem c_X10_begins_7 : z_nop k_X10_begins 7 = o_ic 1 := rfl
theorem c_X10_begins_8 : z_nop k_X10_begins 8 = o_goto 10 := rfl
theorem c_X10_begins_9 : z_nop k_X10_begins 9 = o_ic 0 := rfl
theorem c_X10_begins_10 : z_nop k_X10_begins 10 = o_zret := rfl

def r_mBegins (d b p : Int32) : Int32 := if d >>> ((nI 16 - b) &&& 31) = p then 1 else 0
set_option maxRecDepth 100000 in
theorem s_mBegins {h : Nat} {M : zMem} {d b p : Int32} {K : zK} (q : K (some (.inl (r_mBegins d b p))) M) : z_call (h + 1) 203 [.inl d, .inl b, .inl p] M K := by
  refine e_X10_begins  ?_
  refine z_wp_run (cut := [9]) 13 _ _ _ _ ?_
  repeat' (first | (with_reducible refine And.intro ?_ ?_) | (with_reducible intro _) | (with_reducible refine z_go (i := 9) (cut := [9]) 13 ?_) | (simp (maxSteps := 1000000) (disch := omega) only [z_wp, Bool.false_eq_true, ↓reduceIte, z_e10, z_e01, eq_self, Int32.reduceLT, Int32.reduceLE, Int32.reduceGT, Int32.reduceGE, z_in, cond_true, cond_false, Nat.reduceAdd, Nat.reduceBEq, z_nth, z_set, z_clr, z_st1, z_st2, z_isL, z_opt, z_pop, z_cats, z_cat, c_X10_begins_0, c_X10_begins_1, c_X10_begins_2, c_X10_begins_3, c_X10_begins_4, c_X10_begins_5, c_X10_begins_6, c_X10_begins_7, c_X10_begins_8, c_X10_begins_9, c_X10_begins_10, o_bin, o_goto, o_ic, o_icmp, o_iload, o_zret, z_len, z_elt, z_isI, z_isJ, Nat.reduceEqDiff, Nat.reduceLeDiff, Nat.reduceLT, Nat.reduceSub, Nat.reduceMul, not_false_eq_true, not_true_eq_false, true_and, and_true, true_or, or_true, false_or, or_false, true_implies, false_implies, implies_true, forall_const, and_self, ne_eq, Classical.not_not, z_up2, z_cp2, z_upL1, z_upL2, if_true, if_false, and_false, false_and, ge_iff_le, gt_iff_lt, nI_add, pk_mul, nI_1, zn_ltT, zn_ltF, zn_leT, zn_leF, zn_eqT, zn_eqF, zn_in, zn_cl, zn_sub, zn_upS, zn_upN, zn_upO, zn_z, zn_lt0, zn_le0, zn_0le, zn_m1, zn_in0, zn_in1, zn_cl0, zn_cl1, zn_g1, zn_1F, zn_1T, zn_zT, zn_1le, zn_lt1, zn_le1]))
  all_goals (first | (with_reducible exact q) | omega | ((try simp only [ge_iff_le, gt_iff_lt, ← Int32.not_lt, Classical.not_not] at *); (first | (with_reducible rfl) | ((try simp only [r_mBegins] at q); (try simp only [ge_iff_le, gt_iff_lt, ← Int32.not_lt, Classical.not_not] at q); (try simp (disch := omega) only [*, zn_upS, zn_upN, zn_upO, if_true, if_false, ite_self, true_or, or_true, false_or, or_false, true_and, and_true, false_and, and_false, not_true_eq_false, not_false_eq_true, cond_true, cond_false, decide_true, decide_false, Bool.true_and, Bool.and_true, Bool.false_and, Bool.and_false, Bool.true_or, Bool.or_true, Bool.false_or, Bool.or_false, Bool.not_true, Bool.not_false, ne_eq, Nat.reduceEqDiff] at q); first | (with_reducible exact q) | omega))) | assumption | (unfold r_isIn; split <;> simp; done) | (unfold r_has; split <;> simp; done) | ((try simp only [r_mBegins] at q); (repeat' (first | (with_reducible exact q) | split at q)); all_goals (first | (exfalso; omega) | (exfalso; simp_all; done))) | exact q)
theorem e_X10_slotsOf {h : Nat} {a0 : zId} {a1 : Int32} {M : zMem} {K : zK} (ha0 : (a0.1 == 99) = false) (q : z_run (z_nop k_X10_slotsOf) (z_call h) K 0 [.inr (.inr a0), .inl a1] [] M) : z_call (h + 1) 225 [.inr (.inr a0), .inl a1] M K := ⟨by simp only [List.all_cons, List.all_nil, z_isU, ha0]; rfl, q⟩
theorem c_X10_slotsOf_0 : z_nop k_X10_slotsOf 0 = o_aload 0 := rfl
theorem c_X10_slotsOf_1 : z_nop k_X10_slotsOf 1 = o_getr 11 (fun w i => (24, 0, 0)) := rfl
theorem c_X10_slotsOf_2 : z_nop k_X10_slotsOf 2 = o_ic (nI 310) := rfl
theorem c_X10_slotsOf_3 : z_nop k_X10_slotsOf 3 = o_iload 1 := rfl
theorem c_X10_slotsOf_4 : z_nop k_X10_slotsOf 4 = o_bin (fun x y => x + y) := rfl
theorem c_X10_slotsOf_5 : z_nop k_X10_slotsOf 5 = o_iald := rfl
theorem c_X10_slotsOf_6 : z_nop k_X10_slotsOf 6 = o_aload 0 := rfl
theorem c_X10_slotsOf_7 : z_nop k_X10_slotsOf 7 = o_getr 11 (fun w i => (24, 0, 0)) := rfl
theorem c_X10_slotsOf_8 : z_nop k_X10_slotsOf 8 = o_ic (nI 306) := rfl
theorem c_X10_slotsOf_9 : z_nop k_X10_slotsOf 9 = o_iload 1 := rfl
theorem c_X10_slotsOf_10 : z_nop k_X10_slotsOf 10 = o_bin (fun x y => x + y) := rfl
theorem c_X10_slotsOf_11 : z_nop k_X10_slotsOf 11 = o_iald := rfl
theorem c_X10_slotsOf_12 : z_nop k_X10_slotsOf 12 = o_bin (fun x y => x + y) := rfl
theorem c_X10_slotsOf_13 : z_nop k_X10_slotsOf 13 = o_aload 0 := rfl
theorem c_X10_slotsOf_14 : z_nop k_X10_slotsOf 14 = o_getr 11 (fun w i => (24, 0, 0)) := rfl
theorem c_X10_slotsOf_15 : z_nop k_X10_slotsOf 15 = o_ic (nI 314) := rfl
theorem c_X10_slotsOf_16 : z_nop k_X10_slotsOf 16 = o_iload 1 := rfl
theorem c_X10_slotsOf_17 : z_nop k_X10_slotsOf 17 = o_bin (fun x y => x + y) := rfl
theorem c_X10_slotsOf_18 : z_nop k_X10_slotsOf 18 = o_iald := rfl
theorem c_X10_slotsOf_19 : z_nop k_X10_slotsOf 19 = o_bin (fun x y => x + y) := rfl
theorem c_X10_slotsOf_20 : z_nop k_X10_slotsOf 20 = o_iret := rfl

def r_slotsOf (M : zMem) (r : Nat) : Int32 := (M.1 24 0 0 (310 + r)) + (M.1 24 0 0 (306 + r)) + (M.1 24 0 0 (314 + r))
set_option maxRecDepth 100000 in
theorem s_slotsOf {h r : Nat} {M : zMem} {K : zK} (hr : r < 4) (q : K (some (.inl (r_slotsOf M r))) M) : z_call (h + 1) 225 [.inr (.inr (11, 0, 0)), .inl (nI r)] M K := by
  refine e_X10_slotsOf rfl ?_
  refine z_wp_run (cut := []) 23 _ _ _ _ ?_
  repeat' (first | (with_reducible refine And.intro ?_ ?_) | (with_reducible intro _) | (simp (maxSteps := 1000000) (disch := omega) only [z_wp, Bool.false_eq_true, ↓reduceIte, z_e10, z_e01, eq_self, Int32.reduceLT, Int32.reduceLE, Int32.reduceGT, Int32.reduceGE, z_in, cond_true, cond_false, Nat.reduceAdd, Nat.reduceBEq, z_nth, z_set, z_clr, z_st1, z_st2, z_isL, z_opt, z_pop, z_cats, z_cat, c_X10_slotsOf_0, c_X10_slotsOf_1, c_X10_slotsOf_2, c_X10_slotsOf_3, c_X10_slotsOf_4, c_X10_slotsOf_5, c_X10_slotsOf_6, c_X10_slotsOf_7, c_X10_slotsOf_8, c_X10_slotsOf_9, c_X10_slotsOf_10, c_X10_slotsOf_11, c_X10_slotsOf_12, c_X10_slotsOf_13, c_X10_slotsOf_14, c_X10_slotsOf_15, c_X10_slotsOf_16, c_X10_slotsOf_17, c_X10_slotsOf_18, c_X10_slotsOf_19, c_X10_slotsOf_20, o_aload, o_bin, o_getr, o_iald, o_ic, o_iload, o_iret, z_len, z_elt, z_isI, z_isJ, Nat.reduceEqDiff, Nat.reduceLeDiff, Nat.reduceLT, Nat.reduceSub, Nat.reduceMul, not_false_eq_true, not_true_eq_false, true_and, and_true, true_or, or_true, false_or, or_false, true_implies, false_implies, implies_true, forall_const, and_self, ne_eq, Classical.not_not, z_up2, z_cp2, z_upL1, z_upL2, if_true, if_false, and_false, false_and, ge_iff_le, gt_iff_lt, nI_add, pk_mul, nI_1, zn_ltT, zn_ltF, zn_leT, zn_leF, zn_eqT, zn_eqF, zn_in, zn_cl, zn_sub, zn_upS, zn_upN, zn_upO, zn_z, zn_lt0, zn_le0, zn_0le, zn_m1, zn_in0, zn_in1, zn_cl0, zn_cl1, zn_g1, zn_1F, zn_1T, zn_zT, zn_1le, zn_lt1, zn_le1]))
  all_goals (first | (with_reducible exact q) | omega | ((try simp only [ge_iff_le, gt_iff_lt, ← Int32.not_lt, Classical.not_not] at *); (first | (with_reducible rfl) | ((try simp only [r_slotsOf] at q); (try simp only [ge_iff_le, gt_iff_lt, ← Int32.not_lt, Classical.not_not] at q); (try simp (disch := omega) only [*, zn_upS, zn_upN, zn_upO, if_true, if_false, ite_self, true_or, or_true, false_or, or_false, true_and, and_true, false_and, and_false, not_true_eq_false, not_false_eq_true, cond_true, cond_false, decide_true, decide_false, Bool.true_and, Bool.and_true, Bool.false_and, Bool.and_false, Bool.true_or, Bool.or_true, Bool.false_or, Bool.or_false, Bool.not_true, Bool.not_false, ne_eq, Nat.reduceEqDiff] at q); first | (with_reducible exact q) | omega))) | assumption | (unfold r_isIn; split <;> simp; done) | (unfold r_has; split <;> simp; done) | ((try simp only [r_slotsOf] at q); (repeat' (first | (with_reducible exact q) | split at q)); all_goals (first | (exfalso; omega) | (exfalso; simp_all; done))) | exact q)
