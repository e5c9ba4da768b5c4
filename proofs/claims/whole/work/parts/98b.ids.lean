/-! IDs as numbers; who would be of a taking of stock; queries -/
theorem mem_nI (x : Int32) : x = nI x.toBitVec.toNat := Int32.toBitVec_inj.mp (by show _ = BitVec.ofNat 32 _; simp)
theorem x_idL (R : Nat → Int32) (t : Nat) : x_id R t < 65536 := by
  unfold x_id
  have := (R (478 + t)).toBitVec.isLt
  omega
theorem id_N (R : Nat → Int32) (t : Nat) : z_ush (R (478 + t)) 16 = nI (x_id R t) := by
  have h := (R (478 + t)).toBitVec.isLt
  have e := z_ushN (n := (R (478 + t)).toBitVec.toNat) (k := 16) (by omega) (by decide)
  rw [← mem_nI] at e
  exact e
theorem bt_id (R : Nat → Int32) (t : Nat) {D : Nat} (hD : D < 16) : bt (R (478 + t)) (31 - D) = true ↔ x_id R t / 2 ^ (15 - D) % 2 = 1 := by
  unfold bt x_id
  rw [← BitVec.testBit_toNat, Nat.testBit_eq_decide_div_mod_eq, decide_eq_true_iff, Nat.div_div_eq_div_mul, show 65536 * 2 ^ (15 - D) = 2 ^ (31 - D) by rw [show 65536 = 2 ^ 16 by decide, ← Nat.pow_add]; congr 1; omega]
theorem mb_N {d b p : Nat} (hd : d < 65536) (hb : b ≤ 16) (hp : p < 2147483648) : ¬ r_mBegins (nI d) (nI b) (nI p) = 0 ↔ d / 2 ^ (16 - b) = p := by
  unfold r_mBegins
  rw [sub_n hb, pk_shrN (by omega) _ (16 - b) (s_l (16 - b) (by omega))]
  have key : nI (d / 2 ^ (16 - b)) = nI p ↔ d / 2 ^ (16 - b) = p := nI_eq (Nat.lt_of_le_of_lt (Nat.div_le_self _ _) (by omega)) hp
  split
  · rename_i c
    exact ⟨fun _ => key.mp c, fun _ => by decide⟩
  · rename_i c
    exact ⟨fun z => (z rfl).elim, fun z => (c (key.mpr z)).elim⟩
theorem ask_iff {r se ta so : Int32} : c_stock r se ta so ↔ c_canAsk r se ta so := by
  unfold c_stock c_canAsk
  constructor
  · rintro ⟨a1, a2, a3, a4, a5, a6, a7⟩
    refine ⟨isIn_rd.mpr a5, ?_, isIn_iff.mpr ⟨a3, a4⟩, isIn_iff.mpr ⟨a6, Int32.not_lt.mpr a7⟩⟩
    exact isIn_rd.mpr (fun z => z.elim a1 a2)
  · rintro ⟨a1, a2, a3, a4⟩
    have b2 := isIn_rd.mp a2
    exact ⟨fun z => b2 (.inl z), fun z => b2 (.inr z), (isIn_iff.mp a3).1, (isIn_iff.mp a3).2, isIn_rd.mp a1, (isIn_iff.mp a4).1, Int32.not_lt.mp (isIn_iff.mp a4).2⟩
theorem ask_N {r se ta so : Int32} (h : c_canAsk r se ta so) : ∃ j s x y, j < 4 ∧ s < 4 ∧ x ≤ 1 ∧ y ≤ 2 ∧ r = nI j ∧ se = nI s ∧ ta = nI x ∧ so = nI y := by
  obtain ⟨a1, a2, a3, a4⟩ := h
  obtain ⟨j, hj, e1⟩ := (isIn_N (N := 3) (by decide)).mp a1
  obtain ⟨s, hs, e2⟩ := (isIn_N (N := 3) (by decide)).mp a2
  obtain ⟨x, hx, e3⟩ := (isIn_N (N := 1) (by decide)).mp a3
  obtain ⟨y, hy, e4⟩ := (isIn_N (N := 2) (by decide)).mp a4
  exact ⟨j, s, x, y, by omega, by omega, hx, hy, e1, e2, e3, e4⟩
theorem e_stock {M Mr : zMem} {w T i j s y : Nat} {ta : Int32} (h : S_T M w Mr T i) (hs : s < 4) (hy : y ≤ 2) : p_stock M w (nI j) (nI s) ta (nI y) i = true ↔ c_would Mr j s ta (nI y) i := by
  unfold p_stock c_would r_reaches
  obtain ⟨q1, q2⟩ := S_01 h
  obtain ⟨b4, -, -⟩ := T_bs h
  rw [decide_eq_true_iff, q1, b4, rb_has]
  rcases q2 with q2 | q2
  · exact ⟨fun z => (z.1 q2).elim, fun z => (z.1 q2).elim⟩
  · obtain ⟨f1, f2⟩ := S_flag (f := 4) (by omega) h q2
    have f1 : r_flag M w i 4 = r_fl Mr i 4 := f1
    rw [(T_in h q2).2.1, (S_flag (f := s) (by omega) h q2).1, f1]
    have e : (nI y = 0 ∨ r_fl Mr i 4 = if nI y = 1 then 1 else 0) ↔ (nI y = 0 ∨ (nI y = 1 ↔ r_fl Mr i 4 = 1)) := by
      rcases (show y = 0 ∨ y = 1 ∨ y = 2 by omega) with rfl | rfl | rfl
      · exact ⟨fun _ => .inl rfl, fun _ => .inl rfl⟩
      · rw [if_pos (show nI 1 = 1 from rfl)]
        exact ⟨fun z => .inr ⟨fun _ => z.resolve_left (by decide), fun _ => rfl⟩, fun z => .inr ((z.resolve_left (by decide)).mp rfl)⟩
      · rw [if_neg (show ¬ nI 2 = 1 by decide)]
        refine ⟨fun z => .inr ⟨fun y => absurd y (by decide), fun y => ?_⟩, fun z => .inr (f2.resolve_right (fun y => absurd ((z.resolve_left (by decide)).mpr y) (by decide)))⟩
        rw [z.resolve_left (by decide)] at y
        exact absurd y (by decide)
    rw [e]
theorem e_means {M Mr : zMem} {w T j s y : Nat} {ta : Int32} (h : S_tags M w Mr T) (hs : s < 4) (hy : y ≤ 2) : r_means Mr j s ta (nI y) 24 = r_bc (z_mk (p_stock M w (nI j) (nI s) ta (nI y)) 24) := by
  rw [z_bcM, ← z_ctN]
  refine ct_of rfl (fun n => rfl) 24 (fun n hn => ?_)
  have key := e_stock (j := j) (ta := ta) (h n hn) hs hy
  unfold r_would
  by_cases c : c_would Mr j s ta (nI y) n
  · rw [z_pbT c, if_neg (by decide), if_pos (key.mpr c)]
  · rw [z_pbF c, if_pos rfl, if_neg (fun z => c (key.mp z))]
theorem mk_m1 (p : Nat → Bool) : ¬ z_mk p 24 = -1 := fun z => by
  have a := bt_mk p 24 (by decide) 31 (by decide)
  rw [z, b_m1 31 (by decide)] at a
  exact absurd a (by simp)
theorem fr_means {J : zMem} {j s : Nat} {ta so : Int32} : z_fr J (n_means J j s ta so) := by
  unfold n_means
  exact fr_it (fun i M => by unfold f_mean; exact fr_up40) 24
theorem rk_means {J : zMem} {j s p : Nat} {ta so : Int32} : (n_means J j s ta so).1 24 0 0 p = J.1 24 0 0 p := by
  unfold n_means
  exact zf_mean (by decide)
theorem two_would {J : zMem} {b : Nat} {r se ta so : Int32} (h : SB J b) : z_two J 141 238 [.inl r, .inl se, .inl ta, .inl so] b := by
  obtain ⟨T, c, hT, hc, hs⟩ := h.1
  have h4 := hs.2.2.2.1
  by_cases c : c_canAsk r se ta so
  · obtain ⟨j, s, x, y, hj, hs2, hx, hy, rfl, rfl, rfl, rfl⟩ := ask_N c
    refine two_q2 (J3 := n_means J j s (nI x) (nI y)) h (v := .inl (r_means J j s (nI x) (nI y) 24)) (fun _ K hK => ?_) (fun _ K hK => s_mWould (fun j2 s2 _ _ e1 e2 _ => ?_) (fun z => (z c).elim)) fr_means (fun p => rk_means)
    · refine s9_would (ask_iff.mpr c) (mk_m1 _) ?_
      rw [← e_means h4 hs2 hy]
      exact hK
    · have e3 : j2 = j := ((nI_eq (by omega) (by omega)).mp e1).symm
      have e4 : s2 = s := ((nI_eq (by omega) (by omega)).mp e2).symm
      subst e3 e4
      exact hK
  · refine two_q h (v := .inl (-1)) (fun _ K hK => s9_would0 (fun z => c (ask_iff.mp z)) hK) (fun _ K hK => s_mWould (fun _ _ _ _ _ _ z => (c z).elim) (fun _ => hK))
/-- the tags of a set that begin with a prefix -/
def q_in (mt : Nat → Bool) (idf : Nat → Nat) (D P : Nat) (i : Nat) : Bool := mt i && decide (idf i / 2 ^ (16 - D) = P)
theorem q_half (a D P : Nat) (hD : D < 16) : (a / 2 ^ (16 - D) = P) ↔ (a / 2 ^ (15 - D) = 2 * P ∨ a / 2 ^ (15 - D) = 2 * P + 1) := by
  have e : a / 2 ^ (16 - D) = a / 2 ^ (15 - D) / 2 := by
    rw [Nat.div_div_eq_div_mul, ← Nat.pow_succ]
    congr 2
    omega
  rw [e]
  omega
theorem e_tq {M : zMem} {w : Nat} {N : zMem} {mt : Nat → Bool} {idf : Nat → Nat} (hN : ∀ D P, D ≤ 16 → P < 2147483648 → r_cq N (nI D) (nI P) 24 = nI (fb_ct (q_in mt idf D P) 24)) (hM : ∀ i D, i < 24 → mt i = true → D < 16 → (r_span M w i (nI D) 1 = 1 ↔ idf i / 2 ^ (15 - D) % 2 = 1)) :
    ∀ (d D P : Nat), D + d = 16 → P < 2 ^ D → r_tq M w d (z_mk (q_in mt idf D P) 24) D = r_qf N d (nI D) (nI P)
  | 0, _, _, _, _ => rfl
  | d + 1, D, P, hD, hP => by
    have hP2 : 2 ^ D ≤ 2 ^ 15 := Nat.pow_le_pow_right (by decide) (by omega)
    have hP3 : 2 ^ (D + 1) = 2 ^ D * 2 := Nat.pow_succ ..
    have hl := fb_ct_le (q_in mt idf D P) 24
    have e1 : r_ones M w (z_mk (q_in mt idf D P) 24) D 24 = z_mk (q_in mt idf (D + 1) (2 * P + 1)) 24 := by
      unfold r_ones
      refine z_mkC (fun i hi => ?_)
      rw [z_mkB _ hi]
      unfold q_in
      cases hm : mt i with
      | false =>
        rw [Bool.false_and, Bool.false_and, if_neg (by decide)]
        exact decide_eq_false (fun z => absurd z.1 (by decide))
      | true =>
        rw [Bool.true_and, Bool.true_and, show 16 - (D + 1) = 15 - D by omega]
        have q1 := hM i D hi hm (by omega)
        have q2 := q_half (idf i) D P (by omega)
        by_cases c : idf i / 2 ^ (15 - D) = 2 * P + 1
        · rw [decide_eq_true c, decide_eq_true (q2.mpr (.inr c)), if_pos rfl]
          exact decide_eq_true ⟨rfl, q1.mpr (by omega)⟩
        · rw [decide_eq_false c]
          refine decide_eq_false (fun z => c ?_)
          obtain ⟨z1, z2⟩ := z
          have z3 := q1.mp z2
          by_cases c2 : idf i / 2 ^ (16 - D) = P
          · rcases q2.mp c2 with y | y
            · omega
            · exact y
          · rw [decide_eq_false c2, if_neg (by decide)] at z1
            exact absurd z1 (by decide)
    have e0 : z_mk (q_in mt idf D P) 24 &&& (z_mk (q_in mt idf (D + 1) (2 * P + 1)) 24 ^^^ -1) = z_mk (q_in mt idf (D + 1) (2 * P)) 24 := by
      rw [z_mkD]
      refine z_mkC (fun i hi => ?_)
      unfold q_in
      cases hm : mt i with
      | false => rfl
      | true =>
        rw [Bool.true_and, Bool.true_and, Bool.true_and, show 16 - (D + 1) = 15 - D by omega]
        have q2 := q_half (idf i) D P (by omega)
        by_cases c : idf i / 2 ^ (15 - D) = 2 * P
        · rw [decide_eq_true c, decide_eq_true (q2.mpr (.inl c)), decide_eq_false (show ¬ idf i / 2 ^ (15 - D) = 2 * P + 1 by omega)]
          rfl
        · rw [decide_eq_false c]
          by_cases c2 : idf i / 2 ^ (15 - D) = 2 * P + 1
          · rw [decide_eq_true c2, decide_eq_true (q2.mpr (.inr c2))]
            rfl
          · rw [decide_eq_false (show ¬ idf i / 2 ^ (16 - D) = P from fun z => (q2.mp z).elim c c2)]
            rfl
    rw [r_tq, r_qf, z_bcM, hN D P (by omega) (by omega), e1, e0]
    have c1 : (nI (fb_ct (q_in mt idf D P) 24) ≤ 1) ↔ fb_ct (q_in mt idf D P) 24 ≤ 1 := nI_leI (b := 1) (by omega) (by omega)
    have c2 : (nI 2 ≤ nI (fb_ct (q_in mt idf D P) 24)) ↔ 2 ≤ fb_ct (q_in mt idf D P) 24 := nI_leI (by omega) (by omega)
    rw [e_tq hN hM d (D + 1) (2 * P) (by omega) (by omega), e_tq hN hM d (D + 1) (2 * P + 1) (by omega) (by omega), nI_1, pk_mul, nI_1]
    by_cases c : fb_ct (q_in mt idf D P) 24 ≤ 1
    · rw [if_pos (c1.mpr c), if_neg (fun z => by have := c2.mp z; omega)]
    · rw [if_neg (fun z => c (c1.mp z)), if_pos (c2.mpr (by omega))]
theorem mean_at {M0 : zMem} {r s : Nat} {ta so : Int32} : ∀ (N : Nat) (M : zMem) (n : Nat), n < N → (z_it (f_mean M0 r s ta so) N M).1 40 0 0 n = r_would M0 r s ta so n
  | 0, _, n, h => by omega
  | N + 1, M, n, h => by
    rw [z_itS, f_mean]
    by_cases e : n = N
    · subst e
      exact zn_upS
    · rw [zn_upN e]
      exact mean_at N M n (by omega)
theorem e_cq {N : zMem} {b p : Int32} {P : Nat → Bool} : ∀ n, (∀ i, i < n → ((¬ N.1 40 0 0 i = 0 ∧ ¬ r_mBegins (r_idOf N i) b p = 0) ↔ P i = true)) → r_cq N b p n = nI (fb_ct P n)
  | 0, _ => rfl
  | n + 1, h => by
    rw [r_cq, fb_ct_succ, e_cq n (fun i hi => h i (by omega))]
    have key := h n (by omega)
    by_cases c : P n = true
    · rw [if_pos (key.mpr c), if_pos c]
      exact nI_1 _
    · rw [if_neg (fun z => c (key.mp z)), if_neg c]
      exact Int32.add_zero _
theorem ct_le1 {p : Nat → Bool} : ∀ n, (∀ i j, i < n → j < n → p i = true → p j = true → i = j) → fb_ct p n ≤ 1
  | 0, _ => Nat.zero_le _
  | n + 1, h => by
    rw [fb_ct_succ]
    have ih := ct_le1 n (fun i j hi hj => h i j (by omega) (by omega))
    by_cases c : p n = true
    · rw [if_pos c]
      have z : fb_ct p n = 0 := fb_ct_zero.mpr (fun k hk => by
        cases hp : p k with
        | false => rfl
        | true => have := h k n (by omega) (by omega) hp c; omega)
      omega
    · rw [if_neg c]
      omega
/-- what a tree's questions are of, on the reference's side -/
theorem cq_means {M Mr : zMem} {w T j s y D P : Nat} {ta : Int32} (h : S_tags M w Mr T) (hs : s < 4) (hy : y ≤ 2) (hD : D ≤ 16) (hP : P < 2147483648) : r_cq (n_means Mr j s ta (nI y)) (nI D) (nI P) 24 = nI (fb_ct (q_in (p_stock M w (nI j) (nI s) ta (nI y)) (x_id (Mr.1 24 0 0)) D P) 24) := by
  refine e_cq 24 (fun i hi => ?_)
  have e1 : (n_means Mr j s ta (nI y)).1 40 0 0 i = r_would Mr j s ta (nI y) i := mean_at 24 Mr i hi
  have e2 : r_idOf (n_means Mr j s ta (nI y)) i = nI (x_id (Mr.1 24 0 0) i) := by
    unfold r_idOf
    rw [rk_means]
    exact id_N _ _
  rw [e1, e2, mb_N (x_idL _ _) hD hP]
  unfold q_in r_would
  rw [z_pb0, Classical.not_not, Bool.and_eq_true, e_stock (h i hi) hs hy, decide_eq_true_iff]
theorem cq_hz {M Mr : zMem} {w T j s : Nat} {ta so : Int32} (h : S_tags M w Mr T) (hid : S_ids (Mr.1 24 0 0)) (p : Int32) : ¬ nI 2 ≤ r_cq (n_means Mr j s ta so) (nI 16) p 24 := by
  let P : Nat → Bool := fun i => @decide (c_would Mr j s ta so i ∧ ¬ r_mBegins (nI (x_id (Mr.1 24 0 0) i)) (nI 16) p = 0) (Classical.propDecidable _)
  have e := e_cq (N := n_means Mr j s ta so) (b := nI 16) (p := p) (P := P) 24 (fun i hi => by
    have e1 : (n_means Mr j s ta so).1 40 0 0 i = r_would Mr j s ta so i := mean_at 24 Mr i hi
    have e2 : r_idOf (n_means Mr j s ta so) i = nI (x_id (Mr.1 24 0 0) i) := by
      unfold r_idOf
      rw [rk_means]
      exact id_N _ _
    rw [e1, e2]
    unfold r_would
    rw [z_pb0, Classical.not_not]
    exact (@decide_eq_true_iff _ (Classical.propDecidable _)).symm)
  have l1 : fb_ct P 24 ≤ 1 := by
    refine ct_le1 24 (fun i k hi hk a b => ?_)
    obtain ⟨a1, a2⟩ := (@decide_eq_true_iff _ (Classical.propDecidable _)).mp a
    obtain ⟨b1, b2⟩ := (@decide_eq_true_iff _ (Classical.propDecidable _)).mp b
    have eq : ∀ d, d < 65536 → ¬ r_mBegins (nI d) (nI 16) p = 0 → nI d = p := fun d hd z => by
      unfold r_mBegins at z
      rw [sub_n (show 16 ≤ 16 by omega), pk_shrN (by omega) _ 0 (s_l 0 (by decide))] at z
      have z2 : nI (d / 2 ^ 0) = p := Classical.byContradiction (fun y => z (if_neg y))
      rw [Nat.pow_zero, Nat.div_one] at z2
      exact z2
    have q1 := (S_01 (h i hi)).2.resolve_left a1.1
    have q2 := (S_01 (h k hk)).2.resolve_left b1.1
    refine hid i k hi hk q1 q2 ?_
    rw [id_N, id_N, eq _ (x_idL _ _) a2, eq _ (x_idL _ _) b2]
  rw [e]
  exact nI_ge (by omega) (by omega)
theorem two_queries {J : zMem} {b : Nat} {r se ta so : Int32} (h : SB J b) : z_two J 142 239 [.inl r, .inl se, .inl ta, .inl so] b := by
  obtain ⟨T, c, hT, hc, hs⟩ := h.1
  have h4 := hs.2.2.2.1
  have h7 := hs.2.2.2.2.2.2.1
  by_cases c : c_canAsk r se ta so
  · obtain ⟨j, s, x, y, hj, hs2, hx, hy, rfl, rfl, rfl, rfl⟩ := ask_N c
    have hz : ∀ j2 s2, j2 < 4 → s2 < 4 → nI j = nI j2 → nI s = nI s2 → ∀ p, ¬ nI 2 ≤ r_cq (n_means J j2 s2 (nI x) (nI y)) (nI 16) p 24 := fun j2 s2 _ _ _ _ p => cq_hz h4 h7 p
    refine two_q2 (J3 := n_means J j s (nI x) (nI y)) h (v := .inl (r_qf (n_means J j s (nI x) (nI y)) 16 0 0)) (fun _ K hK => ?_) (fun _ K hK => s_mQueries hz (fun j2 s2 _ _ e1 e2 _ => ?_) (fun z => (z c).elim)) fr_means (fun p => rk_means)
    · refine s9_queries (ask_iff.mpr c) (mk_m1 _) ?_
      have e := e_tq (M := J) (w := 0) (N := n_means J j s (nI x) (nI y)) (mt := p_stock J 0 (nI j) (nI s) (nI x) (nI y)) (idf := x_id (J.1 24 0 0)) (fun D P hD hP => cq_means h4 hs2 hy hD hP) (fun i D hi hm hD => ?_) 16 0 0 (by omega) (by decide)
      · have e2 : z_mk (q_in (p_stock J 0 (nI j) (nI s) (nI x) (nI y)) (x_id (J.1 24 0 0)) 0 0) 24 = z_mk (p_stock J 0 (nI j) (nI s) (nI x) (nI y)) 24 := z_mkC (fun i _ => by
          unfold q_in
          have : x_id (J.1 24 0 0) i / 2 ^ (16 - 0) = 0 := Nat.div_eq_of_lt (x_idL _ _)
          rw [decide_eq_true this, Bool.and_true])
        rw [e2] at e
        rw [e]
        exact hK
      · have q := (e_stock (h4 i hi) hs2 hy).mp hm
        have hin := (S_01 (h4 i hi)).2.resolve_left q.1
        have e3 : r_span J 0 i (nI D) 1 = if bt (J.1 24 0 0 (478 + i)) (31 - D) = true then 1 else 0 := by
          refine (e_spT (b := 1) h4 hi hin (by omega) (by omega)).trans ?_
          unfold r_mBits
          rw [if_neg (by decide), sub_n (show D ≤ 32 by omega), sub_n (show 1 ≤ 32 - D by omega), show 32 - D - 1 = 31 - D by omega]
          exact u_bit _ (by omega)
        rw [e3, ← bt_id _ _ hD]
        split
        · rename_i c
          exact ⟨fun _ => c, fun _ => rfl⟩
        · rename_i c
          exact ⟨fun z => absurd z (by decide), fun z => (c z).elim⟩
    · have e3 : j2 = j := ((nI_eq (by omega) (by omega)).mp e1).symm
      have e4 : s2 = s := ((nI_eq (by omega) (by omega)).mp e2).symm
      subst e3 e4
      exact hK
  · refine two_q h (v := .inl (-1)) (fun _ K hK => s9_queries0 (fun z => c (ask_iff.mp z)) hK) (fun _ K hK => s_mQueries (fun _ _ _ _ _ _ p => cq_hz h4 h7 p) (fun _ _ _ _ _ _ z => (c z).elim) (fun _ => hK))
