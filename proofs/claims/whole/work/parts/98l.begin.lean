/-! a beginning: counts of tags by prefixes -/
theorem x_inQ {R : Nat → Int32} {r D P : Nat} {e : Bool} : x_in R r (D, P, e) = q_in (fun t => decide (R (550 + t) = nI r)) (x_id R) D P := rfl
theorem qf_N {N : zMem} {R : Nat → Int32} {r : Nat} (hN : ∀ D P, D ≤ 16 → P < 2147483648 → r_cq N (nI D) (nI P) 24 = nI (x_cn R r (D, P, false))) : ∀ (d D P : Nat), D + d = 16 → P < 2 ^ D → r_qf N d (nI D) (nI P) = nI (x_qn R r d (D, P, false))
  | 0, _, _, _, _ => rfl
  | d + 1, D, P, hD, hP => by
    have hP2 : 2 ^ D ≤ 2 ^ 15 := Nat.pow_le_pow_right (by decide) (by omega)
    have hP3 : 2 ^ (D + 1) = 2 ^ D * 2 := Nat.pow_succ ..
    have hl : x_cn R r (D, P, false) ≤ 24 := fb_ct_le _ 24
    have c2 : (nI 2 ≤ nI (x_cn R r (D, P, false))) ↔ 2 ≤ x_cn R r (D, P, false) := nI_leI (by omega) (by omega)
    rw [r_qf, x_qn, hN D P (by omega) (by omega), nI_1, pk_mul, nI_1, qf_N hN d (D + 1) (2 * P) (by omega) (by omega), qf_N hN d (D + 1) (2 * P + 1) (by omega) (by omega)]
    by_cases c : x_cn R r (D, P, false) < 2
    · rw [if_neg (fun z => by have := c2.mp z; omega), if_pos c]
      rfl
    · rw [if_pos (c2.mpr (by omega)), if_neg c]
      show nI 1 + _ + _ = _
      rw [nI_add, nI_add]
/-- how many tags of a reader have an ID in a span -/
def x_rg (R : Nat → Int32) (r lo hi : Nat) : Nat := fb_ct (fun t => decide (R (550 + t) = nI r) && (decide (lo ≤ x_id R t) && decide (x_id R t < hi))) 24
theorem x_rgC (R : Nat → Int32) (r : Nat) (x : zX) (hx : x.2.1 * x_sz x + x_sz x ≤ 65536) : x_cn R r x = x_rg R r (x.2.1 * x_sz x) (x.2.1 * x_sz x + x_sz x) := by
  unfold x_cn x_rg
  refine fb_ct_cong (fun t _ => ?_)
  unfold x_in
  congr 1
  have p := x_pos x
  by_cases c : x_id R t / x_sz x = x.2.1
  · rw [decide_eq_true c]
    have q := Nat.div_add_mod (x_id R t) (x_sz x)
    have m := Nat.mod_lt (x_id R t) p
    rw [c, Nat.mul_comm] at q
    rw [decide_eq_true (by omega), decide_eq_true (by omega)]
    rfl
  · rw [decide_eq_false c]
    by_cases c1 : x.2.1 * x_sz x ≤ x_id R t
    · rw [decide_eq_true c1, decide_eq_false (fun z => c ?_)]
      · rfl
      · exact Nat.div_eq_of_lt_le c1 (by rw [Nat.succ_mul]; exact z)
    · rw [decide_eq_false c1]
      rfl
theorem x_rgA (R : Nat → Int32) (r lo mid hi : Nat) (h1 : lo ≤ mid) (h2 : mid ≤ hi) : x_rg R r lo mid + x_rg R r mid hi = x_rg R r lo hi := by
  unfold x_rg
  rw [← fb_ct_or (fun k _ z => ?_)]
  · refine fb_ct_cong (fun t _ => ?_)
    cases decide (R (550 + t) = nI r) with
    | false => rfl
    | true =>
      rw [Bool.true_and, Bool.true_and, Bool.true_and]
      by_cases a : lo ≤ x_id R t <;> by_cases b : x_id R t < mid <;> by_cases c : x_id R t < hi
      · rw [decide_eq_true a, decide_eq_true b, decide_eq_true c, decide_eq_false (show ¬ mid ≤ x_id R t by omega)]
        rfl
      · omega
      · rw [decide_eq_true a, decide_eq_false b, decide_eq_true c, decide_eq_true (show mid ≤ x_id R t by omega)]
        rfl
      · rw [decide_eq_true a, decide_eq_false b, decide_eq_false c]
        simp
      · rw [decide_eq_false a, decide_eq_true b, decide_eq_true c, decide_eq_false (show ¬ mid ≤ x_id R t by omega)]
        rfl
      · omega
      · omega
      · rw [decide_eq_false a, decide_eq_false b, decide_eq_false c]
        simp
  · obtain ⟨z1, z2⟩ := z
    simp only [Bool.and_eq_true, decide_eq_true_iff] at z1 z2
    omega
theorem x_sumCn (R : Nat → Int32) (r : Nat) : ∀ (l : List zX) (lo hi : Nat), x_ch lo l hi → hi ≤ 65536 → x_sum (fun x => x_cn R r x) l = x_rg R r lo hi
  | [], lo, hi, h, _ => by
    have h : lo = hi := h
    subst h
    unfold x_sum x_rg
    refine (fb_ct_zero.mpr (fun k _ => ?_)).symm
    by_cases a : lo ≤ x_id R k
    · rw [decide_eq_false (show ¬ x_id R k < lo by omega)]
      simp
    · rw [decide_eq_false a]
      simp
  | x :: l, lo, hi, h, hh => by
    obtain ⟨a1, a2, a3⟩ := h
    have le := x_le a3
    have ih := x_sumCn R r l (lo + x_sz x) hi a3 hh
    unfold x_sum
    rw [ih]
    have e := x_rgC R r x (by omega)
    rw [a2] at e
    show x_cn R r x + _ = _
    rw [e]
    exact x_rgA R r lo (lo + x_sz x) hi (by omega) le
theorem x_sumM {f g : zX → Nat} (k : Nat) (h : ∀ x, f x ≤ k * (g x / 2)) : ∀ l, x_sum f l ≤ k * (x_sum g l / 2)
  | [] => Nat.zero_le _
  | x :: l => by
    have ih := x_sumM k h l
    have hx := h x
    unfold x_sum
    have e : g x / 2 + x_sum g l / 2 ≤ (g x + x_sum g l) / 2 := by omega
    calc f x + x_sum f l ≤ k * (g x / 2) + k * (x_sum g l / 2) := Nat.add_le_add hx ih
      _ = k * (g x / 2 + x_sum g l / 2) := (Nat.mul_add ..).symm
      _ ≤ _ := Nat.mul_le_mul_left k e
theorem x_bnd (R : Nat → Int32) (r : Nat) (l : List zX) (h : x_ch 0 l 65536) : x_sum (fun x => (16 - x.1) * (x_cn R r x / 2)) l ≤ 192 := by
  have a := x_sumM (f := fun x => (16 - x.1) * (x_cn R r x / 2)) (g := fun x => x_cn R r x) 16 (fun x => Nat.mul_le_mul_right _ (by omega)) l
  have b : x_sum (fun x => x_cn R r x) l ≤ 24 := by
    rw [x_sumCn R r l 0 65536 h (Nat.le_refl _)]
    exact fb_ct_le _ 24
  omega
/-! a beginning: the class's cells, the reference's -/
theorem rd_start {M : zMem} {w r a c d : Nat} {x1 x2 x3 x4 : Int32} : (m_rdStart M w r x1 x2 x3 x4).1 a w c d = if a = 3 ∧ c = 3 * r + 1 ∧ d = 1 then 0 else if a = 8 ∧ c = 2 * r ∧ d < 3 then 0 else if a = 4 ∧ c = r ∧ (d = 10 ∨ d = 11) then 0 else if a = 4 ∧ c = r ∧ d = 8 then x4 else if a = 4 ∧ c = r ∧ d = 7 then x3 else if a = 4 ∧ c = r ∧ d = 6 then x2 else if a = 4 ∧ c = r ∧ d = 5 then x1 else if a = 4 ∧ c = r ∧ d = 1 then 1 else M.1 a w c d := by
  unfold m_rdStart m_pfxClear m_tallyClear
  simp only [z_up1, true_and]
  by_cases e1 : a = 3 ∧ c = 3 * r + 1 ∧ d = 1
  · rw [if_pos e1, if_pos e1]
  rw [if_neg e1, if_neg e1]
  by_cases e2 : a = 8 ∧ c = 2 * r ∧ d < 3
  · rw [if_pos e2]
    split
    · rfl
    split
    · rfl
    split
    · rfl
    omega
  rw [if_neg e2, if_neg (by omega), if_neg (by omega), if_neg (by omega)]
  by_cases e3 : a = 4 ∧ c = r ∧ (d = 10 ∨ d = 11)
  · rw [if_pos e3]
    split
    · rfl
    split
    · rfl
    omega
  rw [if_neg e3, if_neg (by omega), if_neg (by omega)]
theorem rd_b1 {r : Nat} {M : zMem} : ∀ n, n ≤ 5 → ∀ p, (z_it (f_b1 r) n M).1 24 0 0 p = if ∃ k, k < n ∧ p = 306 + 4 * k + r then 0 else (M.1 24 0 0 (p))
  | 0, _, p => by
    rw [if_neg (fun ⟨k, hk, _⟩ => by omega)]
    rfl
  | n + 1, hn, p => by
    rw [z_itS, f_b1]
    by_cases e : p = 306 + 4 * n + r
    · subst e
      rw [zn_upS, if_pos ⟨n, by omega, rfl⟩]
    · rw [zn_upN e, rd_b1 n (by omega)]
      by_cases c : ∃ k, k < n ∧ p = 306 + 4 * k + r
      · obtain ⟨k, hk, c2⟩ := c
        rw [if_pos ⟨k, hk, c2⟩, if_pos ⟨k, by omega, c2⟩]
      · rw [if_neg c, if_neg (fun ⟨k, hk, z⟩ => (Nat.lt_or_ge k n).elim (fun l => c ⟨k, l, z⟩) (fun l => e (by rw [z, show k = n by omega])))]
theorem b1_o {r a b c d : Nat} {M : zMem} (h : ¬ a = 24) : ∀ n, (z_it (f_b1 r) n M).1 a b c d = M.1 a b c d
  | 0 => rfl
  | n + 1 => by
    rw [z_itS, f_b1, zn_upO h]
    exact b1_o h n
def n_bg (M : zMem) (r s : Nat) (ta so mo x : Int32) : zMem := z_it (f_b1 r) 5 (n_beg1 M r s ta so mo x)
theorem rd_bg {M : zMem} {r s p : Nat} {ta so mo x : Int32} (hr : r < 4) : (n_bg M r s ta so mo x).1 24 0 0 p = if p = 306 + r ∨ p = 310 + r ∨ p = 314 + r ∨ p = 318 + r ∨ p = 322 + r then 0 else if p = 294 + r then mo else if p = 290 + r then so else if p = 286 + r then ta else if p = 282 + r then nI s else if p = 278 + r then 1 else if p = 350 + r then 1 else if p = 354 + r then x else (M.1 24 0 0 (p)) := by
  unfold n_bg
  rw [rd_b1 5 (Nat.le_refl _)]
  by_cases e : p = 306 + r ∨ p = 310 + r ∨ p = 314 + r ∨ p = 318 + r ∨ p = 322 + r
  · rw [if_pos e]
    rcases e with e | e | e | e | e
    · rw [if_pos ⟨0, by omega, by omega⟩]
    · rw [if_pos ⟨1, by omega, by omega⟩]
    · rw [if_pos ⟨2, by omega, by omega⟩]
    · rw [if_pos ⟨3, by omega, by omega⟩]
    · rw [if_pos ⟨4, by omega, by omega⟩]
  · rw [if_neg e, if_neg (fun ⟨k, hk, z⟩ => by omega)]
    unfold n_beg1
    by_cases e1 : p = 294 + r
    · rw [if_pos e1, e1, zn_upS]
    rw [if_neg e1, zn_upN e1]
    by_cases e1 : p = 290 + r
    · rw [if_pos e1, e1, zn_upS]
    rw [if_neg e1, zn_upN e1]
    by_cases e1 : p = 286 + r
    · rw [if_pos e1, e1, zn_upS]
    rw [if_neg e1, zn_upN e1]
    by_cases e1 : p = 282 + r
    · rw [if_pos e1, e1, zn_upS]
    rw [if_neg e1, zn_upN e1]
    by_cases e1 : p = 278 + r
    · rw [if_pos e1, e1, zn_upS]
    rw [if_neg e1, zn_upN e1]
    by_cases e1 : p = 350 + r
    · rw [if_pos e1, e1, zn_upS]
    rw [if_neg e1, zn_upN e1]
    by_cases e1 : p = 354 + r
    · rw [if_pos e1, e1, zn_upS]
    rw [if_neg e1, zn_upN e1]
theorem bg_o {M : zMem} {r s a b c d : Nat} {ta so mo x : Int32} (h : ¬ a = 24) : (n_bg M r s ta so mo x).1 a b c d = M.1 a b c d := by
  unfold n_bg
  rw [b1_o h]
  unfold n_beg1
  rw [zn_upO h, zn_upO h, zn_upO h, zn_upO h, zn_upO h, zn_upO h, zn_upO h]
theorem Sim_beg {O : Nat → Prop} {M Mr : zMem} {w T c b r s mo : Nat} {ta so x : Int32} (h : SimZ z_F O M w Mr T c b) (hr : r < 4) (hs : s < 4) (hmo : mo < 4) (hon : Mr.1 24 0 0 (262 + r) = 1) (hid : Mr.1 24 0 0 (278 + r) = 0) : SimZ (fun q => q = r) O (m_rdStart M w r (nI s) ta so (nI mo)) w (n_bg Mr r s ta so (nI mo) x) T c b := by
  obtain ⟨k1, k2, k3, k4, k5, k6⟩ := h.2.2.2.2.2.2.2.2 r hr
  have R : ∀ p, p < 278 ∨ (298 ≤ p ∧ p < 302) ∨ (326 ≤ p ∧ p < 350) ∨ 358 ≤ p → (n_bg Mr r s ta so (nI mo) x).1 24 0 0 p = Mr.1 24 0 0 p := fun p hp => by
    rw [rd_bg hr, if_neg (by omega), if_neg (by omega), if_neg (by omega), if_neg (by omega), if_neg (by omega), if_neg (by omega), if_neg (by omega), if_neg (by omega)]
  have R0 : ∀ p, p = 306 + r ∨ p = 310 + r ∨ p = 314 + r ∨ p = 318 + r ∨ p = 322 + r → (n_bg Mr r s ta so (nI mo) x).1 24 0 0 p = 0 := fun p hp => by
    rw [rd_bg hr, if_pos hp]
  have R278 : (n_bg Mr r s ta so (nI mo) x).1 24 0 0 (278 + r) = 1 := by
    rw [rd_bg hr, if_neg (by omega), if_neg (by omega), if_neg (by omega), if_neg (by omega), if_neg (by omega), if_pos rfl]
  have R282 : (n_bg Mr r s ta so (nI mo) x).1 24 0 0 (282 + r) = nI s := by
    rw [rd_bg hr, if_neg (by omega), if_neg (by omega), if_neg (by omega), if_neg (by omega), if_pos rfl]
  have R286 : (n_bg Mr r s ta so (nI mo) x).1 24 0 0 (286 + r) = ta := by
    rw [rd_bg hr, if_neg (by omega), if_neg (by omega), if_neg (by omega), if_pos rfl]
  have R290 : (n_bg Mr r s ta so (nI mo) x).1 24 0 0 (290 + r) = so := by
    rw [rd_bg hr, if_neg (by omega), if_neg (by omega), if_pos rfl]
  have R294 : (n_bg Mr r s ta so (nI mo) x).1 24 0 0 (294 + r) = nI mo := by
    rw [rd_bg hr, if_neg (by omega), if_pos rfl]
  have z0 : (0 : Int32) = nI 0 := rfl
  refine Sim_rd h hr (fun a c d e => ?_) (fun p e => ?_) (R _ (by omega)) (fun t _ _ => R278) ⟨⟨fun k hk => ?_, fun k hk => ?_⟩, ⟨?_, ?_, ?_, ?_, ?_, ⟨s, hs, R282⟩, ⟨mo, hmo, R294⟩, ?_, ?_⟩, ⟨0, 0, R0 _ (by omega), R0 _ (by omega), Nat.zero_le _⟩, ⟨0, by omega, R0 _ (by omega), fun j hj => by omega, fun i j hi hj => by omega⟩, ?_, fun z => (z rfl).elim⟩ (Nat.le_refl _) (fun s _ _ z => z.elim)
  · unfold C_own at e
    rw [rd_start, if_neg (by omega), if_neg (by omega), if_neg (by omega), if_neg (by omega), if_neg (by omega), if_neg (by omega), if_neg (by omega), if_neg (by omega)]
  · unfold P_own P_bd at e
    rw [rd_bg hr, if_neg (by omega), if_neg (by omega), if_neg (by omega), if_neg (by omega), if_neg (by omega), if_neg (by omega), if_neg (by omega), if_neg (by omega)]
  · rw [rd_start]
    rcases (show k = 0 ∨ k = 1 ∨ k = 2 ∨ k = 3 ∨ k = 4 ∨ k = 5 ∨ k = 6 ∨ k = 7 ∨ k = 8 ∨ k = 9 ∨ k = 10 ∨ k = 11 by omega) with rfl | rfl | rfl | rfl | rfl | rfl | rfl | rfl | rfl | rfl | rfl | rfl
    · rw [if_neg (by omega), if_neg (by omega), if_neg (by omega), if_neg (by omega), if_neg (by omega), if_neg (by omega), if_neg (by omega), if_neg (by omega), show rp_of 0 + r = 262 + r from rfl, R _ (by omega)]
      exact k1.1 0 hk
    · rw [if_neg (by omega), if_neg (by omega), if_neg (by omega), if_neg (by omega), if_neg (by omega), if_neg (by omega), if_neg (by omega), if_pos ⟨rfl, rfl, rfl⟩, show rp_of 1 + r = 278 + r from rfl, R278]
    · rw [if_neg (by omega), if_neg (by omega), if_neg (by omega), if_neg (by omega), if_neg (by omega), if_neg (by omega), if_neg (by omega), if_neg (by omega), show rp_of 2 + r = 266 + r from rfl, R _ (by omega)]
      exact k1.1 2 hk
    · rw [if_neg (by omega), if_neg (by omega), if_neg (by omega), if_neg (by omega), if_neg (by omega), if_neg (by omega), if_neg (by omega), if_neg (by omega), show rp_of 3 + r = 270 + r from rfl, R _ (by omega)]
      exact k1.1 3 hk
    · rw [if_neg (by omega), if_neg (by omega), if_neg (by omega), if_neg (by omega), if_neg (by omega), if_neg (by omega), if_neg (by omega), if_neg (by omega), show rp_of 4 + r = 274 + r from rfl, R _ (by omega)]
      exact k1.1 4 hk
    · rw [if_neg (by omega), if_neg (by omega), if_neg (by omega), if_neg (by omega), if_neg (by omega), if_neg (by omega), if_pos ⟨rfl, rfl, rfl⟩, show rp_of 5 + r = 282 + r from rfl, R282]
    · rw [if_neg (by omega), if_neg (by omega), if_neg (by omega), if_neg (by omega), if_neg (by omega), if_pos ⟨rfl, rfl, rfl⟩, show rp_of 6 + r = 286 + r from rfl, R286]
    · rw [if_neg (by omega), if_neg (by omega), if_neg (by omega), if_neg (by omega), if_pos ⟨rfl, rfl, rfl⟩, show rp_of 7 + r = 290 + r from rfl, R290]
    · rw [if_neg (by omega), if_neg (by omega), if_neg (by omega), if_pos ⟨rfl, rfl, rfl⟩, show rp_of 8 + r = 294 + r from rfl, R294]
    · rw [if_neg (by omega), if_neg (by omega), if_neg (by omega), if_neg (by omega), if_neg (by omega), if_neg (by omega), if_neg (by omega), if_neg (by omega), show rp_of 9 + r = 298 + r from rfl, R _ (by omega)]
      exact k1.1 9 hk
    · rw [if_neg (by omega), if_neg (by omega), if_pos ⟨rfl, rfl, .inl rfl⟩, show rp_of 10 + r = 318 + r from rfl, R0 _ (by omega)]
    · rw [if_neg (by omega), if_neg (by omega), if_pos ⟨rfl, rfl, .inr rfl⟩, show rp_of 11 + r = 322 + r from rfl, R0 _ (by omega)]
  · rw [rd_start, if_neg (by omega), if_pos ⟨rfl, rfl, hk⟩]
    rcases (show k = 0 ∨ k = 1 ∨ k = 2 by omega) with rfl | rfl | rfl
    · rw [show tp_of 0 + r = 310 + r from rfl, R0 _ (by omega)]
    · rw [show tp_of 1 + r = 306 + r from rfl, R0 _ (by omega)]
    · rw [show tp_of 2 + r = 314 + r from rfl, R0 _ (by omega)]
  · rw [R _ (by omega)]
    exact k2.1
  · exact .inr R278
  · intro _
    rw [R _ (by omega)]
    exact hon
  · rw [R _ (by omega)]
    exact k2.2.2.2.1
  · rw [R _ (by omega)]
    exact k2.2.2.2.2.1
  · rw [R _ (by omega)]
    exact k2.2.2.2.2.2.2.2.1
  · rw [R _ (by omega)]
    exact k2.2.2.2.2.2.2.2.2
  · obtain ⟨l, l1, l2, l3, l4⟩ := k5
    refine ⟨l, S_listW (by omega) l1 ?_ (fun j _ => ?_) (R _ (by omega)) (fun p p1 p2 => R p (by unfold a_ln at p1; omega)), l2, l3, l4⟩
    · rw [rd_start, if_neg (by omega), if_neg (by omega), if_neg (by omega), if_neg (by omega), if_neg (by omega), if_neg (by omega), if_neg (by omega), if_neg (by omega)]
    · rw [rd_start, if_neg (by omega), if_neg (by omega), if_neg (by omega), if_neg (by omega), if_neg (by omega), if_neg (by omega), if_neg (by omega), if_neg (by omega)]
