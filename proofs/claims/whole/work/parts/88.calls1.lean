/-! what keeps what: each part of the relation by the places it looks at -/
theorem S_wC {M M2 : zMem} {w w2 T : Nat} {R R2 : Nat → Int32} (h : S_w M w R T) (h1 : ∀ k, k < 4 → M2.1 9 w2 0 (5 + k) = M.1 9 w 0 (5 + k)) (h2 : ∀ p, p < 4 → R2 p = R p) : S_w M2 w2 R2 T := by
  obtain ⟨a, b, c, d⟩ := h
  refine ⟨fun k hk => ?_, ?_, ?_, ?_⟩
  · rw [h1 k hk, h2 k hk]
    exact a k hk
  · rw [h2 0 (by omega)]
    exact b
  · rw [h2 2 (by omega)]
    exact c
  · rw [h2 3 (by omega)]
    exact d
theorem S_jourW {M M2 : zMem} {w w2 c : Nat} {R R2 : Nat → Int32} (h : S_jour M w R c) (h1 : M2.1 2 w2 0 1 = M.1 2 w 0 1) (h2 : ∀ p, p < 240 → M2.1 21 w2 0 p = M.1 21 w 0 p) (h3 : ∀ p, p = 4 ∨ (22 ≤ p ∧ p < 262) → R2 p = R p) : S_jour M2 w2 R2 c := by
  refine ⟨h1.trans h.1, (h3 4 (.inl rfl)).trans h.2.1, fun j hj x hx => ?_⟩
  rw [h2 _ (by omega), h3 _ (.inr (by omega))]
  exact h.2.2 j hj x hx
theorem S_cntW {M M2 : zMem} {w w2 : Nat} {R R2 : Nat → Int32} (h : S_cnt M w R) (h1 : ∀ k, k < 14 → M2.1 20 w2 0 k = M.1 20 w 0 k) (h2 : ∀ k, k < 14 → R2 (5 + k) = R (5 + k)) : S_cnt M2 w2 R2 := fun k hk => by
  rw [h1 k hk, h2 k hk]
  exact h k hk
theorem S_TW {M M2 Mr Mr2 : zMem} {w w2 T i : Nat} (hi : i < 24) (h : S_T M w Mr T i) (h1 : ∀ k, k < 10 → M2.1 7 w2 i k = M.1 7 w i k) (h2 : ∀ p, p_T i p → Mr2.1 24 0 0 p = Mr.1 24 0 0 p) : S_T M2 w2 Mr2 T i := by
  refine S_tagC h h1 (fun k hk _ => ?_) (fun f hf => ?_)
  · unfold g_R
    exact h2 _ (by unfold p_T; omega)
  · unfold f_R
    split
    · exact h2 _ (by unfold p_T; omega)
    · exact h2 _ (by unfold p_T; omega)
theorem S_tagsW {M M2 Mr Mr2 : zMem} {w w2 T : Nat} (h : S_tags M w Mr T) (h1 : ∀ i, i < 24 → ∀ k, k < 10 → M2.1 7 w2 i k = M.1 7 w i k) (h2 : ∀ p, 454 ≤ p → p < 694 ∨ 718 ≤ p → p < 814 → Mr2.1 24 0 0 p = Mr.1 24 0 0 p) : S_tags M2 w2 Mr2 T := fun i hi => by
  refine S_tagC (h i hi) (h1 i hi) (fun k hk _ => ?_) (fun f hf => ?_)
  · unfold g_R
    exact h2 _ (by omega) (by omega) (by omega)
  · unfold f_R
    split
    · exact h2 _ (by omega) (by omega) (by omega)
    · exact h2 _ (by omega) (by omega) (by omega)
theorem S_okW {R R2 : Nat → Int32} {i : Nat} (h : S_ok R i) (h0 : R2 (454 + i) = R (454 + i)) (h1 : ∀ r, r < 4 → R2 (262 + r) = R (262 + r)) (h2 : R2 (502 + i) = R (502 + i)) (h3 : R2 (670 + i) = R (670 + i)) (h4 : R2 (718 + 4 * i) = R (718 + 4 * i)) : S_ok R2 i := by
  unfold S_ok at *
  rw [h0]
  exact h.imp id (fun ⟨a, b⟩ => ⟨a, S_dkC b h0 h1 h2 h3 h4⟩)
theorem S_busyW {R R2 : Nat → Int32} {i : Nat} (h : S_busy R i) (h0 : R2 (550 + i) = R (550 + i)) (h1 : ∀ r, r < 4 → R2 (278 + r) = R (278 + r)) (h2 : R2 (502 + i) = R (502 + i)) : S_busy R2 i := by
  unfold S_busy at *
  rw [h0, h2]
  exact h.imp id (fun ⟨r, a, b, c, d⟩ => ⟨r, a, b, (h1 r a).trans c, d⟩)
theorem S_idsW {R R2 : Nat → Int32} (h : S_ids R) (h1 : ∀ i, i < 24 → R2 (454 + i) = R (454 + i) ∧ R2 (478 + i) = R (478 + i)) : S_ids R2 := fun i j hi hj a b c => by
  rw [(h1 i hi).1] at a
  rw [(h1 j hj).1] at b
  rw [(h1 i hi).2, (h1 j hj).2] at c
  exact h i j hi hj a b c
/-- the class's cells of one reader are the same -/
def C_bd (M : zMem) (w : Nat) (M2 : zMem) (w2 r : Nat) : Prop := (∀ o k, o / 2 = r → k < 3 → M2.1 8 w2 o k = M.1 8 w o k) ∧ (∀ o, o / 3 = r → M2.1 3 w2 o 1 = M.1 3 w o 1) ∧ (∀ o j, o / 3 = r → j < 512 → M2.1 22 w2 o j = M.1 22 w o j) ∧ ∀ j, j < 24 → M2.1 23 w2 r j = M.1 23 w r j
def C_eq (M : zMem) (w : Nat) (M2 : zMem) (w2 r : Nat) : Prop := (∀ k, k < 12 → M2.1 4 w2 r k = M.1 4 w r k) ∧ C_bd M w M2 w2 r
/-- the reference's places of one reader, but whether it is clean -/
def P_bd (r p : Nat) : Prop := (278 ≤ p ∧ p < 358 ∧ (p - 262) % 4 = r ∧ ¬ p = 350 + r) ∨ (358 + 24 * r ≤ p ∧ p < 382 + 24 * r) ∨ (814 + 2700 * r ≤ p ∧ p < 3514 + 2700 * r) ∨ (11614 + 2700 * r ≤ p ∧ p < 14314 + 2700 * r) ∨ (22414 + 2700 * r ≤ p ∧ p < 25114 + 2700 * r)
def P_own (r p : Nat) : Prop := (262 ≤ p ∧ p < 278 ∧ (p - 262) % 4 = r) ∨ P_bd r p
def R_eqB (R R2 : Nat → Int32) (r : Nat) : Prop := (∀ p, P_bd r p → R2 p = R p) ∧ (∀ t, t < 24 → R2 (550 + t) = nI r → R (550 + t) = nI r ∧ x_id R2 t = x_id R t) ∧ (R2 (350 + r) = 0 ∨ (R2 (350 + r) = R (350 + r) ∧ ∀ t, t < 24 → R (550 + t) = nI r → R2 (550 + t) = nI r))
def R_eq (R R2 : Nat → Int32) (r : Nat) : Prop := (∀ p, P_own r p → R2 p = R p) ∧ (∀ t, t < 24 → R2 (550 + t) = nI r → R (550 + t) = nI r ∧ x_id R2 t = x_id R t) ∧ (R2 (350 + r) = 0 ∨ (R2 (350 + r) = R (350 + r) ∧ ∀ t, t < 24 → R (550 + t) = nI r → R2 (550 + t) = nI r))
theorem rp_own0 : ∀ k, k < 12 → ∀ r, r < 4 → (262 ≤ rp_of k + r ∧ rp_of k + r < 358 ∧ (rp_of k + r - 262) % 4 = r ∧ ¬ rp_of k + r = 350 + r) := by decide
theorem rp_own (k : Nat) (hk : k < 12) (r : Nat) (hr : r < 4) : P_own r (rp_of k + r) := by
  have h := rp_own0 k hk r hr
  unfold P_own P_bd
  omega
theorem tp_own0 : ∀ k, k < 3 → ∀ r, r < 4 → (278 ≤ tp_of k + r ∧ tp_of k + r < 358 ∧ (tp_of k + r - 262) % 4 = r ∧ ¬ tp_of k + r = 350 + r) := by decide
theorem tp_own (k : Nat) (hk : k < 3) (r : Nat) (hr : r < 4) : P_own r (tp_of k + r) := .inr (.inl (tp_own0 k hk r hr))
theorem fp_own : ∀ k, k < 3 → ∀ r, r < 4 → (278 ≤ fp_of k + r ∧ fp_of k + r < 358 ∧ (fp_of k + r - 262) % 4 = r ∧ ¬ fp_of k + r = 350 + r) := by decide
theorem x_inS {R R2 : Nat → Int32} {r : Nat} (h : ∀ t, t < 24 → R2 (550 + t) = nI r → R (550 + t) = nI r ∧ x_id R2 t = x_id R t) (x : zX) {t : Nat} (ht : t < 24) (hx : x_in R2 r x t = true) : x_in R r x t = true := by
  unfold x_in at *
  rw [Bool.and_eq_true] at *
  obtain ⟨h1, h2⟩ := hx
  obtain ⟨a, b⟩ := h t ht (of_decide_eq_true h1)
  rw [b] at h2
  exact ⟨decide_eq_true a, h2⟩
theorem x_cnS {R R2 : Nat → Int32} {r : Nat} (h : ∀ t, t < 24 → R2 (550 + t) = nI r → R (550 + t) = nI r ∧ x_id R2 t = x_id R t) (x : zX) : x_cn R2 r x ≤ x_cn R r x := fb_ct_sub (fun _ hk hx => x_inS h x hk hx)
theorem x_cnE {R R2 : Nat → Int32} {r : Nat} (h : ∀ t, t < 24 → R2 (550 + t) = nI r → R (550 + t) = nI r ∧ x_id R2 t = x_id R t) (h2 : ∀ t, t < 24 → R (550 + t) = nI r → R2 (550 + t) = nI r) (x : zX) : x_cn R2 r x = x_cn R r x := by
  refine Nat.le_antisymm (x_cnS h x) (x_cnS (fun t ht e => ?_) x)
  have e2 := h2 t ht e
  exact ⟨e2, ((h t ht e2).2).symm⟩
theorem x_qnE {R R2 : Nat → Int32} {r : Nat} (h : ∀ x, x_cn R2 r x = x_cn R r x) : ∀ (d : Nat) (x : zX), x_qn R2 r d x = x_qn R r d x
  | 0, _ => rfl
  | d + 1, x => by rw [x_qn, x_qn, h x, x_qnE h d, x_qnE h d]
theorem x_sumL {f g : zX → Nat} (h : ∀ x, f x ≤ g x) : ∀ l, x_sum f l ≤ x_sum g l
  | [] => Nat.le_refl _
  | x :: l => Nat.add_le_add (h x) (x_sumL h l)
theorem x_sumE {f g : zX → Nat} : ∀ l : List zX, (∀ x, x ∈ l → f x = g x) → x_sum f l = x_sum g l
  | [], _ => rfl
  | x :: l, h => by rw [x_sum, x_sum, h x List.mem_cons_self, x_sumE l (fun y hy => h y (List.mem_cons_of_mem _ hy))]
theorem S_listW {M M2 : zMem} {w w2 o : Nat} {R R2 : Nat → Int32} {a many : Nat} {l : List zX} (hl : l.length ≤ 512) (h : S_list M w o R a many l) (h1 : M2.1 3 w2 o 1 = M.1 3 w o 1) (h2 : ∀ j, j < 512 → M2.1 22 w2 o j = M.1 22 w o j) (h3 : R2 many = R many) (h4 : ∀ p, a ≤ p → p < a + 3 * 512 → R2 p = R p) : S_list M2 w2 o R2 a many l := by
  obtain ⟨a1, a2, a3⟩ := h
  refine ⟨h1.trans a1, h3.trans a2, fun j hj => ?_⟩
  rw [h2 j (by omega), h4 _ (by omega) (by omega), h4 _ (by omega) (by omega), h4 _ (by omega) (by omega)]
  exact a3 j hj
theorem S_backW {M M2 : zMem} {w w2 o : Nat} {R R2 : Nat → Int32} {a many : Nat} {l : List zX} (hl : l.length ≤ 512) (h : S_back M w o R a many l) (h1 : M2.1 3 w2 o 1 = M.1 3 w o 1) (h2 : ∀ j, j < 512 → M2.1 22 w2 o j = M.1 22 w o j) (h3 : R2 many = R many) (h4 : ∀ p, a ≤ p → p < a + 3 * 512 → R2 p = R p) : S_back M2 w2 o R2 a many l := by
  obtain ⟨a1, a2, a3⟩ := h
  refine ⟨h1.trans a1, h3.trans a2, fun j hj => ?_⟩
  rw [h2 _ (by omega), h4 _ (by omega) (by omega), h4 _ (by omega) (by omega)]
  exact a3 j hj
theorem S_rdW {M M2 : zMem} {w w2 r : Nat} {R R2 : Nat → Int32} (hr : r < 4) (h : S_rd M w R r) (hC : C_eq M w M2 w2 r) (hR : ∀ p, P_own r p → R2 p = R p) : S_rd M2 w2 R2 r := by
  refine ⟨fun k hk => ?_, fun k hk => ?_⟩
  · rw [hC.1 k hk, hR _ (rp_own k hk r hr)]
    exact h.1 k hk
  · rw [hC.2.1 _ k (by omega) hk, hR _ (tp_own k hk r hr)]
    exact h.2 k hk
theorem S_rvW {R R2 : Nat → Int32} {r : Nat} (hr : r < 4) (h : S_rv R r) (hR : ∀ p, P_own r p → R2 p = R p) : S_rv R2 r := by
  unfold S_rv at *
  rw [hR (262 + r) (by unfold P_own P_bd; omega), hR (278 + r) (by unfold P_own P_bd; omega), hR (266 + r) (by unfold P_own P_bd; omega), hR (270 + r) (by unfold P_own P_bd; omega), hR (282 + r) (by unfold P_own P_bd; omega), hR (294 + r) (by unfold P_own P_bd; omega), hR (298 + r) (by unfold P_own P_bd; omega), hR (326 + r) (by unfold P_own P_bd; omega)]
  exact h
theorem S_sumW {R R2 : Nat → Int32} {r b b2 : Nat} (hr : r < 4) (hb : b ≤ b2) (h : S_sum R b r) (hR : ∀ p, P_bd r p → R2 p = R p) : S_sum R2 b2 r := by
  unfold S_sum at *
  rw [hR (310 + r) (by unfold P_bd; omega), hR (314 + r) (by unfold P_bd; omega)]
  obtain ⟨e, c, h1, h2, h3⟩ := h
  exact ⟨e, c, h1, h2, by omega⟩
theorem S_readsW {M M2 : zMem} {w w2 r : Nat} {R R2 : Nat → Int32} (hr : r < 4) (h : S_reads M w R r) (hC : C_bd M w M2 w2 r) (hR : ∀ p, P_bd r p → R2 p = R p) (hB : ∀ t, t < 24 → R2 (550 + t) = nI r → R (550 + t) = nI r) : S_reads M2 w2 R2 r := by
  obtain ⟨m, h1, h2, h3, h4⟩ := h
  refine ⟨m, h1, (hR _ (by unfold P_bd; omega)).trans h2, fun j hj => ?_, fun i j hi hj => ?_⟩
  · obtain ⟨a, t, a1, a2, a3⟩ := h3 j hj
    rw [hC.2.2.2 j (by omega), hR _ (by unfold P_bd; omega)]
    exact ⟨a, t, a1, a2, fun e => a3 (hB t a1 e)⟩
  · rw [hR _ (by unfold P_bd; omega), hR _ (by unfold P_bd; omega)]
    exact h4 i j hi hj
theorem S_lnW {M M2 : zMem} {w w2 r : Nat} {R R2 : Nat → Int32} (hr : r < 4) (h : S_ln M w R r) (hC : C_bd M w M2 w2 r) (hR : ∀ p, P_bd r p → R2 p = R p) : S_ln M2 w2 R2 r := by
  obtain ⟨l, h1, h2, h3, h4⟩ := h
  exact ⟨l, S_listW (by omega) h1 (hC.2.1 _ (by omega)) (fun j hj => hC.2.2.1 _ j (by omega) hj) (hR _ (by unfold P_bd; omega)) (fun p p1 p2 => hR p (by unfold P_bd; unfold a_ln at *; omega)), h2, h3, h4⟩
theorem S_stockW {M M2 : zMem} {w w2 r : Nat} {R R2 : Nat → Int32} (hr : r < 4) (h : S_stock M w R r) (hC : C_bd M w M2 w2 r) (hR : R_eqB R R2 r) : S_stock M2 w2 R2 r := by
  obtain ⟨hP, hB, hK⟩ := hR
  obtain ⟨h1, h2, h3⟩ := h
  have e278 : R2 (278 + r) = R (278 + r) := hP _ (by unfold P_bd; omega)
  have e294 : R2 (294 + r) = R (294 + r) := hP _ (by unfold P_bd; omega)
  unfold S_stock
  rw [e278, e294]
  refine ⟨fun c => ?_, fun c d => ?_, fun c d => ?_⟩
  · obtain ⟨a, b⟩ := h1 c
    exact ⟨(hC.2.1 _ (by omega)).trans a, fun k hk => (hC.1 _ k (by omega) hk).trans (b k hk)⟩
  · obtain ⟨a1, a2, a3, e, s, c, q, b1, b2, b3, b4, b5, b6⟩ := h2 c d
    refine ⟨(hC.2.1 _ (by omega)).trans a1, (hP _ (by unfold P_bd; omega)).trans a2, fun k hk => ?_, e, s, c, q, (hP _ (by unfold P_bd; omega)).trans b1, (hP _ (by unfold P_bd; omega)).trans b2, (hP _ (by unfold P_bd; omega)).trans b3, (hP _ (by unfold P_bd; omega)).trans b4, (hP _ (by unfold P_bd; omega)).trans b5, b6.1, fun z => b6.2 (e294.symm.trans z)⟩
    rw [hC.1 _ k (by omega) hk, hP _ (.inl (fp_own k hk r hr))]
    exact a3 k hk
  · obtain ⟨ro, al, a1, a2, a3, a4, a5, a6, a7, a8, a9⟩ := h3 c d
    refine ⟨ro, al, S_backW (by omega) a1 (hC.2.1 _ (by omega)) (fun j hj => hC.2.2.1 _ j (by omega) hj) (hP _ (by unfold P_bd; omega)) (fun p p1 p2 => hP p (by unfold P_bd; unfold a_rw at *; omega)), S_listW (by omega) a2 (hC.2.1 _ (by omega)) (fun j hj => hC.2.2.1 _ j (by omega) hj) (hP _ (by unfold P_bd; omega)) (fun p p1 p2 => hP p (by unfold P_bd; unfold a_dn at *; omega)), a3, a4, ?_, (hP _ (by unfold P_bd; omega)).trans a6, fun k hk => (hC.1 _ k (by omega) hk).trans (a7 k hk), (hP _ (by unfold P_bd; omega)).trans a8, fun c1 => ?_⟩
    · have := x_sumL (f := fun x => (16 - x.1) * (x_cn R2 r x / 2)) (g := fun x => (16 - x.1) * (x_cn R r x / 2)) (fun x => Nat.mul_le_mul_left _ (Nat.div_le_div_right (x_cnS hB x))) ro
      omega
    · intro c2
      rcases hK with k0 | ⟨k1, k2⟩
      · rw [k0] at c2
        exact absurd c2 (by decide)
      · obtain ⟨e, m, c, d1, d2, d3, d4⟩ := a9 (e294.symm.trans c1) (k1.symm.trans c2)
        refine ⟨e, m, c, (hP _ (by unfold P_bd; omega)).trans d1, (hP _ (by unfold P_bd; omega)).trans d2, (hP _ (by unfold P_bd; omega)).trans d3, (hP _ (by unfold P_bd; omega)).trans (d4.trans ?_)⟩
        rw [x_sumE ro (f := fun x => x_qn R2 r (16 - x.1) x) (g := fun x => x_qn R r (16 - x.1) x) (fun x _ => x_qnE (x_cnE hB k2) _ _)]
theorem S_RW {Z Z2 : Nat → Prop} {M M2 : zMem} {w w2 r b b2 : Nat} {R R2 : Nat → Int32} (hr : r < 4) (hZ : Z r → Z2 r) (h : S_R Z M w R b r) (hC : C_eq M w M2 w2 r) (hR : R_eq R R2 r) (hb : b ≤ b2) : S_R Z2 M2 w2 R2 b2 r := by
  obtain ⟨h1, h2, h3, h4, h5, h6⟩ := h
  have hB : R_eqB R R2 r := ⟨fun p hp => hR.1 p (.inr hp), hR.2⟩
  exact ⟨S_rdW hr h1 hC hR.1, S_rvW hr h2 hR.1, S_sumW hr hb h3 hB.1, S_readsW hr h4 hC.2 hB.1 (fun t ht e => (hR.2.1 t ht e).1), S_lnW hr h5 hC.2 hB.1, fun z => S_stockW hr (h6 (fun y => z (hZ y))) hC.2 hB⟩
theorem C_eq0 {M M2 : zMem} {w r : Nat} (h : ∀ a c d, a = 3 ∨ a = 4 ∨ a = 8 ∨ a = 22 ∨ a = 23 → M2.1 a w c d = M.1 a w c d) : C_eq M w M2 w r :=
  ⟨fun k _ => h _ _ _ (by omega), fun o k _ _ => h _ _ _ (by omega), fun o _ => h _ _ _ (by omega), fun o j _ _ => h _ _ _ (by omega), fun j _ => h _ _ _ (by omega)⟩
theorem R_eq0 {R R2 : Nat → Int32} {r : Nat} (hr : r < 4) (h : ∀ p, 262 ≤ p → p < 454 ∨ (550 ≤ p ∧ p < 574) ∨ (478 ≤ p ∧ p < 502) ∨ 814 ≤ p → R2 p = R p) : R_eq R R2 r :=
  ⟨fun p hp => h p (by unfold P_own P_bd at hp; omega) (by unfold P_own P_bd at hp; omega), fun t ht e => ⟨by rw [← h (550 + t) (by omega) (by omega)]; exact e, by unfold x_id; rw [h (478 + t) (by omega) (by omega)]⟩, .inr ⟨h _ (by omega) (by omega), fun t ht e => by rw [h (550 + t) (by omega) (by omega)]; exact e⟩⟩
/-- a step of the log and of the counts alone -/
theorem Sim_side {Z O : Nat → Prop} {M M2 Mr Mr2 : zMem} {w T c b c2 b2 : Nat} (h : SimZ Z O M w Mr T c b) (hM : ∀ a c d, ¬ a = 2 → ¬ a = 20 → ¬ a = 21 → M2.1 a w c d = M.1 a w c d) (hR : ∀ p, p < 4 ∨ p = 19 ∨ p = 20 ∨ 262 ≤ p → Mr2.1 24 0 0 p = Mr.1 24 0 0 p) (hj : S_jour M2 w (Mr2.1 24 0 0) c2) (hc : S_cnt M2 w (Mr2.1 24 0 0)) (hb : b ≤ b2) : SimZ Z O M2 w Mr2 T c2 b2 := by
  obtain ⟨h1, h2, h3, h4, h5, h6, h7, h8, h9⟩ := h
  refine ⟨S_wC h1 (fun k _ => hM _ _ _ (by omega) (by omega) (by omega)) (fun p hp => hR p (by omega)), hj, hc, S_tagsW h4 (fun i _ k _ => hM _ _ _ (by omega) (by omega) (by omega)) (fun p a _ _ => hR p (by omega)), fun i hi o => S_okW (h5 i hi o) (hR _ (by omega)) (fun r _ => hR _ (by omega)) (hR _ (by omega)) (hR _ (by omega)) (hR _ (by omega)), fun i hi => S_busyW (h6 i hi) (hR _ (by omega)) (fun r _ => hR _ (by omega)) (hR _ (by omega)), S_idsW h7 (fun i _ => ⟨hR _ (by omega), hR _ (by omega)⟩), ⟨(hR 19 (by omega)).trans h8.1, (hR 20 (by omega)).trans h8.2⟩, fun r hr => S_RW hr id (h9 r hr) (C_eq0 (fun a c d e => hM _ _ _ (by omega) (by omega) (by omega))) (R_eq0 hr (fun p p1 _ => hR p (by omega))) hb⟩
theorem Sim_cnt {Z O : Nat → Prop} {M Mr : zMem} {w T c b k : Nat} {x : Int32} (h : SimZ Z O M w Mr T c b) (hk : k < 14) : SimZ Z O (m_cnt M w k x) w (n_counts Mr k x) T c b := by
  refine Sim_side h (fun a c d h2 h20 h21 => zn_upO h20) (fun p hp => zf_counts (by omega)) ?_ (S_cntA h.2.2.1 hk) (Nat.le_refl _)
  exact S_jourW h.2.1 (zn_upO (by decide)) (fun p _ => zn_upO (by decide)) (fun p hp => zf_counts (by omega))
theorem zf_wr {M : zMem} {w a b c d : Nat} {r k n : Int32} (h : ¬ (b = w ∧ (a = 2 ∨ a = 21))) : (m_write M w r k n).1 a b c d = M.1 a b c d := by
  unfold m_write m_jAdd2
  simp only [z_up1]
  rw [if_neg (by omega), if_neg (by omega), if_neg (by omega), if_neg (by omega), if_neg (by omega)]
theorem Sim_log {Z O : Nat → Prop} {M Mr : zMem} {w T c b : Nat} {r k n : Int32} (h : SimZ Z O M w Mr T c b) (hc : c < 2147483000) : SimZ Z O (m_write M w r k n) w (n_logs Mr c r k n) T (c + 1) b := by
  refine Sim_side h (fun a c d h2 h20 h21 => zf_wr (by omega)) (fun p hp => zf_logs (by omega) (by omega)) (S_log h.2.1 (h.1.1 0 (by omega)) hc) ?_ (Nat.le_refl _)
  exact S_cntW h.2.2.1 (fun k _ => zf_wr (by omega)) (fun k _ => zf_logs (by omega) (by omega))
