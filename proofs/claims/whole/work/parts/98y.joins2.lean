/-! prefixes joined: the reference's way -/
def L_c (N : Nat → Int32) (a : Nat) (x : zX) : Prop := N a = nI x.1 ∧ N (a + 1) = nI x.2.1 ∧ N (a + 2) = if x.2.2 = true then 1 else 0
def L_R (N : Nat → Int32) : Nat → List zX → Prop
  | _, [] => True
  | a, x :: l => L_c N a x ∧ L_R N (a + 3) l
theorem lr_app {N : Nat → Int32} : ∀ (l1 l2 : List zX) (a : Nat), L_R N a (l1 ++ l2) ↔ L_R N a l1 ∧ L_R N (a + 3 * l1.length) l2
  | [], l2, a => ⟨fun h => ⟨trivial, h⟩, fun h => h.2⟩
  | x :: l1, l2, a => by
    have ih := lr_app (N := N) l1 l2 (a + 3)
    have e : a + 3 * (x :: l1).length = a + 3 + 3 * l1.length := by
      rw [List.length_cons]
      omega
    rw [e]
    exact ⟨fun h => ⟨⟨h.1, (ih.mp h.2).1⟩, (ih.mp h.2).2⟩, fun h => ⟨h.1.1, ih.mpr ⟨h.1.2, h.2⟩⟩⟩
theorem lr_sh {N N2 : Nat → Int32} : ∀ (l : List zX) (a d : Nat), L_R N (a + d) l → (∀ p, a ≤ p → p < a + 3 * l.length → N2 p = N (p + d)) → L_R N2 a l
  | [], _, _, _, _ => trivial
  | x :: l, a, d, h, h2 => by
    rw [List.length_cons] at h2
    refine ⟨⟨(h2 a (by omega) (by omega)).trans h.1.1, (h2 _ (by omega) (by omega)).trans ?_, (h2 _ (by omega) (by omega)).trans ?_⟩, lr_sh l (a + 3) d ?_ (fun p p1 p2 => h2 p (by omega) (by omega))⟩
    · rw [show a + 1 + d = a + d + 1 by omega]
      exact h.1.2.1
    · rw [show a + 2 + d = a + d + 2 by omega]
      exact h.1.2.2
    · rw [show a + 3 + d = a + d + 3 by omega]
      exact h.2
theorem lr_C {N N2 : Nat → Int32} {l : List zX} {a : Nat} (h : L_R N a l) (h2 : ∀ p, a ≤ p → p < a + 3 * l.length → N2 p = N p) : L_R N2 a l := lr_sh l a 0 h h2
theorem lr_at {N : Nat → Int32} : ∀ (l : List zX) (a : Nat), L_R N a l → ∀ j (h : j < l.length), L_c N (a + 3 * j) l[j]
  | [], _, _, j, h => absurd h (Nat.not_lt_zero j)
  | x :: l, a, h, 0, _ => h.1
  | x :: l, a, h, j + 1, hj => by
    have := lr_at l (a + 3) h.2 j (by simpa using hj)
    rw [show a + 3 * (j + 1) = a + 3 + 3 * j by omega]
    exact this
theorem lr_of {N : Nat → Int32} : ∀ (l : List zX) (a : Nat), (∀ j (h : j < l.length), L_c N (a + 3 * j) l[j]) → L_R N a l
  | [], _, _ => trivial
  | x :: l, a, h => ⟨h 0 (by simp), lr_of l (a + 3) (fun j hj => by
      have := h (j + 1) (by simpa using hj)
      rw [show a + 3 * (j + 1) = a + 3 + 3 * j by omega] at this
      exact this)⟩
theorem pj_iff {N : zMem} {r i : Nat} {x y : zX} (hx : L_c (N.1 24 0 0) (a_ln r i) x) (hy : L_c (N.1 24 0 0) (a_ln r i + 3) y) (x1 : x.1 ≤ 16) (x2 : x.2.1 < 65536) (y1 : y.1 ≤ 16) (y2 : y.2.1 < 65536) : p_join N r i ↔ x_jn x y := by
  obtain ⟨a1, a2, a3⟩ := hx
  obtain ⟨b1, b2, b3⟩ := hy
  unfold p_join x_jn
  rw [a1, a2, a3, b1, b2, b3, pk_rem (by omega) (by decide) (by decide), nI_1]
  have q1 : nI x.1 = nI y.1 ↔ x.1 = y.1 := nI_eq (by omega) (by omega)
  have q2 : nI x.1 = 0 ↔ x.1 = 0 := nI_eq (b := 0) (by omega) (by decide)
  have q3 : nI (x.2.1 % 2) = 1 ↔ x.2.1 % 2 = 1 := nI_eq (b := 1) (by omega) (by decide)
  have q4 : nI y.2.1 = nI (x.2.1 + 1) ↔ y.2.1 = x.2.1 + 1 := nI_eq (by omega) (by omega)
  have q5 : ∀ b : Bool, ¬ (if b = true then (1 : Int32) else 0) = 0 ↔ b = true := by decide
  rw [q1, q2, q3, q4, q5, q5]
  exact ⟨fun ⟨z1, z2, z3, z4, z5, z6⟩ => ⟨z1, z2, z3, z4, by omega, z6⟩, fun ⟨z1, z2, z3, z4, z5, z6⟩ => ⟨z1, z2, z3, z4, by omega, z6⟩⟩
/-- what holds while the reference joins -/
def I_ln (M : zMem) (r : Nat) (al : List zX) (m : Nat) (N : zMem) : Prop :=
  ∃ l : List zX, l.length = m ∧ m ≤ 900 ∧ L_R (N.1 24 0 0) (a_ln r 0) l ∧ N.1 24 0 0 (330 + r) = nI m ∧ x_ch 0 l 65536 ∧ x_ne l = x_ne al ∧ (∀ p, ¬ p = 330 + r → (p < 11614 + 2700 * r ∨ 14314 + 2700 * r ≤ p) → N.1 24 0 0 p = M.1 24 0 0 p) ∧ z_fr M N
theorem I_0 {M : zMem} {r d : Nat} {al : List zX} (hr : r < 4) (hd : al.length = d) (hd2 : d ≤ 900) (h : L_R (M.1 24 0 0) (a_dn r 0) al) (ch : x_ch 0 al 65536) : I_ln M r al d (n_learn0 M r d) := by
  have eA : a_ln r 0 = 11614 + 2700 * r := by unfold a_ln; omega
  have eB : a_dn r 0 = 22414 + 2700 * r := by unfold a_dn; omega
  refine ⟨al, hd, hd2, ?_, zn_upS, ch, rfl, fun p h1 h2 => ?_, fr_tr fr_cp fr_up⟩
  · refine lr_sh (N := M.1 24 0 0) al (a_ln r 0) 10800 ?_ (fun p p1 p2 => ?_)
    · rw [show a_ln r 0 + 10800 = a_dn r 0 by omega]
      exact h
    · unfold n_learn0
      rw [zn_upN (by omega), z_mv1, if_pos (by omega), show 22414 + 3 * (900 * r) + (p - a_ln r 0) = p + 10800 by omega]
  · unfold n_learn0
    rw [zn_upN h1, z_mv1, if_neg (by omega)]
theorem I_i {M N : zMem} {r m : Nat} {al : List zX} (h : I_ln M r al m N) : N.1 24 0 0 (330 + r) = nI m ∧ 1 ≤ m ∧ m ≤ 900 := by
  obtain ⟨l, h1, h2, h3, h4, h5, -⟩ := h
  refine ⟨h4, ?_, h2⟩
  cases l with
  | nil =>
    have : (0 : Nat) = 65536 := h5
    omega
  | cons x l =>
    rw [List.length_cons] at h1
    omega
theorem I_s {M N : zMem} {r m i : Nat} {al : List zX} (hr : r < 4) (h : I_ln M r al m N) (hi : i + 1 < m) (hj : p_join N r i) : I_ln M r al (m - 1) (n_join N r i m) := by
  obtain ⟨l, h1, h2, h3, h4, h5, h6, h7, h8⟩ := h
  have hd : l = l.take i ++ l[i] :: l[i + 1] :: l.drop (i + 2) := by
    rw [← List.drop_eq_getElem_cons (by omega), ← List.drop_eq_getElem_cons (by omega), List.take_append_drop]
  have e1 : (l.take i).length = i := by
    rw [List.length_take]
    omega
  generalize l.take i = l1 at hd e1
  generalize eX : l[i] = x at hd
  generalize eY : l[i + 1] = y at hd
  generalize l.drop (i + 2) = l2 at hd
  have eA : a_ln r 0 = 11614 + 2700 * r := by unfold a_ln; omega
  have eI : a_ln r i = a_ln r 0 + 3 * i := by unfold a_ln; omega
  obtain ⟨x1, x2, -⟩ := x_ok h5 (Nat.le_refl _) (x := x) (by rw [← eX]; exact List.getElem_mem _)
  obtain ⟨y1, y2, -⟩ := x_ok h5 (Nat.le_refl _) (x := y) (by rw [← eY]; exact List.getElem_mem _)
  have cx := lr_at l _ h3 i (by omega)
  have cy := lr_at l _ h3 (i + 1) (by omega)
  rw [eX, ← eI] at cx
  rw [eY, show a_ln r 0 + 3 * (i + 1) = a_ln r i + 3 by omega] at cy
  have jn := (pj_iff cx cy x1 x2 y1 y2).mp hj
  have e2 : l2.length = m - 2 - i := by
    have := congrArg List.length hd
    rw [List.length_append, List.length_cons, List.length_cons] at this
    omega
  rw [hd] at h3 h5 h6
  obtain ⟨xj, xn⟩ := x_join h5 jn
  obtain ⟨r1, r2⟩ := lr_app l1 (x :: y :: l2) (a_ln r 0) |>.mp h3
  rw [e1, ← eI] at r2
  have eN : ∀ p, (n_join N r i m).1 24 0 0 p = if a_ln r i + 3 ≤ p ∧ p < a_ln r i + 3 + 3 * (m - 2 - i) then N.1 24 0 0 (p + 3) else if p = 330 + r then nI (m - 1) else if p = a_ln r i + 1 then nI (x.2.1 / 2) else if p = a_ln r i then nI (x.1 - 1) else N.1 24 0 0 p := fun p => by
    have s1 : nI x.1 - 1 = nI (x.1 - 1) := sub_n (b := 1) (by have := jn.2.2.2.1; omega)
    have s2 : nI x.2.1 / nI 2 = nI (x.2.1 / 2) := pk_div (by omega) (by decide) (by decide)
    unfold n_join n_join1
    rw [z_sh1, cx.1, cx.2.1, s1, s2]
    by_cases c1 : a_ln r i + 3 ≤ p ∧ p < a_ln r i + 3 + 3 * (m - 2 - i)
    · rw [if_pos c1, if_pos c1, zn_upN (by omega), zn_upN (by omega), zn_upN (by omega)]
    · rw [if_neg c1, if_neg c1]
      by_cases c2 : p = 330 + r
      · rw [if_pos c2, c2, zn_upS]
      · rw [if_neg c2, zn_upN c2]
        by_cases c3 : p = a_ln r i + 1
        · rw [if_pos c3, c3, zn_upS]
        · rw [if_neg c3, zn_upN c3]
          by_cases c4 : p = a_ln r i
          · rw [if_pos c4, c4, zn_upS]
          · rw [if_neg c4, zn_upN c4]
  refine ⟨l1 ++ x_up x :: l2, ?_, by omega, ?_, ?_, xj, xn.trans h6, fun p p1 p2 => ?_, ?_⟩
  · rw [List.length_append, List.length_cons]
    omega
  · refine (lr_app l1 (x_up x :: l2) (a_ln r 0)).mpr ⟨lr_C r1 (fun p p1 p2 => ?_), ?_⟩
    · rw [eN, if_neg (by omega), if_neg (by omega), if_neg (by omega), if_neg (by omega)]
    · rw [e1, ← eI]
      refine ⟨⟨?_, ?_, ?_⟩, lr_sh l2 (a_ln r i + 3) 3 r2.2.2 (fun p p1 p2 => ?_)⟩
      · rw [eN, if_neg (by omega), if_neg (by omega), if_neg (by omega), if_pos rfl]
        rfl
      · rw [eN, if_neg (by omega), if_neg (by omega), if_pos rfl]
        rfl
      · rw [eN, if_neg (by omega), if_neg (by omega), if_neg (by omega), if_neg (by omega), cx.2.2, jn.1]
        rfl
      · rw [eN, if_pos (by omega)]
  · rw [eN, if_neg (by omega), if_pos rfl]
  · rw [eN, if_neg (by omega), if_neg p1, if_neg (by omega), if_neg (by omega)]
    exact h7 p p1 p2
  · refine fr_tr h8 ?_
    unfold n_join n_join1
    exact fr_tr (fr_tr (fr_tr fr_up fr_up) fr_up) fr_cp
theorem I_red {M N : zMem} {r m : Nat} {al : List zX} (h : I_ln M r al m N) (hn : ∀ i, i + 1 < m → ¬ p_join N r i) : ∃ l : List zX, l.length = m ∧ L_R (N.1 24 0 0) (a_ln r 0) l ∧ N.1 24 0 0 (330 + r) = nI m ∧ x_ch 0 l 65536 ∧ x_red l ∧ x_ne l = x_ne al ∧ (∀ p, ¬ p = 330 + r → (p < 11614 + 2700 * r ∨ 14314 + 2700 * r ≤ p) → N.1 24 0 0 p = M.1 24 0 0 p) ∧ z_fr M N := by
  obtain ⟨l, h1, h2, h3, h4, h5, h6, h7, h8⟩ := h
  refine ⟨l, h1, h3, h4, h5, fun l1 x y l2 e jn => ?_, h6, h7, h8⟩
  have eI : a_ln r l1.length = a_ln r 0 + 3 * l1.length := by unfold a_ln; omega
  obtain ⟨x1, x2, -⟩ := x_ok h5 (Nat.le_refl _) (x := x) (by rw [e]; simp)
  obtain ⟨y1, y2, -⟩ := x_ok h5 (Nat.le_refl _) (x := y) (by rw [e]; simp)
  rw [e] at h3
  obtain ⟨r1, r2⟩ := lr_app l1 (x :: y :: l2) (a_ln r 0) |>.mp h3
  rw [← eI] at r2
  refine hn l1.length ?_ ((pj_iff r2.1 r2.2.1 x1 x2 y1 y2).mpr jn)
  rw [← h1, e, List.length_append, List.length_cons, List.length_cons]
  omega
