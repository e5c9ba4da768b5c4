/-! prefixes joined: the class's way, the reference's way -/
def L_C (M : zMem) (w i : Nat) (l : List zX) : Prop := M.1 3 w i 1 = nI l.length ∧ ∀ j (h : j < l.length), M.1 22 w i j = x_cd l[j]
theorem pa_eq {M : zMem} {w i k : Nat} {x : Int32} (h : M.1 3 w i 1 = nI k) (hk : k < 512) : m_pfxAdd M w i x = z_up (z_up M 22 w i k x) 3 w i 1 (nI (k + 1)) := by
  unfold m_pfxAdd
  rw [h, if_pos (show nI k < 512 from nI_lt (b := 512) hk (by decide)), nI_clamp (by omega), nI_1]
theorem pt_eq {M : zMem} {w i k : Nat} (h : M.1 3 w i 1 = nI (k + 1)) (hk : k + 1 ≤ 512) : m_pfxTake M w i = z_up M 3 w i 1 (nI k) ∧ r_pfxTake M w i = M.1 22 w i k := by
  have c : ¬ (nI (k + 1) < 1 ∨ nI (k + 1) > 512) := by
    rintro (q | q)
    · exact nI_nlt (a := k + 1) (b := 1) (by omega) (by omega) q
    · exact nI_nlt (a := 512) (b := k + 1) hk (by decide) q
  have e : nI (k + 1) - 1 = nI k := nI_pred k
  unfold m_pfxTake r_pfxTake
  rw [h, if_neg c, if_neg c, e, nI_clamp (by omega)]
  exact ⟨rfl, rfl⟩
theorem lc_add {M : zMem} {w i : Nat} {l : List zX} {x : zX} (h : L_C M w i l) (hl : l.length < 512) : L_C (m_pfxAdd M w i (x_cd x)) w i (l ++ [x]) := by
  rw [pa_eq h.1 hl]
  refine ⟨?_, fun j hj => ?_⟩
  · rw [zn_upS, List.length_append]
    rfl
  · rw [zn_upO (by decide)]
    by_cases c : j = l.length
    · subst c
      rw [zn_upS, List.getElem_append_right (Nat.le_refl _)]
      simp
    · have hj2 : j < l.length := by
        rw [List.length_append] at hj
        have : [x].length = 1 := rfl
        omega
      rw [zn_upN c, List.getElem_append_left hj2]
      exact h.2 j hj2
theorem lc_take {M : zMem} {w i : Nat} {l : List zX} {x : zX} (h : L_C M w i (l ++ [x])) (hl : l.length < 512) : L_C (m_pfxTake M w i) w i l ∧ r_pfxTake M w i = x_cd x := by
  have hs : M.1 3 w i 1 = nI (l.length + 1) := by
    rw [h.1, List.length_append]
    rfl
  obtain ⟨e1, e2⟩ := pt_eq hs (by omega)
  rw [e1, e2]
  refine ⟨⟨zn_upS, fun j hj => ?_⟩, ?_⟩
  · rw [zn_upO (by decide), h.2 j (by rw [List.length_append]; omega), List.getElem_append_left hj]
  · rw [h.2 l.length (by rw [List.length_append]; show l.length < l.length + 1; omega), List.getElem_append_right (Nat.le_refl _)]
    simp
theorem x_ok {l : List zX} {hi : Nat} {x : zX} (h : x_ch 0 l hi) (hi2 : hi ≤ 65536) (hx : x ∈ l) : x.1 ≤ 16 ∧ x.2.1 < 65536 ∧ x.2.1 < 2 ^ x.1 := by
  obtain ⟨a, -, b⟩ := x_mem h hx
  have p := x_pos x
  have q : x.2.1 ≤ x.2.1 * x_sz x := Nat.le_mul_of_pos_right _ p
  refine ⟨a, by omega, ?_⟩
  have e : 2 ^ x.1 * x_sz x = 65536 := by
    unfold x_sz
    rw [← Nat.pow_add, show x.1 + (16 - x.1) = 16 by omega]
  have c : (x.2.1 + 1) * x_sz x ≤ 2 ^ x.1 * x_sz x := by
    rw [Nat.succ_mul, e]
    omega
  have d := Nat.le_of_mul_le_mul_right c p
  omega
theorem pair_iff {M : zMem} {w i hi : Nat} {l : List zX} {x y : zX} (h : L_C M w i (l ++ [x, y])) (hl : l.length + 2 ≤ 512) (ch : x_ch 0 (l ++ [x, y]) hi) (hi2 : hi ≤ 65536) : ¬ r_pfxPair M w i = 0 ↔ x_jn x y := by
  obtain ⟨x1, x2, -⟩ := x_ok ch hi2 (x := x) (by simp)
  obtain ⟨y1, y2, -⟩ := x_ok ch hi2 (x := y) (by simp)
  have hs : M.1 3 w i 1 = nI (l.length + 2) := by
    rw [h.1, List.length_append]
    rfl
  have ex : M.1 22 w i l.length = x_cd x := by
    rw [h.2 l.length (by rw [List.length_append]; show l.length < l.length + 2; omega), List.getElem_append_right (Nat.le_refl _)]
    simp
  have ey : M.1 22 w i (l.length + 1) = x_cd y := by
    rw [h.2 (l.length + 1) (by rw [List.length_append]; show l.length + 1 < l.length + 2; omega), List.getElem_append_right (by omega)]
    simp
  have at_ : ∀ k, k < l.length + 2 → r_pfxAt M w i (nI k) = M.1 22 w i k := fun k hk => by
    unfold r_pfxAt
    rw [hs, if_neg (fun z => ?_), nI_clamp (by omega)]
    rcases z with z | z | z
    · exact nI_pos (by omega) z
    · exact nI_ge (by omega) (by omega) z
    · exact nI_ge (b := 512) (by omega) (by omega) z
  have s2 : nI (l.length + 2) - 2 = nI l.length := by
    have := sub_n (a := l.length + 2) (b := 2) (by omega)
    rw [show l.length + 2 - 2 = l.length by omega] at this
    exact this
  have s1 : nI (l.length + 2) - 1 = nI (l.length + 1) := nI_pred _
  have n0 : nI y.1 = 0 ↔ y.1 = 0 := nI_eq (b := 0) (by omega) (by decide)
  have em := kd_emp x1 x2
  -- the last one, by its bits
  have od : x_cd y &&& 1 = 1 ↔ y.2.1 % 2 = 1 := by
    rw [kd_N, show (1 : Int32) = nI (2 ^ 1 - 1) from rfl, and_lo]
    have : (y.2.1 + 65536 * y.1 + 16777216 * (if y.2.2 = true then 1 else 0)) % 2 ^ 1 = y.2.1 % 2 := by omega
    rw [this]
    exact nI_eq (by omega) (by decide)
  have pr : y.2.1 % 2 = 1 → (x_cd x = x_cd y - 1 ↔ x = (y.1, y.2.1 - 1, y.2.2)) := fun o => by
    have e : x_cd y - 1 = x_cd (y.1, y.2.1 - 1, y.2.2) := by
      rw [kd_N, kd_N]
      have := sub_n (a := y.2.1 + 65536 * y.1 + 16777216 * (if y.2.2 = true then 1 else 0)) (b := 1) (by omega)
      refine Eq.trans this ?_
      congr 1
      show _ = y.2.1 - 1 + 65536 * y.1 + 16777216 * (if y.2.2 = true then 1 else 0)
      omega
    rw [e]
    exact ⟨kd_inj x1 x2 y1 (by show y.2.1 - 1 < 65536; omega), fun z => by rw [z]⟩
  unfold r_pfxPair
  rw [hs, s2, s1, at_ _ (by omega), at_ _ (by omega), ex, ey, kd_len y1 y2]
  unfold x_jn
  by_cases c0 : y.1 = 0
  · rw [if_pos (.inr (.inr (.inl (n0.mpr c0))))]
    exact ⟨fun z => (z rfl).elim, fun z => by have := z.2.2.1; have := z.2.2.2.1; omega⟩
  · by_cases c1 : x.2.2 = true
    · rw [if_neg (fun z => ?_)]
      · by_cases c2 : x_cd y &&& 1 = 1 ∧ x_cd x = x_cd y - 1
        · rw [if_pos c2]
          have o := od.mp c2.1
          have e := (pr o).mp c2.2
          have e1 : x.1 = y.1 := congrArg (fun z => z.1) e
          have e2 : x.2.1 = y.2.1 - 1 := congrArg (fun z => z.2.1) e
          have e3 : x.2.2 = y.2.2 := congrArg (fun z => z.2.2) e
          exact ⟨fun _ => ⟨c1, e3 ▸ c1, e1, by omega, by omega, by omega⟩, fun _ => by decide⟩
        · rw [if_neg c2]
          refine ⟨fun z => (z rfl).elim, fun z => (c2 ?_).elim⟩
          obtain ⟨z1, z2, z3, z4, z5, z6⟩ := z
          have o : y.2.1 % 2 = 1 := by omega
          refine ⟨od.mpr o, (pr o).mpr ?_⟩
          exact Prod.ext z3 (Prod.ext (by show x.2.1 = y.2.1 - 1; omega) (by show x.2.2 = y.2.2; rw [z1, z2]))
      · rcases z with z | z | z | z
        · exact kd_nm x1 x2 z
        · exact kd_nm y1 y2 z
        · exact c0 (n0.mp z)
        · rw [em.mp z] at c1
          exact absurd c1 (by decide)
    · rw [if_pos (.inr (.inr (.inr (em.mpr (by simpa using c1)))))]
      exact ⟨fun z => (z rfl).elim, fun z => (c1 z.1).elim⟩
theorem lc_step {M : zMem} {w i hi : Nat} {l : List zX} {x y : zX} (h : L_C M w i (l ++ [x, y])) (hl : l.length + 2 ≤ 512) (ch : x_ch 0 (l ++ [x, y]) hi) (hi2 : hi ≤ 65536) (j : x_jn x y) : L_C (m_joinStep w i M) w i (l ++ [x_up x]) := by
  obtain ⟨y1, y2, -⟩ := x_ok ch hi2 (x := y) (by simp)
  obtain ⟨j1, j2, j3, j4, j5, j6⟩ := j
  have h' : L_C M w i ((l ++ [x]) ++ [y]) := by
    rw [List.append_assoc]
    exact h
  obtain ⟨t1, t2⟩ := lc_take h' (by rw [List.length_append]; show l.length + 1 < 512; omega)
  obtain ⟨t3, -⟩ := lc_take t1 (by omega)
  have e : (16777216 : Int32) ||| (r_lengthOf (r_pfxTake M w i) - 1) <<< (16 &&& 31) ||| r_bitsOf (r_pfxTake M w i) >>> (1 &&& 31) = x_cd (x_up x) := by
    rw [t2, kd_len y1 y2, kd_bits y2, kd_up (by omega) y1 y2]
    unfold x_up
    rw [j3, show y.2.1 / 2 = x.2.1 / 2 by omega]
  unfold m_joinStep
  rw [e]
  exact lc_add t3 (by omega)
theorem red_snoc {k : List zX} {y : zX} (h : x_red k) (h2 : ∀ k' x, k = k' ++ [x] → ¬ x_jn x y) : x_red (k ++ [y]) := by
  intro l1 a b l2 e
  rcases List.eq_nil_or_concat l2 with rfl | ⟨l3, z, rfl⟩
  · have e' : k ++ [y] = (l1 ++ [a]) ++ [b] := by
      rw [e, List.append_assoc]
      rfl
    obtain ⟨e1, e2⟩ := List.append_inj' e' rfl
    have : y = b := by simpa using e2
    subst this
    exact h2 l1 a e1
  · have e' : k ++ [y] = (l1 ++ a :: b :: l3) ++ [z] := by
      rw [e, List.append_assoc]
      simp
    obtain ⟨e1, -⟩ := List.append_inj' e' rfl
    exact h l1 a b l3 e1
theorem lc_join {w i hi : Nat} (hi2 : hi ≤ 65536) : ∀ (f : Nat) (k : List zX) (y : zX) (M : zMem), L_C M w i (k ++ [y]) → (k ++ [y]).length ≤ 512 → x_ch 0 (k ++ [y]) hi → x_red k → y.1 ≤ f → ∃ l', L_C (m_join1 w i f M) w i l' ∧ x_ch 0 l' hi ∧ x_red l' ∧ x_ne l' = x_ne (k ++ [y]) ∧ l'.length ≤ (k ++ [y]).length
  | 0, k, y, M, h, hl, ch, rd, hy => ⟨k ++ [y], h, ch, red_snoc rd (fun k' x _ z => by have := z.2.2.1; have := z.2.2.2.1; omega), rfl, Nat.le_refl _⟩
  | f + 1, k, y, M, h, hl, ch, rd, hy => by
    unfold m_join1
    have hlen : (k ++ [y]).length = k.length + 1 := by
      rw [List.length_append]
      rfl
    rcases List.eq_nil_or_concat k with rfl | ⟨k', x, ek⟩
    · have p0 : r_pfxPair M w i = 0 := Classical.byContradiction (fun z => by
        have := sz_pair (k := 1) h.1 (by omega) z
        omega)
      rw [if_pos p0]
      exact ⟨[] ++ [y], h, ch, red_snoc rd (fun k' x e _ => by simp at e), rfl, Nat.le_refl _⟩
    · obtain rfl : k = k' ++ [x] := by rw [ek, List.concat_eq_append]
      have e0 : k' ++ [x] ++ [y] = k' ++ [x, y] := by rw [List.append_assoc]; rfl
      have hlen2 : (k' ++ [x]).length = k'.length + 1 := by
        rw [List.length_append]
        rfl
      have hp := pair_iff (M := M) (w := w) (i := i) (hi := hi) (l := k') (x := x) (y := y) (by rw [← e0]; exact h) (by omega) (by rw [← e0]; exact ch) hi2
      by_cases c : x_jn x y
      · rw [if_neg (hp.mpr c)]
        have s := lc_step (M := M) (w := w) (i := i) (hi := hi) (l := k') (x := x) (y := y) (by rw [← e0]; exact h) (by omega) (by rw [← e0]; exact ch) hi2 c
        have jn := x_join (l1 := k') (l2 := []) (x := x) (y := y) (by rw [← e0]; exact ch) c
        have hup : (k' ++ [x_up x]).length = k'.length + 1 := by
          rw [List.length_append]
          rfl
        obtain ⟨l', g1, g2, g3, g4, g5⟩ := lc_join hi2 f k' (x_up x) _ s (by omega) jn.1 (x_redL rd) (by
          have := c.2.2.1
          have := c.2.2.2.1
          show x.1 - 1 ≤ f
          omega)
        exact ⟨l', g1, g2, g3, by rw [g4, jn.2, e0], by omega⟩
      · rw [if_pos (Classical.byContradiction (fun z => c (hp.mp z)))]
        refine ⟨k' ++ [x] ++ [y], h, ch, red_snoc rd (fun k2 x2 e => ?_), rfl, Nat.le_refl _⟩
        obtain ⟨-, e2⟩ := List.append_inj' e rfl
        have : x = x2 := by simpa using e2
        rw [← this]
        exact c
theorem x_hi {l1 l2 : List zX} {hi : Nat} (h : x_ch 0 (l1 ++ l2) hi) : ∃ m, m ≤ hi ∧ x_ch 0 l1 m := by
  obtain ⟨m, a, b⟩ := x_app.mp h
  exact ⟨m, x_le b, a⟩
theorem x_fun {l : List zX} {lo m n : Nat} (h : x_ch lo l m) (h2 : x_ch lo l n) : m = n := by
  induction l generalizing lo with
  | nil =>
    have h : lo = m := h
    have h2 : lo = n := h2
    omega
  | cons x l ih => exact ih h.2.2 h2.2.2
/-- the class's learnt ones -/
theorem lc_all {M : zMem} {w i j : Nat} {al : List zX} (hij : ¬ j = i) (h : L_C M w j al) (hl : al.length ≤ 512) (ch : x_ch 0 al 65536) : ∀ n, n ≤ al.length → ∃ l' m, L_C (z_it (f_joined w i j) n (m_pfxClear M w i)) w i l' ∧ m ≤ 65536 ∧ x_ch 0 (al.take n) m ∧ x_ch 0 l' m ∧ x_red l' ∧ x_ne l' = x_ne (al.take n) ∧ l'.length ≤ n
  | 0, _ => ⟨[], 0, ⟨zn_upS, fun k hk => absurd hk (Nat.not_lt_zero k)⟩, by omega, rfl, rfl, fun l1 a b l2 e => by simp at e, rfl, Nat.le_refl _⟩
  | n + 1, hn => by
    obtain ⟨l', m, g1, g2, g3, g4, g5, g6, g7⟩ := lc_all hij h hl ch n (by omega)
    have off := z_off_joined (w := w) (i := i) (j := j) (M := M) n
    rw [z_itS, f_joined]
    generalize z_it (f_joined w i j) n (m_pfxClear M w i) = N at *
    have hs : N.1 3 w j 1 = nI al.length := (off.1 _ _ _ _ (fun z => hij z.2.2)).trans h.1
    have hx : r_pfxAt N w j (nI n) = x_cd al[n] := by
      unfold r_pfxAt
      rw [hs, if_neg (fun z => ?_), nI_clamp (by omega), off.1 _ _ _ _ (fun z => hij z.2.2)]
      · exact h.2 n (by omega)
      · rcases z with z | z | z
        · exact nI_pos (by omega) z
        · exact nI_ge (b := al.length) (by omega) (by omega) z
        · exact nI_ge (b := 512) (by omega) (by omega) z
    rw [hx]
    have et : al.take (n + 1) = al.take n ++ [al[n]] := by
      rw [List.take_append_getElem]
    obtain ⟨m2, m3, c2⟩ := x_hi (l1 := al.take (n + 1)) (l2 := al.drop (n + 1)) (by rw [List.take_append_drop]; exact ch)
    have c3 : x_ch 0 (l' ++ [al[n]]) m2 := by
      rw [et] at c2
      obtain ⟨q, q1, q2⟩ := x_app.mp c2
      have : q = m := x_fun q1 g3
      subst this
      exact x_app.mpr ⟨q, g4, q2⟩
    have len : (l' ++ [al[n]]).length = l'.length + 1 := by
      rw [List.length_append]
      rfl
    obtain ⟨l2, k1, k2, k3, k4, k5⟩ := lc_join m3 16 l' al[n] _ (lc_add g1 (by omega)) (by omega) c3 g5 (x_ok ch (Nat.le_refl _) (List.getElem_mem _)).1
    refine ⟨l2, m2, k1, m3, c2, k2, k3, ?_, by omega⟩
    rw [k4, et, x_neA, x_neA, g6]
