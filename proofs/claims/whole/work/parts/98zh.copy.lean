/-! a world copied; ticks of any world -/
theorem tagC_at {X : zMem} {w w2 i a c d : Nat} (hw : ¬ w2 = w) : (m_tagCopy X w i w2).1 a w c d = if a = 7 ∧ c = i ∧ d < 10 then X.1 7 w2 i d else X.1 a w c d := by
  unfold m_tagCopy
  simp only [z_up1, true_and, hw, false_and, and_false, if_false]
  by_cases e : a = 7 ∧ c = i ∧ d < 10
  · rw [if_pos e]
    obtain ⟨rfl, rfl, dn⟩ := e
    rcases (show d = 0 ∨ d = 1 ∨ d = 2 ∨ d = 3 ∨ d = 4 ∨ d = 5 ∨ d = 6 ∨ d = 7 ∨ d = 8 ∨ d = 9 by omega) with rfl | rfl | rfl | rfl | rfl | rfl | rfl | rfl | rfl | rfl <;> simp
  · rw [if_neg (show ¬ (a = 7 ∧ c = i ∧ d < 10) from e), if_neg (by omega), if_neg (by omega), if_neg (by omega), if_neg (by omega), if_neg (by omega), if_neg (by omega), if_neg (by omega), if_neg (by omega), if_neg (by omega), if_neg (by omega)]
theorem tallyC_at {X : zMem} {w w2 i a c d : Nat} (hw : ¬ w2 = w) : (m_tallyCopy X w i w2).1 a w c d = if a = 8 ∧ c = i ∧ d < 3 then X.1 8 w2 i d else X.1 a w c d := by
  unfold m_tallyCopy
  simp only [z_up1, true_and, hw, false_and, and_false, if_false]
  by_cases e : a = 8 ∧ c = i ∧ d < 3
  · rw [if_pos e]
    obtain ⟨rfl, rfl, dn⟩ := e
    rcases (show d = 0 ∨ d = 1 ∨ d = 2 by omega) with rfl | rfl | rfl <;> simp
  · rw [if_neg (show ¬ (a = 8 ∧ c = i ∧ d < 3) from e), if_neg (by omega), if_neg (by omega), if_neg (by omega)]
theorem pfxC_at {X : zMem} {w w2 i a c d : Nat} (hw : ¬ w2 = w) : (m_pfxCopy X w i w2).1 a w c d = if a = 22 ∧ c = i ∧ d < 512 then X.1 22 w2 i d else if a = 3 ∧ c = i ∧ d = 1 then X.1 3 w2 i 1 else X.1 a w c d := by
  unfold m_pfxCopy
  rw [z_cp1]
  by_cases e : a = 22 ∧ c = i
  · obtain ⟨rfl, rfl⟩ := e
    rw [if_pos ⟨rfl, rfl, rfl⟩]
    by_cases d5 : d < 512
    · rw [if_pos d5, if_pos ⟨rfl, rfl, d5⟩]
    · rw [if_neg d5, if_neg (by omega), if_neg (by omega)]
  · rw [if_neg (by omega), if_neg (by omega), z_up1]
    by_cases e2 : a = 3 ∧ c = i ∧ d = 1
    · rw [if_pos e2, if_pos (by omega)]
    · rw [if_neg e2, if_neg (by omega)]
/-- what of a world is looked at -/
abbrev W_rd (r a c d : Nat) : Prop := (a = 4 ∧ c = r ∧ d < 12) ∨ (a = 8 ∧ (c = 2 * r ∨ c = 2 * r + 1) ∧ d < 3) ∨ (a = 23 ∧ c = r ∧ d < 24) ∨ (a = 3 ∧ (c = 3 * r ∨ c = 3 * r + 1 ∨ c = 3 * r + 2) ∧ d = 1) ∨ (a = 22 ∧ (c = 3 * r ∨ c = 3 * r + 1 ∨ c = 3 * r + 2) ∧ d < 512)
theorem rdC1_at {X : zMem} {w w2 r a c d : Nat} (hw : ¬ w2 = w) : (z_up (z_up (z_up (z_up (z_up (z_up (z_up (z_up (z_up (z_up (z_up (z_up X 4 w r 0 (X.1 4 w2 r 0)) 4 w r 1 (X.1 4 w2 r 1)) 4 w r 2 (X.1 4 w2 r 2)) 4 w r 3 (X.1 4 w2 r 3)) 4 w r 4 (X.1 4 w2 r 4)) 4 w r 5 (X.1 4 w2 r 5)) 4 w r 6 (X.1 4 w2 r 6)) 4 w r 7 (X.1 4 w2 r 7)) 4 w r 8 (X.1 4 w2 r 8)) 4 w r 9 (X.1 4 w2 r 9)) 4 w r 10 (X.1 4 w2 r 10)) 4 w r 11 (X.1 4 w2 r 11)).1 a w c d = if a = 4 ∧ c = r ∧ d < 12 then X.1 4 w2 r d else X.1 a w c d := by
  simp only [z_up1, true_and]
  by_cases e : a = 4 ∧ c = r ∧ d < 12
  · rw [if_pos e]
    obtain ⟨rfl, rfl, dn⟩ := e
    rcases (show d = 0 ∨ d = 1 ∨ d = 2 ∨ d = 3 ∨ d = 4 ∨ d = 5 ∨ d = 6 ∨ d = 7 ∨ d = 8 ∨ d = 9 ∨ d = 10 ∨ d = 11 by omega) with rfl | rfl | rfl | rfl | rfl | rfl | rfl | rfl | rfl | rfl | rfl | rfl <;> simp
  · rw [if_neg (show ¬ (a = 4 ∧ c = r ∧ d < 12) from e), if_neg (by omega), if_neg (by omega), if_neg (by omega), if_neg (by omega), if_neg (by omega), if_neg (by omega), if_neg (by omega), if_neg (by omega), if_neg (by omega), if_neg (by omega), if_neg (by omega), if_neg (by omega)]
theorem rdC_at {X : zMem} {w w2 r a c d : Nat} (hw : ¬ w2 = w) : (m_rdCopy X w r w2).1 a w c d = if W_rd r a c d then X.1 a w2 c d else X.1 a w c d := by
  unfold m_rdCopy
  dsimp only
  have o1 : z_onW w X (z_up (z_up (z_up (z_up (z_up (z_up (z_up (z_up (z_up (z_up (z_up (z_up X 4 w r 0 (X.1 4 w2 r 0)) 4 w r 1 (X.1 4 w2 r 1)) 4 w r 2 (X.1 4 w2 r 2)) 4 w r 3 (X.1 4 w2 r 3)) 4 w r 4 (X.1 4 w2 r 4)) 4 w r 5 (X.1 4 w2 r 5)) 4 w r 6 (X.1 4 w2 r 6)) 4 w r 7 (X.1 4 w2 r 7)) 4 w r 8 (X.1 4 w2 r 8)) 4 w r 9 (X.1 4 w2 r 9)) 4 w r 10 (X.1 4 w2 r 10)) 4 w r 11 (X.1 4 w2 r 11)) := zw_tr (zw_tr (zw_tr (zw_tr (zw_tr (zw_tr (zw_tr (zw_tr (zw_tr (zw_tr (zw_tr zw_up zw_up) zw_up) zw_up) zw_up) zw_up) zw_up) zw_up) zw_up) zw_up) zw_up) zw_up
  have e1 : ∀ a c d, _ = _ := fun a c d => rdC1_at (X := X) (w := w) (w2 := w2) (r := r) (a := a) (c := c) (d := d) hw
  generalize (z_up (z_up (z_up (z_up (z_up (z_up (z_up (z_up (z_up (z_up (z_up (z_up X 4 w r 0 (X.1 4 w2 r 0)) 4 w r 1 (X.1 4 w2 r 1)) 4 w r 2 (X.1 4 w2 r 2)) 4 w r 3 (X.1 4 w2 r 3)) 4 w r 4 (X.1 4 w2 r 4)) 4 w r 5 (X.1 4 w2 r 5)) 4 w r 6 (X.1 4 w2 r 6)) 4 w r 7 (X.1 4 w2 r 7)) 4 w r 8 (X.1 4 w2 r 8)) 4 w r 9 (X.1 4 w2 r 9)) 4 w r 10 (X.1 4 w2 r 10)) 4 w r 11 (X.1 4 w2 r 11)) = X1 at *
  have o2 : z_onW w X (m_tallyCopy X1 w (2 * r) w2) := zw_tr o1 zw_tally
  have e2 : ∀ a c d, (m_tallyCopy X1 w (2 * r) w2).1 a w c d = if (a = 4 ∧ c = r ∧ d < 12) ∨ (a = 8 ∧ c = 2 * r ∧ d < 3) then X.1 a w2 c d else X.1 a w c d := fun a c d => by
    rw [tallyC_at hw, o1 _ _ _ _ hw, e1]
    by_cases p : a = 8 ∧ c = 2 * r ∧ d < 3
    · rw [if_pos p, if_pos (.inr p), p.1, p.2.1]
    · rw [if_neg p]
      by_cases q : a = 4 ∧ c = r ∧ d < 12
      · rw [if_pos q, if_pos (.inl q), q.1, q.2.1]
      · rw [if_neg q, if_neg (fun z => z.elim q p)]
  generalize m_tallyCopy X1 w (2 * r) w2 = X2 at *
  have o3 : z_onW w X (m_tallyCopy X2 w (2 * r + 1) w2) := zw_tr o2 zw_tally
  have e3 : ∀ a c d, (m_tallyCopy X2 w (2 * r + 1) w2).1 a w c d = if (a = 4 ∧ c = r ∧ d < 12) ∨ (a = 8 ∧ (c = 2 * r ∨ c = 2 * r + 1) ∧ d < 3) then X.1 a w2 c d else X.1 a w c d := fun a c d => by
    rw [tallyC_at hw, o2 _ _ _ _ hw, e2]
    by_cases p : a = 8 ∧ c = 2 * r + 1 ∧ d < 3
    · rw [if_pos p, if_pos (by omega), p.1, p.2.1]
    · rw [if_neg p]
      by_cases q : (a = 4 ∧ c = r ∧ d < 12) ∨ (a = 8 ∧ c = 2 * r ∧ d < 3)
      · rw [if_pos q, if_pos (by omega)]
      · rw [if_neg q, if_neg (by omega)]
  generalize m_tallyCopy X2 w (2 * r + 1) w2 = X3 at *
  have o4 : z_onW w X (z_cp X3 23 w r (fun j => if j < 24 then X3.1 23 w2 r j else X3.1 23 w r j)) := zw_tr o3 zw_cp
  have e4 : ∀ a c d, (z_cp X3 23 w r (fun j => if j < 24 then X3.1 23 w2 r j else X3.1 23 w r j)).1 a w c d = if (a = 4 ∧ c = r ∧ d < 12) ∨ (a = 8 ∧ (c = 2 * r ∨ c = 2 * r + 1) ∧ d < 3) ∨ (a = 23 ∧ c = r ∧ d < 24) then X.1 a w2 c d else X.1 a w c d := fun a c d => by
    rw [z_cp1]
    by_cases p : a = 23 ∧ c = r
    · obtain ⟨rfl, rfl⟩ := p
      rw [if_pos ⟨rfl, rfl, rfl⟩]
      by_cases q : d < 24
      · rw [if_pos q, o3 _ _ _ _ hw, if_pos (by omega)]
      · rw [if_neg q, e3, if_neg (by omega), if_neg (by omega)]
    · rw [if_neg (by omega), e3]
      by_cases q : (a = 4 ∧ c = r ∧ d < 12) ∨ (a = 8 ∧ (c = 2 * r ∨ c = 2 * r + 1) ∧ d < 3)
      · rw [if_pos q, if_pos (by omega)]
      · rw [if_neg q, if_neg (by omega)]
  generalize z_cp X3 23 w r (fun j => if j < 24 then X3.1 23 w2 r j else X3.1 23 w r j) = X4 at *
  have o5 : z_onW w X (m_pfxCopy X4 w (3 * r) w2) := zw_tr o4 zw_pfx
  have e5 : ∀ a c d, (m_pfxCopy X4 w (3 * r) w2).1 a w c d = if (a = 4 ∧ c = r ∧ d < 12) ∨ (a = 8 ∧ (c = 2 * r ∨ c = 2 * r + 1) ∧ d < 3) ∨ (a = 23 ∧ c = r ∧ d < 24) ∨ (a = 3 ∧ c = 3 * r ∧ d = 1) ∨ (a = 22 ∧ c = 3 * r ∧ d < 512) then X.1 a w2 c d else X.1 a w c d := fun a c d => by
    rw [pfxC_at hw, o4 _ _ _ _ hw, o4 _ _ _ _ hw, e4]
    by_cases p : a = 22 ∧ c = 3 * r ∧ d < 512
    · rw [if_pos p, if_pos (by omega), p.1, p.2.1]
    · rw [if_neg p]
      by_cases p2 : a = 3 ∧ c = 3 * r ∧ d = 1
      · rw [if_pos p2, if_pos (by omega), p2.1, p2.2.1, p2.2.2]
      · rw [if_neg p2]
        by_cases q : (a = 4 ∧ c = r ∧ d < 12) ∨ (a = 8 ∧ (c = 2 * r ∨ c = 2 * r + 1) ∧ d < 3) ∨ (a = 23 ∧ c = r ∧ d < 24)
        · rw [if_pos q, if_pos (by omega)]
        · rw [if_neg q, if_neg (by omega)]
  generalize m_pfxCopy X4 w (3 * r) w2 = X5 at *
  have o6 : z_onW w X (m_pfxCopy X5 w (3 * r + 1) w2) := zw_tr o5 zw_pfx
  have e6 : ∀ a c d, (m_pfxCopy X5 w (3 * r + 1) w2).1 a w c d = if (a = 4 ∧ c = r ∧ d < 12) ∨ (a = 8 ∧ (c = 2 * r ∨ c = 2 * r + 1) ∧ d < 3) ∨ (a = 23 ∧ c = r ∧ d < 24) ∨ (a = 3 ∧ (c = 3 * r ∨ c = 3 * r + 1) ∧ d = 1) ∨ (a = 22 ∧ (c = 3 * r ∨ c = 3 * r + 1) ∧ d < 512) then X.1 a w2 c d else X.1 a w c d := fun a c d => by
    rw [pfxC_at hw, o5 _ _ _ _ hw, o5 _ _ _ _ hw, e5]
    by_cases p : a = 22 ∧ c = 3 * r + 1 ∧ d < 512
    · rw [if_pos p, if_pos (by omega), p.1, p.2.1]
    · rw [if_neg p]
      by_cases p2 : a = 3 ∧ c = 3 * r + 1 ∧ d = 1
      · rw [if_pos p2, if_pos (by omega), p2.1, p2.2.1, p2.2.2]
      · rw [if_neg p2]
        by_cases q : (a = 4 ∧ c = r ∧ d < 12) ∨ (a = 8 ∧ (c = 2 * r ∨ c = 2 * r + 1) ∧ d < 3) ∨ (a = 23 ∧ c = r ∧ d < 24) ∨ (a = 3 ∧ c = 3 * r ∧ d = 1) ∨ (a = 22 ∧ c = 3 * r ∧ d < 512)
        · rw [if_pos q, if_pos (by omega)]
        · rw [if_neg q, if_neg (by omega)]
  generalize m_pfxCopy X5 w (3 * r + 1) w2 = X6 at *
  rw [pfxC_at hw, o6 _ _ _ _ hw, o6 _ _ _ _ hw, e6]
  by_cases p : a = 22 ∧ c = 3 * r + 2 ∧ d < 512
  · rw [if_pos p, if_pos (show W_rd r a c d by unfold W_rd; omega), p.1, p.2.1]
  · rw [if_neg p]
    by_cases p2 : a = 3 ∧ c = 3 * r + 2 ∧ d = 1
    · rw [if_pos p2, if_pos (show W_rd r a c d by unfold W_rd; omega), p2.1, p2.2.1, p2.2.2]
    · rw [if_neg p2]
      by_cases q : (a = 4 ∧ c = r ∧ d < 12) ∨ (a = 8 ∧ (c = 2 * r ∨ c = 2 * r + 1) ∧ d < 3) ∨ (a = 23 ∧ c = r ∧ d < 24) ∨ (a = 3 ∧ (c = 3 * r ∨ c = 3 * r + 1) ∧ d = 1) ∨ (a = 22 ∧ (c = 3 * r ∨ c = 3 * r + 1) ∧ d < 512)
      · rw [if_pos q, if_pos (show W_rd r a c d by unfold W_rd; omega)]
      · rw [if_neg q, if_neg (show ¬ W_rd r a c d by unfold W_rd; omega)]
theorem wc_W {M : zMem} {w w2 : Nat} (hw : ¬ w2 = w) : W_eq M w2 (m_wCopy M w w2) w ∧ z_onW w M (m_wCopy M w w2) ∧ (m_wCopy M w w2).2 = M.2 := by
  have o1 : z_onW w M (m_wc1 M w w2) := zw_tr (zw_tr (zw_tr zw_up zw_up) zw_up) zw_up
  have v1 : ∀ k, k < 4 → (m_wc1 M w w2).1 9 w 0 (5 + k) = M.1 9 w2 0 (5 + k) := fun k hk => by
    unfold m_wc1
    simp only [z_up1, true_and]
    rcases (show k = 0 ∨ k = 1 ∨ k = 2 ∨ k = 3 by omega) with rfl | rfl | rfl | rfl <;> simp
  have z1 : (m_wc1 M w w2).2 = M.2 := rfl
  have t : ∀ n, n ≤ 24 → z_onW w M (z_it (f_wc1 w w2) n (m_wc1 M w w2)) ∧ (∀ i k, i < n → k < 10 → (z_it (f_wc1 w w2) n (m_wc1 M w w2)).1 7 w i k = M.1 7 w2 i k) ∧ (∀ a c d, ¬ a = 7 → (z_it (f_wc1 w w2) n (m_wc1 M w w2)).1 a w c d = (m_wc1 M w w2).1 a w c d) ∧ (z_it (f_wc1 w w2) n (m_wc1 M w w2)).2 = M.2 := fun n => by
    induction n with
    | zero => exact fun _ => ⟨o1, fun i k hi => absurd hi (Nat.not_lt_zero i), fun a c d _ => rfl, z1⟩
    | succ n ih =>
      intro hn
      obtain ⟨i1, i2, i3, i4⟩ := ih (by omega)
      rw [z_itS, f_wc1]
      generalize z_it (f_wc1 w w2) n (m_wc1 M w w2) = X at *
      refine ⟨zw_tr i1 zw_tag, fun i k hi hk => ?_, fun a c d ne => ?_, i4⟩
      · rw [tagC_at hw]
        by_cases e : i = n
        · rw [if_pos (by omega), i1 _ _ _ _ hw, e]
        · rw [if_neg (by omega)]
          exact i2 i k (by omega) hk
      · rw [tagC_at hw, if_neg (by omega)]
        exact i3 a c d ne
  obtain ⟨t1, t2, t3, t4⟩ := t 24 (Nat.le_refl _)
  generalize eX : z_it (f_wc1 w w2) 24 (m_wc1 M w w2) = X at *
  have u : ∀ n, n ≤ 4 → z_onW w M (z_it (f_wc2 w w2) n X) ∧ (∀ r a c d, r < n → W_rd r a c d → (z_it (f_wc2 w w2) n X).1 a w c d = M.1 a w2 c d) ∧ (∀ a c d, (∀ r, r < n → ¬ W_rd r a c d) → (z_it (f_wc2 w w2) n X).1 a w c d = X.1 a w c d) ∧ (z_it (f_wc2 w w2) n X).2 = M.2 := fun n => by
    induction n with
    | zero => exact fun _ => ⟨t1, fun r a c d hr => absurd hr (Nat.not_lt_zero r), fun a c d _ => rfl, t4⟩
    | succ n ih =>
      intro hn
      obtain ⟨i1, i2, i3, i4⟩ := ih (by omega)
      rw [z_itS, f_wc2]
      generalize z_it (f_wc2 w w2) n X = Y at *
      refine ⟨zw_tr i1 zw_rd, fun r a c d hr hW => ?_, fun a c d ne => ?_, i4⟩
      · rw [rdC_at hw]
        by_cases e : W_rd n a c d
        · rw [if_pos e, i1 _ _ _ _ hw]
        · rw [if_neg e]
          by_cases e2 : r = n
          · subst e2
            exact (e hW).elim
          · exact i2 r a c d (by omega) hW
      · rw [rdC_at hw, if_neg (ne n (by omega))]
        exact i3 a c d (fun r hr => ne r (by omega))
  obtain ⟨u1, u2, u3, u4⟩ := u 4 (Nat.le_refl _)
  have e1 : m_wc2 M w w2 = m_jCopy (z_it (f_wc2 w w2) 4 X) w w2 := by
    unfold m_wc2
    rw [eX]
  unfold m_wCopy
  rw [e1]
  generalize z_it (f_wc2 w w2) 4 X = Y at *
  have jo : z_onW w M (m_jCopy Y w w2) := zw_tr u1 (zw_tr zw_up zw_cp)
  have ja : ∀ a c d, ¬ a = 2 → ¬ a = 21 → (m_jCopy Y w w2).1 a w c d = Y.1 a w c d := fun a c d h1 h2 => by
    unfold m_jCopy
    rw [z_cp1, if_neg (by omega), z_up1, if_neg (by omega)]
  have j2 : (m_jCopy Y w w2).1 2 w 0 1 = M.1 2 w2 0 1 := by
    unfold m_jCopy
    rw [z_cp1, if_neg (by omega), z_up1, if_pos ⟨rfl, rfl, rfl, rfl⟩, u1 _ _ _ _ hw]
  have j21 : ∀ p, p < 240 → (m_jCopy Y w w2).1 21 w 0 p = M.1 21 w2 0 p := fun p hp => by
    unfold m_jCopy
    rw [z_cp1, if_pos ⟨rfl, rfl, rfl⟩, if_pos hp, u1 _ _ _ _ hw]
  have j0 : (m_jCopy Y w w2).2 = M.2 := u4
  generalize m_jCopy Y w w2 = V at *
  have ca : ∀ a c d, ¬ a = 20 → (z_cp V 20 w 0 (fun j => if j < 14 then V.1 20 w2 0 j else V.1 20 w 0 j)).1 a w c d = V.1 a w c d := fun a c d h1 => by
    rw [z_cp1, if_neg (by omega)]
  have nW : ∀ a c d, a = 9 ∨ a = 7 → ∀ r, r < 4 → ¬ W_rd r a c d := fun a c d h r _ => by
    unfold W_rd
    omega
  have cW : ∀ r a c d, r < 4 → W_rd r a c d → (z_cp V 20 w 0 (fun j => if j < 14 then V.1 20 w2 0 j else V.1 20 w 0 j)).1 a w c d = M.1 a w2 c d := fun r a c d hr hW => by
    rw [ca _ _ _ (by unfold W_rd at hW; omega), ja _ _ _ (by unfold W_rd at hW; omega) (by unfold W_rd at hW; omega)]
    exact u2 r a c d hr hW
  refine ⟨⟨fun k hk => ?_, ?_, fun p hp => ?_, fun k hk => ?_, fun i hi k hk => ?_, fun r hr => ⟨fun k hk => ?_, fun o k h1 h2 => ?_, fun o h1 => ?_, fun o j h1 h2 => ?_, fun j hj => ?_⟩⟩, zw_tr jo zw_cp, j0⟩
  · rw [ca _ _ _ (by omega), ja _ _ _ (by omega) (by omega), u3 _ _ _ (nW _ _ _ (.inl rfl)), t3 _ _ _ (by omega)]
    exact v1 k hk
  · rw [ca _ _ _ (by omega)]
    exact j2
  · rw [ca _ _ _ (by omega)]
    exact j21 p hp
  · rw [z_cp1, if_pos ⟨rfl, rfl, rfl⟩, if_pos hk, jo _ _ _ _ hw]
  · rw [ca _ _ _ (by omega), ja _ _ _ (by omega) (by omega), u3 _ _ _ (nW _ _ _ (.inr rfl))]
    exact t2 i k hi hk
  · exact cW r _ _ _ hr (by unfold W_rd; omega)
  · exact cW r _ _ _ hr (by unfold W_rd; omega)
  · exact cW r _ _ _ hr (by unfold W_rd; omega)
  · exact cW r _ _ _ hr (by unfold W_rd; omega)
  · exact cW r _ _ _ hr (by unfold W_rd; omega)
