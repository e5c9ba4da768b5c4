/-! the log of the class and the reference's -/
def S_jour (M : zMem) (w : Nat) (R : Nat → Int32) (c : Nat) : Prop :=
  M.1 2 w 0 1 = nI c ∧ R 4 = nI c ∧ ∀ j, j < min c 60 → ∀ x, x < 4 → M.1 21 w 0 ((c - 1 - j) % 60 * 4 + x) = R (22 + 4 * (min c 60 - 1 - j) + x)
theorem S_jourC {M M2 : zMem} {w c : Nat} {R R2 : Nat → Int32} (h : S_jour M w R c) (h1 : M2.1 2 w 0 1 = M.1 2 w 0 1) (h2 : ∀ p, M2.1 21 w 0 p = M.1 21 w 0 p) (h3 : ∀ p, 4 ≤ p → p < 262 → p = 4 ∨ 22 ≤ p → R2 p = R p) : S_jour M2 w R2 c := by
  refine ⟨h1.trans h.1, (h3 4 (by omega) (by omega) (.inl rfl)).trans h.2.1, fun j hj x hx => ?_⟩
  rw [h2, h3 _ (by omega) (by omega) (.inr (by omega))]
  exact h.2.2 j hj x hx
def z_4 (t r k n : Int32) (x : Nat) : Int32 := if x = 0 then t else if x = 1 then r else if x = 2 then k else n
theorem rd_j {M : zMem} {w c p : Nat} {t r k n : Int32} : (m_jAdd2 M w c t r k n).1 21 w 0 p = if c % 60 * 4 ≤ p ∧ p < c % 60 * 4 + 4 then z_4 t r k n (p - c % 60 * 4) else M.1 21 w 0 p := by
  unfold m_jAdd2 z_4
  rw [zn_upO (by decide)]
  by_cases e3 : p = c % 60 * 4 + 3
  · subst e3
    rw [zn_upS, if_pos (by omega), if_neg (by omega), if_neg (by omega), if_neg (by omega)]
  · rw [zn_upN e3]
    by_cases e2 : p = c % 60 * 4 + 2
    · subst e2
      rw [zn_upS, if_pos (by omega), if_neg (by omega), if_neg (by omega), if_pos (by omega)]
    · rw [zn_upN e2]
      by_cases e1 : p = c % 60 * 4 + 1
      · subst e1
        rw [zn_upS, if_pos (by omega), if_neg (by omega), if_pos (by omega)]
      · rw [zn_upN e1]
        by_cases e0 : p = c % 60 * 4
        · subst e0
          rw [zn_upS, if_pos (by omega), if_pos (by omega)]
        · rw [zn_upN e0, if_neg (by omega)]
theorem rd_log1 {M : zMem} {c p : Nat} {r k n : Int32} : (n_log1 M c r k n).1 24 0 0 p = if 22 + 4 * c ≤ p ∧ p < 22 + 4 * c + 4 then z_4 (M.1 24 0 0 (0)) r k n (p - (22 + 4 * c)) else (M.1 24 0 0 (p)) := by
  unfold n_log1 z_4
  by_cases e3 : p = 22 + 4 * c + 3
  · subst e3
    rw [zn_upS, if_pos (by omega), if_neg (by omega), if_neg (by omega), if_neg (by omega)]
  · rw [zn_upN e3]
    by_cases e2 : p = 22 + 4 * c + 2
    · subst e2
      rw [zn_upS, if_pos (by omega), if_neg (by omega), if_neg (by omega), if_pos (by omega)]
    · rw [zn_upN e2]
      by_cases e1 : p = 22 + 4 * c + 1
      · subst e1
        rw [zn_upS, if_pos (by omega), if_neg (by omega), if_pos (by omega)]
      · rw [zn_upN e1]
        by_cases e0 : p = 22 + 4 * c
        · subst e0
          rw [zn_upS, if_pos (by omega), if_pos (by omega)]
        · rw [zn_upN e0, if_neg (by omega)]
theorem S_log {M Mr : zMem} {w c : Nat} {r k n : Int32} (h : S_jour M w (Mr.1 24 0 0) c) (ht : M.1 9 w 0 5 = Mr.1 24 0 0 0) (hc : c < 2147483000) : S_jour (m_write M w r k n) w ((n_logs Mr c r k n).1 24 0 0) (c + 1) := by
  obtain ⟨h1, h2, h3⟩ := h
  unfold m_write
  rw [h1, nI_clamp (by omega), ht]
  refine ⟨?_, zf_logs4, fun j hj x hx => ?_⟩
  · unfold m_jAdd2
    exact zn_upS
  · rw [rd_j]
    have eL : (n_logs Mr c r k n).1 24 0 0 (22 + 4 * (min (c + 1) 60 - 1 - j) + x) = if j = 0 then z_4 (Mr.1 24 0 0 0) r k n x else Mr.1 24 0 0 (22 + 4 * (min c 60 - 1 - (j - 1)) + x) := by
      unfold n_logs
      by_cases c6 : c < 60
      · rw [if_pos c6, zn_upN (by omega), rd_log1]
        by_cases j0 : j = 0
        · subst j0
          rw [if_pos (by omega), if_pos rfl, show 22 + 4 * (min (c + 1) 60 - 1 - 0) + x - (22 + 4 * c) = x by omega]
        · rw [if_neg (by omega), if_neg j0, show 22 + 4 * (min (c + 1) 60 - 1 - j) + x = 22 + 4 * (min c 60 - 1 - (j - 1)) + x by omega]
      · rw [if_neg c6, zn_upN (by omega), rd_log1]
        by_cases j0 : j = 0
        · subst j0
          rw [if_pos (by omega), if_pos rfl, show 22 + 4 * (min (c + 1) 60 - 1 - 0) + x - (22 + 4 * 59) = x by omega, z_sh1, if_neg (by omega)]
        · rw [if_neg (by omega), if_neg j0, z_sh1, if_pos (by omega), show 22 + 4 * (min (c + 1) 60 - 1 - j) + x + 4 = 22 + 4 * (min c 60 - 1 - (j - 1)) + x by omega]
    rw [eL]
    by_cases j0 : j = 0
    · subst j0
      rw [if_pos rfl, if_pos (by omega), show (c + 1 - 1 - 0) % 60 * 4 + x - c % 60 * 4 = x by omega]
    · rw [if_neg j0, if_neg (by omega), show c + 1 - 1 - j = c - 1 - (j - 1) by omega]
      exact h3 (j - 1) (by omega) x hx

def S_cnt (M : zMem) (w : Nat) (R : Nat → Int32) : Prop := ∀ k, k < 14 → M.1 20 w 0 k = R (5 + k)
theorem S_cntC {M M2 : zMem} {w : Nat} {R R2 : Nat → Int32} (h : S_cnt M w R) (h1 : ∀ k, k < 14 → M2.1 20 w 0 k = M.1 20 w 0 k) (h2 : ∀ k, k < 14 → R2 (5 + k) = R (5 + k)) : S_cnt M2 w R2 := fun k hk => by
  rw [h1 k hk, h2 k hk]
  exact h k hk
theorem S_cntA {M Mr : zMem} {w k : Nat} {x : Int32} (h : S_cnt M w (Mr.1 24 0 0)) (hk : k < 14) : S_cnt (z_up M 20 w 0 k (M.1 20 w 0 k + x)) w ((n_counts Mr k x).1 24 0 0) := fun j hj => by
  unfold n_counts
  by_cases e : j = k
  · subst e
    rw [zn_upS, zn_upS, h j hj]
  · rw [zn_upN e, zn_upN (by omega), h j hj]

theorem fm_60 {c : Nat} (hc : c < 2147483000) : r_floorMod (nI c) 60 = nI (c % 60) := by
  unfold r_floorMod
  have e : nI c - nI c / 60 * 60 = nI (c % 60) := pk_rem (d := 60) (by omega) (by omega) (by omega)
  have e2 : nI c ^^^ 60 ≥ 0 := by
    show 0 ≤ nI c ^^^ nI 60
    rw [nx_xor]
    exact nI_pos' (Nat.lt_of_lt_of_le (Nat.xor_lt_two_pow (n := 31) (by omega) (by omega)) (by decide))
  rw [e, if_neg (fun z => z.1 e2)]
theorem e_log {M : zMem} {w c : Nat} {R : Nat → Int32} {i k : Int32} (h : S_jour M w R c) (hc : c < 2147483000) :
    (∀ a x, c_mLog c i k a x → r_jTells M w i k = R (22 + 4 * (min c 60 - 1 - a) + x)) ∧ ((¬ ∃ a x, c_mLog c i k a x) → r_jTells M w i k = -1) ∧ (¬ i < 0 → ¬ i ≥ 60 → ¬ i ≥ M.1 2 w 0 1 → ¬ k < 0 → k < 4 → vp_in (r_floorMod (M.1 2 w 0 1 - 1 - i) 60 * 4 + k) 240) := by
  obtain ⟨h1, h2, h3⟩ := h
  have idx : ∀ a x, a < min c 60 → x ≤ 3 → r_floorMod (nI c - 1 - nI a) 60 * 4 + nI x = nI ((c - 1 - a) % 60 * 4 + x) := by
    intro a x ha hx
    have e1 : nI c - 1 = nI (c - 1) := zn_sub (b := 1) (by omega)
    have e2 : nI (c - 1) - nI a = nI (c - 1 - a) := zn_sub (by omega)
    rw [e1, e2, fm_60 (by omega)]
    show nI _ * nI 4 + nI x = _
    rw [pk_mul, nI_add]
  have dec : ¬ i < 0 → ¬ i ≥ 60 → ¬ i ≥ M.1 2 w 0 1 → ¬ k < 0 → k < 4 → ∃ a x, c_mLog c i k a x := by
    intro g1 g2 g3 g4 g5
    obtain ⟨a, ha, rfl⟩ := nI_of g1
    obtain ⟨x, hx, rfl⟩ := nI_of g4
    rw [h1] at g3
    have g2' : ¬ nI 60 ≤ nI a := g2
    have g3' : ¬ nI c ≤ nI a := g3
    have g5' : nI x < nI 4 := g5
    rw [nI_leI (by omega) ha] at g2'
    rw [nI_leI (by omega) ha] at g3'
    rw [nI_ltI hx (by omega)] at g5'
    exact ⟨a, x, by omega, by omega, rfl, rfl⟩
  refine ⟨fun a x ⟨ha, hx, ei, ek⟩ => ?_, fun hn => ?_, fun g1 g2 g3 g4 g5 => ?_⟩
  · subst ei ek
    unfold r_jTells
    rw [h1, if_neg, idx a x ha hx, nI_clamp (by omega)]
    · exact h3 a ha x (by omega)
    · rintro (z | z | z | z | z)
      · exact nI_pos (by omega) z
      · exact nI_ge (b := 60) (by omega) (by omega) z
      · exact nI_ge (by omega) (by omega) z
      · exact nI_pos (by omega) z
      · exact z (nI_lt (b := 4) (by omega) (by omega))
  · unfold r_jTells
    by_cases c0 : i < 0 ∨ i ≥ 60 ∨ i ≥ M.1 2 w 0 1 ∨ k < 0 ∨ ¬ k < 4
    · rw [if_pos c0]
    · exact (hn (dec (fun z => c0 (.inl z)) (fun z => c0 (.inr (.inl z))) (fun z => c0 (.inr (.inr (.inl z)))) (fun z => c0 (.inr (.inr (.inr (.inl z))))) (Classical.byContradiction fun z => c0 (.inr (.inr (.inr (.inr z))))))).elim
  · obtain ⟨a, x, ha, hx, rfl, rfl⟩ := dec g1 g2 g3 g4 g5
    rw [h1, idx a x ha hx]
    exact vp_in_nI (by omega) (by decide)
