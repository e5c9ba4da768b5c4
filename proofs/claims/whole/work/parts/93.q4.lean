/-! reader: what is told of it -/
theorem S_sizes {M : zMem} {w r b : Nat} {R : Nat → Int32} (h : S_R z_F M w R b r) : r_tallySum M w (2 * r + 1) = (if R (278 + r) = 1 then R (302 + r) else 0) ∧ M.1 3 w (3 * r) 1 = (if R (278 + r) = 1 then R (326 + r) else 0) ∧ ∃ l, l ≤ 296 ∧ M.1 3 w (3 * r + 2) 1 = nI l ∧ R (330 + r) = nI l := by
  obtain ⟨k1, k2, k3, k4, ⟨l, k5, _, _, k6⟩, k7⟩ := h
  obtain ⟨k7, k8, k9⟩ := k7 (fun z => z)
  refine ⟨?_, ?_, l.length, k6, k5.1, k5.2.1⟩
  · rcases k2.2.1 with z | z
    · obtain ⟨-, a⟩ := k7 z
      rw [if_neg (by rw [z]; decide)]
      unfold r_tallySum
      rw [a 0 (by omega), a 1 (by omega), a 2 (by omega)]
      rfl
    · rw [if_pos z]
      obtain ⟨x, hx, e⟩ := k2.2.2.2.2.2.2.1
      rcases (show x = 0 ∨ x = 1 ∨ x = 2 ∨ x = 3 by omega) with rfl | rfl | rfl | rfl
      · obtain ⟨-, -, a, e, s, c, q, b1, b2, b3, b4, -⟩ := k8 z (.inl e)
        unfold r_tallySum
        have a0 := a 0 (by omega)
        have a1 := a 1 (by omega)
        have a2 := a 2 (by omega)
        have f0 : M.1 8 w (2 * r + 1) 0 = R (338 + r) := a0
        have f1 : M.1 8 w (2 * r + 1) 1 = R (342 + r) := a1
        have f2 : M.1 8 w (2 * r + 1) 2 = R (346 + r) := a2
        rw [f0, f1, f2, b1, b2, b3, b4, nI_add, nI_add]
      · obtain ⟨ro, al, a1, a2, a3, a4, a5, a6, a7, a8, a9⟩ := k9 z (.inl e)
        unfold r_tallySum
        rw [a7 0 (by omega), a7 1 (by omega), a7 2 (by omega), a8]
        rfl
      · obtain ⟨-, -, a, e, s, c, q, b1, b2, b3, b4, -⟩ := k8 z (.inr e)
        unfold r_tallySum
        have a0 := a 0 (by omega)
        have a1 := a 1 (by omega)
        have a2 := a 2 (by omega)
        have f0 : M.1 8 w (2 * r + 1) 0 = R (338 + r) := a0
        have f1 : M.1 8 w (2 * r + 1) 1 = R (342 + r) := a1
        have f2 : M.1 8 w (2 * r + 1) 2 = R (346 + r) := a2
        rw [f0, f1, f2, b1, b2, b3, b4, nI_add, nI_add]
      · obtain ⟨ro, al, a1, a2, a3, a4, a5, a6, a7, a8, a9⟩ := k9 z (.inr e)
        unfold r_tallySum
        rw [a7 0 (by omega), a7 1 (by omega), a7 2 (by omega), a8]
        rfl
  · rcases k2.2.1 with z | z
    · obtain ⟨a, -⟩ := k7 z
      rw [if_neg (by rw [z]; decide)]
      exact a
    · rw [if_pos z]
      obtain ⟨x, hx, e⟩ := k2.2.2.2.2.2.2.1
      rcases (show x = 0 ∨ x = 1 ∨ x = 2 ∨ x = 3 by omega) with rfl | rfl | rfl | rfl
      · obtain ⟨a, a2, -⟩ := k8 z (.inl e)
        exact a.trans a2.symm
      · obtain ⟨ro, al, a1, -⟩ := k9 z (.inl e)
        exact a1.1.trans a1.2.1.symm
      · obtain ⟨a, a2, -⟩ := k8 z (.inr e)
        exact a.trans a2.symm
      · obtain ⟨ro, al, a1, -⟩ := k9 z (.inr e)
        exact a1.1.trans a1.2.1.symm
theorem two_reader {J : zMem} {b : Nat} {r k : Int32} (h : SB J b) (hb : b < 2147000000) : z_two J 134 226 [.inl r, .inl k] b := by
  obtain ⟨T, c, hT, hc, hs⟩ := h.1
  obtain ⟨h1, h2, h3, h4, h5, h6, h7, h8, h9⟩ := hs
  by_cases cr : r < 0 ∨ r ≥ 4
  · refine two_q h (v := .inl (-1)) (fun _ K hK => ?_) (fun _ K hK => ?_)
    · exact s9_reader (fun z => (z cr).elim) (fun _ => hK)
    · exact s_mReader0 (Classical.byContradiction (fun z => isIn_rd.mp z cr)) hK
  · obtain ⟨j, hj, rfl, cl, -⟩ := rd_of cr
    have hR := h9 j hj
    obtain ⟨m, e, c, m1, s1, q306, q310, q314, qs, qt⟩ := S_slotsOf hR hb
    obtain ⟨z9, z11, l, l1, l2, l3⟩ := S_sizes hR
    have hsl : r_slotsOf J j = nI (e + m + c) := by
      unfold r_slotsOf
      rw [q306, q310, q314, nI_add, nI_add]
    obtain ⟨sh1, sh0⟩ := e_share qs m1 qt (by omega) (by omega)
    refine two_q h (v := .inl (r_mReader J j m (e + m + c) k)) (fun _ K hK => ?_) (fun _ K hK => s_mReader hj q306 m1 hsl (by omega) hK)
    refine s9_reader (fun _ => ?_) (fun z => (cr z).elim)
    rw [cl]
    have K1 := hR.1.1
    have K2 := hR.1.2
    have bo : ∀ {x : Int32}, (x = 0 ∨ x = 1) → (if x = 0 then (0 : Int32) else 1) = x := by
      rintro x (rfl | rfl)
      · rfl
      · rfl
    have ee : (if k = nI 10 then r_bc (r_tagsOf J 0 (nI j)) else r_rdTells J 0 j k) = r_mReader J j m (e + m + c) k := by
      unfold r_rdTells r_mReader r_tellsLatest
      by_cases c10 : k = nI 10
      · rw [if_pos c10, e_tagsOf h4 hj]
        subst c10
        exact rfl
      rw [if_neg c10]
      by_cases c0 : k = 0
      · rw [if_pos c0]
        refine Eq.trans ?_ (if_pos c0).symm
        have a0 : J.1 4 0 j 0 = J.1 24 0 0 (262 + j) := K1 0 (by omega)
        rw [a0]
        exact bo hR.2.1.1
      rw [if_neg c0]
      refine Eq.trans ?_ (if_neg c0).symm
      by_cases c0 : k = 1
      · rw [if_pos c0]
        refine Eq.trans ?_ (if_pos c0).symm
        have a0 : J.1 4 0 j 1 = J.1 24 0 0 (278 + j) := K1 1 (by omega)
        rw [a0]
        exact bo hR.2.1.2.1
      rw [if_neg c0]
      refine Eq.trans ?_ (if_neg c0).symm
      by_cases c0 : k = 2
      · rw [if_pos c0]
        exact (K1 2 (by omega)).trans (if_pos c0).symm
      rw [if_neg c0]
      refine Eq.trans ?_ (if_neg c0).symm
      by_cases c0 : k = 3
      · rw [if_pos c0]
        exact (K1 3 (by omega)).trans (if_pos c0).symm
      rw [if_neg c0]
      refine Eq.trans ?_ (if_neg c0).symm
      by_cases c0 : k = 4
      · rw [if_pos c0]
        exact (K1 5 (by omega)).trans (if_pos c0).symm
      rw [if_neg c0]
      refine Eq.trans ?_ (if_neg c0).symm
      by_cases c0 : k = 5
      · rw [if_pos c0]
        exact (K1 6 (by omega)).trans (if_pos c0).symm
      rw [if_neg c0]
      refine Eq.trans ?_ (if_neg c0).symm
      by_cases c0 : k = 6
      · rw [if_pos c0]
        exact (K1 7 (by omega)).trans (if_pos c0).symm
      rw [if_neg c0]
      refine Eq.trans ?_ (if_neg c0).symm
      by_cases c0 : k = 7
      · rw [if_pos c0]
        exact (K1 8 (by omega)).trans (if_pos c0).symm
      rw [if_neg c0]
      refine Eq.trans ?_ (if_neg c0).symm
      by_cases c0 : k = 8
      · rw [if_pos c0]
        exact (K1 9 (by omega)).trans (if_pos c0).symm
      rw [if_neg c0]
      refine Eq.trans ?_ (if_neg c0).symm
      by_cases c0 : k = 9
      · rw [if_pos c0]
        exact z9.trans (if_pos c0).symm
      rw [if_neg c0]
      refine Eq.trans ?_ (if_neg c0).symm
      rw [if_neg (show ¬ k = 10 from c10)]
      refine Eq.trans ?_ (if_neg c10).symm
      by_cases c0 : k = 11
      · rw [if_pos c0]
        exact z11.trans (if_pos c0).symm
      rw [if_neg c0]
      refine Eq.trans ?_ (if_neg c0).symm
      by_cases c0 : k = 12
      · rw [if_pos c0]
        exact (K2 1 (by omega)).trans (if_pos c0).symm
      rw [if_neg c0]
      refine Eq.trans ?_ (if_neg c0).symm
      by_cases c0 : k = 13
      · rw [if_pos c0]
        exact (K2 0 (by omega)).trans (if_pos c0).symm
      rw [if_neg c0]
      refine Eq.trans ?_ (if_neg c0).symm
      by_cases c0 : k = 14
      · rw [if_pos c0]
        exact (K2 2 (by omega)).trans (if_pos c0).symm
      rw [if_neg c0]
      refine Eq.trans ?_ (if_neg c0).symm
      by_cases c0 : k = 15
      · rw [if_pos c0]
        exact (K1 10 (by omega)).trans (if_pos c0).symm
      rw [if_neg c0]
      refine Eq.trans ?_ (if_neg c0).symm
      by_cases c0 : k = 16
      · rw [if_pos c0]
        exact (K1 11 (by omega)).trans (if_pos c0).symm
      rw [if_neg c0]
      refine Eq.trans ?_ (if_neg c0).symm
      by_cases c0 : k = 17
      · rw [if_pos c0]
        exact (K1 4 (by omega)).trans (if_pos c0).symm
      rw [if_neg c0]
      refine Eq.trans ?_ (if_neg c0).symm
      by_cases c0 : k = 18
      · rw [if_pos c0]
        exact (l2.trans l3.symm).trans (if_pos c0).symm
      rw [if_neg c0]
      refine Eq.trans ?_ (if_neg c0).symm
      by_cases c0 : k = 19
      · rw [if_pos c0]
        exact sh1.trans (if_pos c0).symm
      rw [if_neg c0]
      refine Eq.trans ?_ (if_neg c0).symm
      by_cases c0 : k = 20
      · rw [if_pos c0]
        exact sh0.trans (if_pos c0).symm
      rw [if_neg c0]
      exact (if_neg c0).symm
    rw [ee]
    exact hK
