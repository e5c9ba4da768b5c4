/-! what lasts and image want and give -/
def z_9A (E : zE) (sz : Nat) : Nat → Prop := fun q => z_A E q ∨ sz ≤ q
def z_9post (k : Nat) (E : zE) (b sz : Nat) (r : Int32) (v : Int32) (u : zE × zMem) : Prop := z_ext E u.1 ∧ z_wld u.1 (u.2.1 10 0 0 2) (u.2.1 10 0 0 3) ∧ (∀ q, z_A u.1 q → z_9A E sz q) ∧ ∃ J3, z_to k (z_T11 :: [.inl r]) u.2 (some (.inl v)) J3 ∧ SB J3 (b + 1000) ∧ z_10 u.2 J3
def z_9B (u : zE × zMem) (t : State) : Prop := va_P u.1.1 vwCl (z_ws u.1 u.2) t.heap
def z_9pre (E : zE) (M : zMem) (sz : Nat) (U : State) : Prop := U.heap.size = sz ∧ va_P E.1 vwCl (z_ws E M) U.heap ∧ z_eA E (z_9A E sz) U
theorem wld2 {E E2 : zE} {x2 x3 : Int32} (h : z_wld E x2 x3) (h3 : x3 = 0) (hE : z_okE E2) (hid : E2.2.2.2 = E.2.2.2 ++ z_nid 2) : z_wld E2 x2 1 := by
  obtain ⟨g1, g2, g3, g4, g5, g6, g7, g8⟩ := h
  have hC := z_nidC 2 (by omega)
  unfold z_wld
  rw [hid]
  refine ⟨hE, List.mem_append_left _ g2, List.mem_append_left _ g3, fun id h he => ?_, fun z id h => ?_, fun z => List.mem_append_left _ (g6 z), fun z => absurd z (by decide), fun _ => List.mem_append_right _ (z_nid9 2)⟩
  · rcases List.mem_append.mp h with q | q
    · exact g4 id q he
    · exact absurd he (hC id q).2.2.2.2
  · rcases List.mem_append.mp h with q | q
    · exact g5 z id q
    · rw [(hC id q).2.2.2.1]
      decide
theorem wld1 {E E2 : zE} {x2 x3 : Int32} (h : z_wld E x2 x3) (h2 : x2 = 0) (hE : z_okE E2) (hid : E2.2.2.2 = E.2.2.2 ++ z_nid 1) : z_wld E2 1 x3 := by
  obtain ⟨g1, g2, g3, g4, g5, g6, g7, g8⟩ := h
  have hC := z_nidC 1 (by omega)
  unfold z_wld
  rw [hid]
  refine ⟨hE, List.mem_append_left _ g2, List.mem_append_left _ g3, fun id h he => ?_, fun z => absurd z (by decide), fun _ => List.mem_append_right _ (z_nid9 1), fun z id h => ?_, fun z => List.mem_append_left _ (g8 z)⟩
  · rcases List.mem_append.mp h with q | q
    · exact g4 id q he
    · exact absurd he (hC id q).2.2.2.2
  · rcases List.mem_append.mp h with q | q
    · exact g7 z id q
    · rw [(hC id q).2.2.2.1]
      decide
