/-! calls: set, state, count, never -/
theorem isIn_iff {v a b : Int32} : ¬ r_isIn v a b = 0 ↔ (¬ v < a ∧ ¬ b < v) := by
  unfold r_isIn
  constructor
  · intro h
    split at h
    · assumption
    · exact absurd rfl h
  · intro h
    rw [if_pos h]
    decide
theorem isIn_01 {k : Int32} : ¬ r_isIn k 0 1 = 0 ↔ (k = 0 ∨ k = 1) := by
  constructor
  · intro h
    obtain ⟨j, _, hj, rfl⟩ := z_isInR (A := 0) (N := 1) (by decide) (by decide) h
    rcases (show j = 0 ∨ j = 1 by omega) with rfl | rfl
    · exact .inl rfl
    · exact .inr rfl
  · rintro (rfl | rfl) <;> decide
theorem isIn_rd {r : Int32} : ¬ r_isIn r 0 (nI 3) = 0 ↔ ¬ (r < 0 ∨ r ≥ 4) := by
  rw [isIn_iff]
  constructor
  · rintro ⟨h1, h2⟩ (z | z)
    · exact h1 z
    · exact h2 (Int32.lt_of_lt_of_le (by decide) z)
  · intro h
    obtain ⟨j, hj, rfl⟩ := nI_of (fun z => h (.inl z))
    have h4 : ¬ nI 4 ≤ nI j := fun z => h (.inr z)
    rw [nI_leI (by omega) hj] at h4
    exact ⟨nI_pos hj, nI_nlt (by omega) (by omega)⟩
def z_two (kc km : Nat) (as : List zV) (M Mr : zMem) (P : zMem → zMem → Prop) : Prop :=
  ∀ h, ∃ v M2, z_call (h + 200) kc (.inr (.inr (10, 0, 0)) :: as) M (fun r N => r = some v ∧ N = M2) ∧ z_call (h + 200) km (.inr (.inr (11, 0, 0)) :: as) Mr (fun r N => r = some v ∧ P M2 N)
theorem S_tagsC {M M2 Mr Mr2 : zMem} {w T : Nat} (h : S_tags M w Mr T) (h1 : ∀ i, i < 24 → ∀ k, k < 10 → M2.1 7 w i k = M.1 7 w i k) (h2 : ∀ p, 454 ≤ p → p < 814 → Mr2.1 24 0 0 p = Mr.1 24 0 0 p) : S_tags M2 w Mr2 T := fun i hi => by
  refine S_tagC (h i hi) (h1 i hi) (fun k hk _ => ?_) (fun f hf => ?_)
  · unfold g_R
    exact h2 _ (by omega) (by omega)
  · unfold f_R
    split
    · exact h2 _ (by omega) (by omega)
    · exact h2 _ (by omega) (by omega)
