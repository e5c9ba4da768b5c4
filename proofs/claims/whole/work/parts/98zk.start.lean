/-! how both stand at the start -/
def c_0 (a c d : Nat) : Int32 := if a = 4 ∧ d = 2 then nI 32 else if a = 4 ∧ d = 3 then 2 else if a = 3 ∧ c % 3 = 2 ∧ d = 1 then 1 else if a = 7 ∧ (d = 4 ∨ d = 5) then -1 else if a = 9 ∧ d = 7 then nI 20 else if a = 9 ∧ d = 8 then nI 40 else 0
def r_0 (p : Nat) : Int32 := if p = 2 then nI 20 else if p = 3 then nI 40 else if 266 ≤ p ∧ p < 270 then nI 32 else if 270 ≤ p ∧ p < 274 then 2 else if 330 ≤ p ∧ p < 334 then 1 else if (550 ≤ p ∧ p < 598) ∨ (622 ≤ p ∧ p < 646) ∨ (670 ≤ p ∧ p < 694) then -1 else 0
def J_0 : zMem := (fun a _ c d => if a = 24 then (if c = 0 then r_0 d else 0) else c_0 a c d, fun a k => if a = 45 then tW k else if a = 46 then tC k else 0)
theorem J_0r (p : Nat) : J_0.1 24 0 0 p = r_0 p := rfl
theorem J_0c {a w c d : Nat} (h : ¬ a = 24) : J_0.1 a w c d = c_0 a c d := if_neg h
theorem Sim_0 : SimZ z_F z_F J_0 0 J_0 0 0 0 := by
  have R : ∀ p, J_0.1 24 0 0 p = r_0 p := J_0r
  have z : ∀ p, (p < 2 ∨ (4 ≤ p ∧ p < 266) ∨ (274 ≤ p ∧ p < 330) ∨ (334 ≤ p ∧ p < 550) ∨ (598 ≤ p ∧ p < 622) ∨ (646 ≤ p ∧ p < 670) ∨ 694 ≤ p) → J_0.1 24 0 0 p = 0 := fun p hp => by
    rw [R]
    unfold r_0
    rw [if_neg (by omega), if_neg (by omega), if_neg (by omega), if_neg (by omega), if_neg (by omega), if_neg (by omega)]
  have n1 : ∀ p, (550 ≤ p ∧ p < 598) ∨ (622 ≤ p ∧ p < 646) ∨ (670 ≤ p ∧ p < 694) → J_0.1 24 0 0 p = -1 := fun p hp => by
    rw [R]
    unfold r_0
    rw [if_neg (by omega), if_neg (by omega), if_neg (by omega), if_neg (by omega), if_neg (by omega), if_pos hp]
  have c0 : ∀ a c d, ¬ a = 24 → ¬ (a = 4 ∧ (d = 2 ∨ d = 3)) → ¬ (a = 3 ∧ c % 3 = 2 ∧ d = 1) → ¬ (a = 7 ∧ (d = 4 ∨ d = 5)) → ¬ (a = 9 ∧ (d = 7 ∨ d = 8)) → J_0.1 a 0 c d = 0 := fun a c d h0 h1 h2 h3 h4 => by
    rw [J_0c h0]
    unfold c_0
    rw [if_neg (by omega), if_neg (by omega), if_neg h2, if_neg h3, if_neg (by omega), if_neg (by omega)]
  refine ⟨⟨fun k hk => ?_, z 0 (by omega), ⟨20, by omega, by omega, rfl⟩, ⟨40, by omega, by omega, rfl⟩⟩, ⟨c0 _ _ _ (by omega) (by omega) (by omega) (by omega) (by omega), z 4 (by omega), fun j hj => absurd hj (by rw [Nat.zero_min]; exact Nat.not_lt_zero j)⟩, fun k hk => ?_, fun i hi => ⟨?_, ?_, ?_, .inl ⟨?_, ?_, ?_⟩⟩, fun i hi _ => .inl (z _ (by omega)), fun i hi => .inl (n1 _ (by omega)), fun i j hi hj e => ?_, ⟨z _ (by omega), z _ (by omega)⟩, fun r hr => ⟨⟨fun k hk => ?_, fun k hk => ?_⟩, ⟨.inl (z _ (by omega)), .inl (z _ (by omega)), fun e => ?_, ⟨32, by omega, ?_⟩, ⟨2, by omega, by omega, ?_⟩, ⟨0, by omega, z _ (by omega)⟩, ⟨0, by omega, z _ (by omega)⟩, ⟨0, by omega, z _ (by omega)⟩, ⟨0, by omega, z _ (by omega)⟩⟩, ⟨0, 0, z _ (by omega), z _ (by omega), Nat.le_refl _⟩, ⟨0, by omega, z _ (by omega), fun j hj => absurd hj (Nat.not_lt_zero j), fun i j hi hj => absurd hj (Nat.not_lt_zero j)⟩, ⟨[(0, 0, false)], ⟨?_, ?_, fun j hj => ?_⟩, ⟨Nat.zero_le _, Nat.zero_mul _, rfl⟩, fun l1 x y l2 e => ?_, by decide⟩, fun _ => ⟨fun _ => ⟨c0 _ _ _ (by omega) (by omega) (by omega) (by omega) (by omega), fun k hk => c0 _ _ _ (by omega) (by omega) (by omega) (by omega) (by omega)⟩, fun e => ?_, fun e => ?_⟩⟩⟩
  · rcases (show k = 0 ∨ k = 1 ∨ k = 2 ∨ k = 3 by omega) with rfl | rfl | rfl | rfl <;> rfl
  · rw [c0 _ _ _ (by omega) (by omega) (by omega) (by omega) (by omega), z _ (by omega)]
  · exact (c0 _ _ _ (by omega) (by omega) (by omega) (by omega) (by omega)).trans (z (454 + 24 * 0 + i) (by omega)).symm
  · refine Eq.trans ?_ (n1 (454 + 24 * 4 + i) (by omega)).symm
    rfl
  · refine Eq.trans ?_ (n1 (454 + 24 * 5 + i) (by omega)).symm
    rfl
  · exact z (454 + 24 * 0 + i) (by omega)
  · exact n1 (454 + 24 * 4 + i) (by omega)
  · exact n1 (454 + 24 * 5 + i) (by omega)
  · rw [z _ (by omega)] at e
    exact absurd e (by decide)
  · by_cases e2 : k = 2
    · subst e2
      have t1 : rp_of 2 + r = 266 + r := rfl
      rw [t1, R]
      unfold r_0
      rw [if_neg (by omega), if_neg (by omega), if_pos (by omega)]
      rfl
    · by_cases e3 : k = 3
      · subst e3
        have t1 : rp_of 3 + r = 270 + r := rfl
        rw [t1, R]
        unfold r_0
        rw [if_neg (by omega), if_neg (by omega), if_neg (by omega), if_pos (by omega)]
        rfl
      · have q1 : ∀ k, k < 12 → ¬ k = 2 → ¬ k = 3 → rp_of k = 262 ∨ (274 ≤ rp_of k ∧ rp_of k < 326) := by decide
        have q2 := q1 k hk e2 e3
        rw [z _ (by omega)]
        exact c0 _ _ _ (by omega) (by omega) (by omega) (by omega) (by omega)
  · have q1 : ∀ k, k < 3 → 306 ≤ tp_of k ∧ tp_of k < 318 := by decide
    have q2 := q1 k hk
    rw [z _ (by omega)]
    exact c0 _ _ _ (by omega) (by omega) (by omega) (by omega) (by omega)
  · rw [z _ (by omega)] at e
    exact absurd e (by decide)
  · rw [R]
    unfold r_0
    rw [if_neg (by omega), if_neg (by omega), if_pos (by omega)]
  · rw [R]
    unfold r_0
    rw [if_neg (by omega), if_neg (by omega), if_neg (by omega), if_pos (by omega)]
    rfl
  · rw [J_0c (by decide)]
    unfold c_0
    rw [if_neg (by omega), if_neg (by omega), if_pos (by omega)]
    rfl
  · rw [R]
    unfold r_0
    rw [if_neg (by omega), if_neg (by omega), if_neg (by omega), if_neg (by omega), if_pos (by omega)]
    rfl
  · obtain rfl : j = 0 := by
      have : j < 1 := hj
      omega
    have eA : a_ln r 0 = 11614 + 2700 * r := by unfold a_ln; omega
    refine ⟨c0 _ _ _ (by omega) (by omega) (by omega) (by omega) (by omega), z _ (by omega), z _ (by omega), z _ (by omega)⟩
  · have h1 := congrArg List.length e
    simp only [List.length_append, List.length_cons, List.length_nil] at h1
    omega
  · rw [z _ (by omega)] at e
    exact absurd e (by decide)
  · rw [z _ (by omega)] at e
    exact absurd e (by decide)
theorem SB_0 : SB J_0 0 := ⟨⟨0, 0, by omega, by omega, Sim_0⟩, ⟨fun _ _ => rfl, fun _ _ => rfl⟩, rfl, .inl rfl, .inl rfl⟩
