/-! power, on both sides -/
theorem has_bt (x : Int32) {r : Nat} (hr : r < 32) : r_has x (nI r) = if bt x r = true then 1 else 0 := by
  unfold r_has
  rw [z_bit x hr]
  cases bt x r with
  | true => rfl
  | false => rfl
def S_pw (R : Nat → Int32) (i : Nat) : Prop := ∃ r, r < 4 ∧ R (262 + r) = 1 ∧ ¬ r_has (R (502 + i)) (nI r) = 0
def S_on (M : zMem) (w : Nat) (R : Nat → Int32) : Prop := ∀ r, r < 4 → M.1 4 w r 0 = R (262 + r) ∧ (R (262 + r) = 0 ∨ R (262 + r) = 1)
theorem and_mk4 (x : Int32) (p : Nat → Bool) : x &&& z_mk p 4 = 0 ↔ ∀ r, r < 4 → p r = true → bt x r = false := by
  constructor
  · intro h r hr hp
    have := congrArg (fun y => bt y r) h
    simp only [b_and, b_0, bt_mk p 4 (by decide) r (by omega), hp, decide_eq_true hr, Bool.and_self, Bool.and_true] at this
    exact this
  · intro h
    refine b_ext (fun i hi => ?_)
    rw [b_and, b_0, bt_mk p 4 (by decide) i hi]
    by_cases hr : i < 4
    · cases hp : p i with
      | true => rw [h i hr hp, Bool.false_and]
      | false => rw [Bool.and_false, Bool.and_false]
    · rw [decide_eq_false hr, Bool.false_and, Bool.and_false]
theorem pw_and {M : zMem} {w i : Nat} {R : Nat → Int32} (ho : S_on M w R) (h2 : M.1 7 w i 2 = R (502 + i)) : M.1 7 w i 2 &&& r_readersOn M w = 0 ↔ ¬ S_pw R i := by
  unfold r_readersOn
  rw [and_mk4, h2]
  constructor
  · rintro h ⟨r, hr, h1, h3⟩
    obtain ⟨o1, o2⟩ := ho r hr
    refine h3 ?_
    rw [has_bt _ (by omega), h r hr (decide_eq_true (by rw [o1, h1]; decide))]
    rfl
  · intro h r hr hp
    obtain ⟨o1, o2⟩ := ho r hr
    have hp2 := of_decide_eq_true hp
    rw [o1] at hp2
    have h1 := o2.resolve_left hp2
    cases hb : bt (R (502 + i)) r with
    | false => rfl
    | true =>
      refine (h ⟨r, hr, h1, ?_⟩).elim
      rw [has_bt _ (by omega), hb]
      decide
theorem hasPw_S (M : zMem) (t : Nat) : r_hasPw M t = z_pb (S_pw (M.1 24 0 0) t) := rfl
/-- the rule of the dark -/
def S_dk (R : Nat → Int32) (i : Nat) : Prop := R (454 + i) = 1 → (R (670 + i) = -1 ↔ S_pw R i) ∧ (¬ S_pw R i → R (718 + 4 * i) = 0)
theorem S_pwC {R R2 : Nat → Int32} {i : Nat} (h1 : ∀ r, r < 4 → R2 (262 + r) = R (262 + r)) (h2 : R2 (502 + i) = R (502 + i)) : S_pw R2 i ↔ S_pw R i :=
  ⟨fun ⟨r, hr, a, b⟩ => ⟨r, hr, by rw [← h1 r hr]; exact a, by rw [← h2]; exact b⟩, fun ⟨r, hr, a, b⟩ => ⟨r, hr, by rw [h1 r hr]; exact a, by rw [h2]; exact b⟩⟩
theorem S_dkC {R R2 : Nat → Int32} {i : Nat} (h : S_dk R i) (h0 : R2 (454 + i) = R (454 + i)) (h1 : ∀ r, r < 4 → R2 (262 + r) = R (262 + r)) (h2 : R2 (502 + i) = R (502 + i)) (h3 : R2 (670 + i) = R (670 + i)) (h4 : R2 (718 + 4 * i) = R (718 + 4 * i)) : S_dk R2 i := by
  unfold S_dk at *
  rw [S_pwC h1 h2, h0, h3, h4]
  exact h
