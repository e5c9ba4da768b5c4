/-! fields by their places -/
theorem go_1 : ∀ (E : zE) (M : zMem) (id : zId), id.1 = 1 → ∃ fs, z_cont E M id = .inr (0, fs) := fun E M id h => by
  obtain ⟨a, b, c⟩ := id
  have h : a = 1 := h
  subst h
  exact ⟨_, rfl⟩
theorem go_2 : ∀ (E : zE) (M : zMem) (id : zId), id.1 = 2 → ∃ fs, z_cont E M id = .inr (1, fs) := fun E M id h => by
  obtain ⟨a, b, c⟩ := id
  have h : a = 2 := h
  subst h
  exact ⟨_, rfl⟩
theorem go_3 : ∀ (E : zE) (M : zMem) (id : zId), id.1 = 3 → ∃ fs, z_cont E M id = .inr (2, fs) := fun E M id h => by
  obtain ⟨a, b, c⟩ := id
  have h : a = 3 := h
  subst h
  exact ⟨_, rfl⟩
theorem go_4 : ∀ (E : zE) (M : zMem) (id : zId), id.1 = 4 → ∃ fs, z_cont E M id = .inr (3, fs) := fun E M id h => by
  obtain ⟨a, b, c⟩ := id
  have h : a = 4 := h
  subst h
  exact ⟨_, rfl⟩
theorem go_7 : ∀ (E : zE) (M : zMem) (id : zId), id.1 = 7 → ∃ fs, z_cont E M id = .inr (4, fs) := fun E M id h => by
  obtain ⟨a, b, c⟩ := id
  have h : a = 7 := h
  subst h
  exact ⟨_, rfl⟩
theorem go_8 : ∀ (E : zE) (M : zMem) (id : zId), id.1 = 8 → ∃ fs, z_cont E M id = .inr (5, fs) := fun E M id h => by
  obtain ⟨a, b, c⟩ := id
  have h : a = 8 := h
  subst h
  exact ⟨_, rfl⟩
theorem go_9 : ∀ (E : zE) (M : zMem) (id : zId), id.1 = 9 → ∃ fs, z_cont E M id = .inr (6, fs) := fun E M id h => by
  obtain ⟨a, b, c⟩ := id
  have h : a = 9 := h
  subst h
  exact ⟨_, rfl⟩
theorem go_10 : ∀ (E : zE) (M : zMem) (id : zId), id.1 = 10 → ∃ fs, z_cont E M id = .inr (7, fs) := fun E M id h => by
  obtain ⟨a, b, c⟩ := id
  have h : a = 10 := h
  subst h
  exact ⟨_, rfl⟩
theorem go_11 : ∀ (E : zE) (M : zMem) (id : zId), id.1 = 11 → ∃ fs, z_cont E M id = .inr (8, fs) := fun E M id h => by
  obtain ⟨a, b, c⟩ := id
  have h : a = 11 := h
  subst h
  exact ⟨_, rfl⟩
theorem gv_2_1 : ∀ (E : zE) (M : zMem) (id : zId), id.1 = 2 → ∃ fs, z_cont E M id = .inr (1, fs) ∧ fs[1]? = some (.int (M.1 2 id.2.1 id.2.2 1)) := fun E M id h => by
  obtain ⟨a, b, c⟩ := id
  have h : a = 2 := h
  subst h
  exact ⟨_, rfl, rfl⟩
theorem gv_3_1 : ∀ (E : zE) (M : zMem) (id : zId), id.1 = 3 → ∃ fs, z_cont E M id = .inr (2, fs) ∧ fs[1]? = some (.int (M.1 3 id.2.1 id.2.2 1)) := fun E M id h => by
  obtain ⟨a, b, c⟩ := id
  have h : a = 3 := h
  subst h
  exact ⟨_, rfl, rfl⟩
theorem gv_4_0 : ∀ (E : zE) (M : zMem) (id : zId), id.1 = 4 → ∃ fs, z_cont E M id = .inr (3, fs) ∧ fs[0]? = some (.int (M.1 4 id.2.1 id.2.2 0)) := fun E M id h => by
  obtain ⟨a, b, c⟩ := id
  have h : a = 4 := h
  subst h
  exact ⟨_, rfl, rfl⟩
theorem gv_4_1 : ∀ (E : zE) (M : zMem) (id : zId), id.1 = 4 → ∃ fs, z_cont E M id = .inr (3, fs) ∧ fs[1]? = some (.int (M.1 4 id.2.1 id.2.2 1)) := fun E M id h => by
  obtain ⟨a, b, c⟩ := id
  have h : a = 4 := h
  subst h
  exact ⟨_, rfl, rfl⟩
theorem gv_4_2 : ∀ (E : zE) (M : zMem) (id : zId), id.1 = 4 → ∃ fs, z_cont E M id = .inr (3, fs) ∧ fs[2]? = some (.int (M.1 4 id.2.1 id.2.2 2)) := fun E M id h => by
  obtain ⟨a, b, c⟩ := id
  have h : a = 4 := h
  subst h
  exact ⟨_, rfl, rfl⟩
theorem gv_4_3 : ∀ (E : zE) (M : zMem) (id : zId), id.1 = 4 → ∃ fs, z_cont E M id = .inr (3, fs) ∧ fs[3]? = some (.int (M.1 4 id.2.1 id.2.2 3)) := fun E M id h => by
  obtain ⟨a, b, c⟩ := id
  have h : a = 4 := h
  subst h
  exact ⟨_, rfl, rfl⟩
theorem gv_4_4 : ∀ (E : zE) (M : zMem) (id : zId), id.1 = 4 → ∃ fs, z_cont E M id = .inr (3, fs) ∧ fs[4]? = some (.int (M.1 4 id.2.1 id.2.2 4)) := fun E M id h => by
  obtain ⟨a, b, c⟩ := id
  have h : a = 4 := h
  subst h
  exact ⟨_, rfl, rfl⟩
theorem gv_4_5 : ∀ (E : zE) (M : zMem) (id : zId), id.1 = 4 → ∃ fs, z_cont E M id = .inr (3, fs) ∧ fs[5]? = some (.int (M.1 4 id.2.1 id.2.2 5)) := fun E M id h => by
  obtain ⟨a, b, c⟩ := id
  have h : a = 4 := h
  subst h
  exact ⟨_, rfl, rfl⟩
theorem gv_4_6 : ∀ (E : zE) (M : zMem) (id : zId), id.1 = 4 → ∃ fs, z_cont E M id = .inr (3, fs) ∧ fs[6]? = some (.int (M.1 4 id.2.1 id.2.2 6)) := fun E M id h => by
  obtain ⟨a, b, c⟩ := id
  have h : a = 4 := h
  subst h
  exact ⟨_, rfl, rfl⟩
theorem gv_4_7 : ∀ (E : zE) (M : zMem) (id : zId), id.1 = 4 → ∃ fs, z_cont E M id = .inr (3, fs) ∧ fs[7]? = some (.int (M.1 4 id.2.1 id.2.2 7)) := fun E M id h => by
  obtain ⟨a, b, c⟩ := id
  have h : a = 4 := h
  subst h
  exact ⟨_, rfl, rfl⟩
theorem gv_4_8 : ∀ (E : zE) (M : zMem) (id : zId), id.1 = 4 → ∃ fs, z_cont E M id = .inr (3, fs) ∧ fs[8]? = some (.int (M.1 4 id.2.1 id.2.2 8)) := fun E M id h => by
  obtain ⟨a, b, c⟩ := id
  have h : a = 4 := h
  subst h
  exact ⟨_, rfl, rfl⟩
theorem gv_4_9 : ∀ (E : zE) (M : zMem) (id : zId), id.1 = 4 → ∃ fs, z_cont E M id = .inr (3, fs) ∧ fs[9]? = some (.int (M.1 4 id.2.1 id.2.2 9)) := fun E M id h => by
  obtain ⟨a, b, c⟩ := id
  have h : a = 4 := h
  subst h
  exact ⟨_, rfl, rfl⟩
theorem gv_4_10 : ∀ (E : zE) (M : zMem) (id : zId), id.1 = 4 → ∃ fs, z_cont E M id = .inr (3, fs) ∧ fs[10]? = some (.int (M.1 4 id.2.1 id.2.2 10)) := fun E M id h => by
  obtain ⟨a, b, c⟩ := id
  have h : a = 4 := h
  subst h
  exact ⟨_, rfl, rfl⟩
theorem gv_4_11 : ∀ (E : zE) (M : zMem) (id : zId), id.1 = 4 → ∃ fs, z_cont E M id = .inr (3, fs) ∧ fs[11]? = some (.int (M.1 4 id.2.1 id.2.2 11)) := fun E M id h => by
  obtain ⟨a, b, c⟩ := id
  have h : a = 4 := h
  subst h
  exact ⟨_, rfl, rfl⟩
theorem gv_7_0 : ∀ (E : zE) (M : zMem) (id : zId), id.1 = 7 → ∃ fs, z_cont E M id = .inr (4, fs) ∧ fs[0]? = some (.int (M.1 7 id.2.1 id.2.2 0)) := fun E M id h => by
  obtain ⟨a, b, c⟩ := id
  have h : a = 7 := h
  subst h
  exact ⟨_, rfl, rfl⟩
theorem gv_7_1 : ∀ (E : zE) (M : zMem) (id : zId), id.1 = 7 → ∃ fs, z_cont E M id = .inr (4, fs) ∧ fs[1]? = some (.int (M.1 7 id.2.1 id.2.2 1)) := fun E M id h => by
  obtain ⟨a, b, c⟩ := id
  have h : a = 7 := h
  subst h
  exact ⟨_, rfl, rfl⟩
theorem gv_7_2 : ∀ (E : zE) (M : zMem) (id : zId), id.1 = 7 → ∃ fs, z_cont E M id = .inr (4, fs) ∧ fs[2]? = some (.int (M.1 7 id.2.1 id.2.2 2)) := fun E M id h => by
  obtain ⟨a, b, c⟩ := id
  have h : a = 7 := h
  subst h
  exact ⟨_, rfl, rfl⟩
theorem gv_7_3 : ∀ (E : zE) (M : zMem) (id : zId), id.1 = 7 → ∃ fs, z_cont E M id = .inr (4, fs) ∧ fs[3]? = some (.int (M.1 7 id.2.1 id.2.2 3)) := fun E M id h => by
  obtain ⟨a, b, c⟩ := id
  have h : a = 7 := h
  subst h
  exact ⟨_, rfl, rfl⟩
theorem gv_7_4 : ∀ (E : zE) (M : zMem) (id : zId), id.1 = 7 → ∃ fs, z_cont E M id = .inr (4, fs) ∧ fs[4]? = some (.int (M.1 7 id.2.1 id.2.2 4)) := fun E M id h => by
  obtain ⟨a, b, c⟩ := id
  have h : a = 7 := h
  subst h
  exact ⟨_, rfl, rfl⟩
theorem gv_7_5 : ∀ (E : zE) (M : zMem) (id : zId), id.1 = 7 → ∃ fs, z_cont E M id = .inr (4, fs) ∧ fs[5]? = some (.int (M.1 7 id.2.1 id.2.2 5)) := fun E M id h => by
  obtain ⟨a, b, c⟩ := id
  have h : a = 7 := h
  subst h
  exact ⟨_, rfl, rfl⟩
theorem gv_7_6 : ∀ (E : zE) (M : zMem) (id : zId), id.1 = 7 → ∃ fs, z_cont E M id = .inr (4, fs) ∧ fs[6]? = some (.int (M.1 7 id.2.1 id.2.2 6)) := fun E M id h => by
  obtain ⟨a, b, c⟩ := id
  have h : a = 7 := h
  subst h
  exact ⟨_, rfl, rfl⟩
theorem gv_7_7 : ∀ (E : zE) (M : zMem) (id : zId), id.1 = 7 → ∃ fs, z_cont E M id = .inr (4, fs) ∧ fs[7]? = some (.int (M.1 7 id.2.1 id.2.2 7)) := fun E M id h => by
  obtain ⟨a, b, c⟩ := id
  have h : a = 7 := h
  subst h
  exact ⟨_, rfl, rfl⟩
theorem gv_7_8 : ∀ (E : zE) (M : zMem) (id : zId), id.1 = 7 → ∃ fs, z_cont E M id = .inr (4, fs) ∧ fs[8]? = some (.int (M.1 7 id.2.1 id.2.2 8)) := fun E M id h => by
  obtain ⟨a, b, c⟩ := id
  have h : a = 7 := h
  subst h
  exact ⟨_, rfl, rfl⟩
theorem gv_7_9 : ∀ (E : zE) (M : zMem) (id : zId), id.1 = 7 → ∃ fs, z_cont E M id = .inr (4, fs) ∧ fs[9]? = some (.int (M.1 7 id.2.1 id.2.2 9)) := fun E M id h => by
  obtain ⟨a, b, c⟩ := id
  have h : a = 7 := h
  subst h
  exact ⟨_, rfl, rfl⟩
theorem gv_8_0 : ∀ (E : zE) (M : zMem) (id : zId), id.1 = 8 → ∃ fs, z_cont E M id = .inr (5, fs) ∧ fs[0]? = some (.int (M.1 8 id.2.1 id.2.2 0)) := fun E M id h => by
  obtain ⟨a, b, c⟩ := id
  have h : a = 8 := h
  subst h
  exact ⟨_, rfl, rfl⟩
theorem gv_8_1 : ∀ (E : zE) (M : zMem) (id : zId), id.1 = 8 → ∃ fs, z_cont E M id = .inr (5, fs) ∧ fs[1]? = some (.int (M.1 8 id.2.1 id.2.2 1)) := fun E M id h => by
  obtain ⟨a, b, c⟩ := id
  have h : a = 8 := h
  subst h
  exact ⟨_, rfl, rfl⟩
theorem gv_8_2 : ∀ (E : zE) (M : zMem) (id : zId), id.1 = 8 → ∃ fs, z_cont E M id = .inr (5, fs) ∧ fs[2]? = some (.int (M.1 8 id.2.1 id.2.2 2)) := fun E M id h => by
  obtain ⟨a, b, c⟩ := id
  have h : a = 8 := h
  subst h
  exact ⟨_, rfl, rfl⟩
theorem gv_9_5 : ∀ (E : zE) (M : zMem) (id : zId), id.1 = 9 → ∃ fs, z_cont E M id = .inr (6, fs) ∧ fs[5]? = some (.int (M.1 9 id.2.1 id.2.2 5)) := fun E M id h => by
  obtain ⟨a, b, c⟩ := id
  have h : a = 9 := h
  subst h
  exact ⟨_, rfl, rfl⟩
theorem gv_9_6 : ∀ (E : zE) (M : zMem) (id : zId), id.1 = 9 → ∃ fs, z_cont E M id = .inr (6, fs) ∧ fs[6]? = some (.int (M.1 9 id.2.1 id.2.2 6)) := fun E M id h => by
  obtain ⟨a, b, c⟩ := id
  have h : a = 9 := h
  subst h
  exact ⟨_, rfl, rfl⟩
theorem gv_9_7 : ∀ (E : zE) (M : zMem) (id : zId), id.1 = 9 → ∃ fs, z_cont E M id = .inr (6, fs) ∧ fs[7]? = some (.int (M.1 9 id.2.1 id.2.2 7)) := fun E M id h => by
  obtain ⟨a, b, c⟩ := id
  have h : a = 9 := h
  subst h
  exact ⟨_, rfl, rfl⟩
theorem gv_9_8 : ∀ (E : zE) (M : zMem) (id : zId), id.1 = 9 → ∃ fs, z_cont E M id = .inr (6, fs) ∧ fs[8]? = some (.int (M.1 9 id.2.1 id.2.2 8)) := fun E M id h => by
  obtain ⟨a, b, c⟩ := id
  have h : a = 9 := h
  subst h
  exact ⟨_, rfl, rfl⟩
theorem gv_11_3 : ∀ (E : zE) (M : zMem) (id : zId), id.1 = 11 → ∃ fs, z_cont E M id = .inr (8, fs) ∧ fs[3]? = some (.int (M.1 11 id.2.1 id.2.2 3)) := fun E M id h => by
  obtain ⟨a, b, c⟩ := id
  have h : a = 11 := h
  subst h
  exact ⟨_, rfl, rfl⟩
theorem gv_11_5 : ∀ (E : zE) (M : zMem) (id : zId), id.1 = 11 → ∃ fs, z_cont E M id = .inr (8, fs) ∧ fs[5]? = some (.int (M.1 11 id.2.1 id.2.2 5)) := fun E M id h => by
  obtain ⟨a, b, c⟩ := id
  have h : a = 11 := h
  subst h
  exact ⟨_, rfl, rfl⟩
theorem gv_11_6 : ∀ (E : zE) (M : zMem) (id : zId), id.1 = 11 → ∃ fs, z_cont E M id = .inr (8, fs) ∧ fs[6]? = some (.int (M.1 11 id.2.1 id.2.2 6)) := fun E M id h => by
  obtain ⟨a, b, c⟩ := id
  have h : a = 11 := h
  subst h
  exact ⟨_, rfl, rfl⟩
theorem gr_1_0 : ∀ (E : zE) (M : zMem) (id : zId), id.1 = 1 → ∃ fs, z_cont E M id = .inr (0, fs) ∧ fs[0]? = some (.ref (E.2.2.1 (45, 0, 0))) := fun E M id h => by
  obtain ⟨a, b, c⟩ := id
  have h : a = 1 := h
  subst h
  exact ⟨_, rfl, rfl⟩
theorem gr_1_1 : ∀ (E : zE) (M : zMem) (id : zId), id.1 = 1 → ∃ fs, z_cont E M id = .inr (0, fs) ∧ fs[1]? = some (.ref (E.2.2.1 (46, 0, 0))) := fun E M id h => by
  obtain ⟨a, b, c⟩ := id
  have h : a = 1 := h
  subst h
  exact ⟨_, rfl, rfl⟩
theorem gr_1_2 : ∀ (E : zE) (M : zMem) (id : zId), id.1 = 1 → ∃ fs, z_cont E M id = .inr (0, fs) ∧ fs[2]? = some (.ref (E.2.2.1 (48, 0, 0))) := fun E M id h => by
  obtain ⟨a, b, c⟩ := id
  have h : a = 1 := h
  subst h
  exact ⟨_, rfl, rfl⟩
theorem gr_2_0 : ∀ (E : zE) (M : zMem) (id : zId), id.1 = 2 → ∃ fs, z_cont E M id = .inr (1, fs) ∧ fs[0]? = some (.ref (E.2.2.1 (21, id.2.1, 0))) := fun E M id h => by
  obtain ⟨a, b, c⟩ := id
  have h : a = 2 := h
  subst h
  exact ⟨_, rfl, rfl⟩
theorem gr_3_0 : ∀ (E : zE) (M : zMem) (id : zId), id.1 = 3 → ∃ fs, z_cont E M id = .inr (2, fs) ∧ fs[0]? = some (.ref (E.2.2.1 (22, id.2.1, id.2.2))) := fun E M id h => by
  obtain ⟨a, b, c⟩ := id
  have h : a = 3 := h
  subst h
  exact ⟨_, rfl, rfl⟩
theorem gr_4_12 : ∀ (E : zE) (M : zMem) (id : zId), id.1 = 4 → ∃ fs, z_cont E M id = .inr (3, fs) ∧ fs[12]? = some (.ref (E.2.2.1 (8, id.2.1, 2 * id.2.2))) := fun E M id h => by
  obtain ⟨a, b, c⟩ := id
  have h : a = 4 := h
  subst h
  exact ⟨_, rfl, rfl⟩
theorem gr_4_13 : ∀ (E : zE) (M : zMem) (id : zId), id.1 = 4 → ∃ fs, z_cont E M id = .inr (3, fs) ∧ fs[13]? = some (.ref (E.2.2.1 (8, id.2.1, 2 * id.2.2 + 1))) := fun E M id h => by
  obtain ⟨a, b, c⟩ := id
  have h : a = 4 := h
  subst h
  exact ⟨_, rfl, rfl⟩
theorem gr_4_14 : ∀ (E : zE) (M : zMem) (id : zId), id.1 = 4 → ∃ fs, z_cont E M id = .inr (3, fs) ∧ fs[14]? = some (.ref (E.2.2.1 (23, id.2.1, id.2.2))) := fun E M id h => by
  obtain ⟨a, b, c⟩ := id
  have h : a = 4 := h
  subst h
  exact ⟨_, rfl, rfl⟩
theorem gr_4_15 : ∀ (E : zE) (M : zMem) (id : zId), id.1 = 4 → ∃ fs, z_cont E M id = .inr (3, fs) ∧ fs[15]? = some (.ref (E.2.2.1 (3, id.2.1, 3 * id.2.2))) := fun E M id h => by
  obtain ⟨a, b, c⟩ := id
  have h : a = 4 := h
  subst h
  exact ⟨_, rfl, rfl⟩
theorem gr_4_16 : ∀ (E : zE) (M : zMem) (id : zId), id.1 = 4 → ∃ fs, z_cont E M id = .inr (3, fs) ∧ fs[16]? = some (.ref (E.2.2.1 (3, id.2.1, 3 * id.2.2 + 1))) := fun E M id h => by
  obtain ⟨a, b, c⟩ := id
  have h : a = 4 := h
  subst h
  exact ⟨_, rfl, rfl⟩
theorem gr_4_17 : ∀ (E : zE) (M : zMem) (id : zId), id.1 = 4 → ∃ fs, z_cont E M id = .inr (3, fs) ∧ fs[17]? = some (.ref (E.2.2.1 (3, id.2.1, 3 * id.2.2 + 2))) := fun E M id h => by
  obtain ⟨a, b, c⟩ := id
  have h : a = 4 := h
  subst h
  exact ⟨_, rfl, rfl⟩
theorem gr_9_0 : ∀ (E : zE) (M : zMem) (id : zId), id.1 = 9 → ∃ fs, z_cont E M id = .inr (6, fs) ∧ fs[0]? = some (.ref (E.2.2.1 (1, 0, 0))) := fun E M id h => by
  obtain ⟨a, b, c⟩ := id
  have h : a = 9 := h
  subst h
  exact ⟨_, rfl, rfl⟩
theorem gr_9_1 : ∀ (E : zE) (M : zMem) (id : zId), id.1 = 9 → ∃ fs, z_cont E M id = .inr (6, fs) ∧ fs[1]? = some (.ref (E.2.2.1 (30, id.2.1, 0))) := fun E M id h => by
  obtain ⟨a, b, c⟩ := id
  have h : a = 9 := h
  subst h
  exact ⟨_, rfl, rfl⟩
theorem gr_9_2 : ∀ (E : zE) (M : zMem) (id : zId), id.1 = 9 → ∃ fs, z_cont E M id = .inr (6, fs) ∧ fs[2]? = some (.ref (E.2.2.1 (31, id.2.1, 0))) := fun E M id h => by
  obtain ⟨a, b, c⟩ := id
  have h : a = 9 := h
  subst h
  exact ⟨_, rfl, rfl⟩
theorem gr_9_3 : ∀ (E : zE) (M : zMem) (id : zId), id.1 = 9 → ∃ fs, z_cont E M id = .inr (6, fs) ∧ fs[3]? = some (.ref (E.2.2.1 (2, id.2.1, 0))) := fun E M id h => by
  obtain ⟨a, b, c⟩ := id
  have h : a = 9 := h
  subst h
  exact ⟨_, rfl, rfl⟩
theorem gr_9_4 : ∀ (E : zE) (M : zMem) (id : zId), id.1 = 9 → ∃ fs, z_cont E M id = .inr (6, fs) ∧ fs[4]? = some (.ref (E.2.2.1 (20, id.2.1, 0))) := fun E M id h => by
  obtain ⟨a, b, c⟩ := id
  have h : a = 9 := h
  subst h
  exact ⟨_, rfl, rfl⟩
theorem gr_10_0 : ∀ (E : zE) (M : zMem) (id : zId), id.1 = 10 → ∃ fs, z_cont E M id = .inr (7, fs) ∧ fs[0]? = some (.ref (E.2.2.1 (1, 0, 0))) := fun E M id h => by
  obtain ⟨a, b, c⟩ := id
  have h : a = 10 := h
  subst h
  exact ⟨_, rfl, rfl⟩
theorem gr_10_1 : ∀ (E : zE) (M : zMem) (id : zId), id.1 = 10 → ∃ fs, z_cont E M id = .inr (7, fs) ∧ fs[1]? = some (.ref (E.2.2.1 (9, 0, 0))) := fun E M id h => by
  obtain ⟨a, b, c⟩ := id
  have h : a = 10 := h
  subst h
  exact ⟨_, rfl, rfl⟩
theorem gr_11_0 : ∀ (E : zE) (M : zMem) (id : zId), id.1 = 11 → ∃ fs, z_cont E M id = .inr (8, fs) ∧ fs[0]? = some (.ref (E.2.2.1 (24, 0, 0))) := fun E M id h => by
  obtain ⟨a, b, c⟩ := id
  have h : a = 11 := h
  subst h
  exact ⟨_, rfl, rfl⟩
theorem gr_11_1 : ∀ (E : zE) (M : zMem) (id : zId), id.1 = 11 → ∃ fs, z_cont E M id = .inr (8, fs) ∧ fs[1]? = some (.ref (E.2.2.1 (24, 0, 1))) := fun E M id h => by
  obtain ⟨a, b, c⟩ := id
  have h : a = 11 := h
  subst h
  exact ⟨_, rfl, rfl⟩
theorem gr_11_2 : ∀ (E : zE) (M : zMem) (id : zId), id.1 = 11 → ∃ fs, z_cont E M id = .inr (8, fs) ∧ fs[2]? = some (.ref (E.2.2.1 (24, 0, 2))) := fun E M id h => by
  obtain ⟨a, b, c⟩ := id
  have h : a = 11 := h
  subst h
  exact ⟨_, rfl, rfl⟩
theorem gr_11_4 : ∀ (E : zE) (M : zMem) (id : zId), id.1 = 11 → ∃ fs, z_cont E M id = .inr (8, fs) ∧ fs[4]? = some (.ref (E.2.2.1 (40, 0, 0))) := fun E M id h => by
  obtain ⟨a, b, c⟩ := id
  have h : a = 11 := h
  subst h
  exact ⟨_, rfl, rfl⟩
theorem gr_11_7 : ∀ (E : zE) (M : zMem) (id : zId), id.1 = 11 → ∃ fs, z_cont E M id = .inr (8, fs) ∧ fs[7]? = some (.ref (E.2.2.1 (47, 0, 0))) := fun E M id h => by
  obtain ⟨a, b, c⟩ := id
  have h : a = 11 := h
  subst h
  exact ⟨_, rfl, rfl⟩
theorem pv_2_1 : ∀ (E : zE) (M : zMem) (id : zId) (x : Int32), id.1 = 2 → ∃ fs, z_cont E M id = .inr (1, fs) ∧ 1 < fs.length ∧ z_cont E (z_up M 2 id.2.1 id.2.2 1 x) id = .inr (1, fs.set 1 (.int x)) := fun E M id x h => by
  obtain ⟨a, b, c⟩ := id
  have h : a = 2 := h
  subst h
  refine ⟨_, rfl, Nat.le_of_ble_eq_true rfl, ?_⟩
  simp [z_cont, z_up]
theorem pv_3_1 : ∀ (E : zE) (M : zMem) (id : zId) (x : Int32), id.1 = 3 → ∃ fs, z_cont E M id = .inr (2, fs) ∧ 1 < fs.length ∧ z_cont E (z_up M 3 id.2.1 id.2.2 1 x) id = .inr (2, fs.set 1 (.int x)) := fun E M id x h => by
  obtain ⟨a, b, c⟩ := id
  have h : a = 3 := h
  subst h
  refine ⟨_, rfl, Nat.le_of_ble_eq_true rfl, ?_⟩
  simp [z_cont, z_up]
theorem pv_4_0 : ∀ (E : zE) (M : zMem) (id : zId) (x : Int32), id.1 = 4 → ∃ fs, z_cont E M id = .inr (3, fs) ∧ 0 < fs.length ∧ z_cont E (z_up M 4 id.2.1 id.2.2 0 x) id = .inr (3, fs.set 0 (.int x)) := fun E M id x h => by
  obtain ⟨a, b, c⟩ := id
  have h : a = 4 := h
  subst h
  refine ⟨_, rfl, Nat.le_of_ble_eq_true rfl, ?_⟩
  simp [z_cont, z_up]
theorem pv_4_1 : ∀ (E : zE) (M : zMem) (id : zId) (x : Int32), id.1 = 4 → ∃ fs, z_cont E M id = .inr (3, fs) ∧ 1 < fs.length ∧ z_cont E (z_up M 4 id.2.1 id.2.2 1 x) id = .inr (3, fs.set 1 (.int x)) := fun E M id x h => by
  obtain ⟨a, b, c⟩ := id
  have h : a = 4 := h
  subst h
  refine ⟨_, rfl, Nat.le_of_ble_eq_true rfl, ?_⟩
  simp [z_cont, z_up]
theorem pv_4_2 : ∀ (E : zE) (M : zMem) (id : zId) (x : Int32), id.1 = 4 → ∃ fs, z_cont E M id = .inr (3, fs) ∧ 2 < fs.length ∧ z_cont E (z_up M 4 id.2.1 id.2.2 2 x) id = .inr (3, fs.set 2 (.int x)) := fun E M id x h => by
  obtain ⟨a, b, c⟩ := id
  have h : a = 4 := h
  subst h
  refine ⟨_, rfl, Nat.le_of_ble_eq_true rfl, ?_⟩
  simp [z_cont, z_up]
theorem pv_4_3 : ∀ (E : zE) (M : zMem) (id : zId) (x : Int32), id.1 = 4 → ∃ fs, z_cont E M id = .inr (3, fs) ∧ 3 < fs.length ∧ z_cont E (z_up M 4 id.2.1 id.2.2 3 x) id = .inr (3, fs.set 3 (.int x)) := fun E M id x h => by
  obtain ⟨a, b, c⟩ := id
  have h : a = 4 := h
  subst h
  refine ⟨_, rfl, Nat.le_of_ble_eq_true rfl, ?_⟩
  simp [z_cont, z_up]
theorem pv_4_4 : ∀ (E : zE) (M : zMem) (id : zId) (x : Int32), id.1 = 4 → ∃ fs, z_cont E M id = .inr (3, fs) ∧ 4 < fs.length ∧ z_cont E (z_up M 4 id.2.1 id.2.2 4 x) id = .inr (3, fs.set 4 (.int x)) := fun E M id x h => by
  obtain ⟨a, b, c⟩ := id
  have h : a = 4 := h
  subst h
  refine ⟨_, rfl, Nat.le_of_ble_eq_true rfl, ?_⟩
  simp [z_cont, z_up]
theorem pv_4_5 : ∀ (E : zE) (M : zMem) (id : zId) (x : Int32), id.1 = 4 → ∃ fs, z_cont E M id = .inr (3, fs) ∧ 5 < fs.length ∧ z_cont E (z_up M 4 id.2.1 id.2.2 5 x) id = .inr (3, fs.set 5 (.int x)) := fun E M id x h => by
  obtain ⟨a, b, c⟩ := id
  have h : a = 4 := h
  subst h
  refine ⟨_, rfl, Nat.le_of_ble_eq_true rfl, ?_⟩
  simp [z_cont, z_up]
theorem pv_4_6 : ∀ (E : zE) (M : zMem) (id : zId) (x : Int32), id.1 = 4 → ∃ fs, z_cont E M id = .inr (3, fs) ∧ 6 < fs.length ∧ z_cont E (z_up M 4 id.2.1 id.2.2 6 x) id = .inr (3, fs.set 6 (.int x)) := fun E M id x h => by
  obtain ⟨a, b, c⟩ := id
  have h : a = 4 := h
  subst h
  refine ⟨_, rfl, Nat.le_of_ble_eq_true rfl, ?_⟩
  simp [z_cont, z_up]
theorem pv_4_7 : ∀ (E : zE) (M : zMem) (id : zId) (x : Int32), id.1 = 4 → ∃ fs, z_cont E M id = .inr (3, fs) ∧ 7 < fs.length ∧ z_cont E (z_up M 4 id.2.1 id.2.2 7 x) id = .inr (3, fs.set 7 (.int x)) := fun E M id x h => by
  obtain ⟨a, b, c⟩ := id
  have h : a = 4 := h
  subst h
  refine ⟨_, rfl, Nat.le_of_ble_eq_true rfl, ?_⟩
  simp [z_cont, z_up]
theorem pv_4_8 : ∀ (E : zE) (M : zMem) (id : zId) (x : Int32), id.1 = 4 → ∃ fs, z_cont E M id = .inr (3, fs) ∧ 8 < fs.length ∧ z_cont E (z_up M 4 id.2.1 id.2.2 8 x) id = .inr (3, fs.set 8 (.int x)) := fun E M id x h => by
  obtain ⟨a, b, c⟩ := id
  have h : a = 4 := h
  subst h
  refine ⟨_, rfl, Nat.le_of_ble_eq_true rfl, ?_⟩
  simp [z_cont, z_up]
theorem pv_4_9 : ∀ (E : zE) (M : zMem) (id : zId) (x : Int32), id.1 = 4 → ∃ fs, z_cont E M id = .inr (3, fs) ∧ 9 < fs.length ∧ z_cont E (z_up M 4 id.2.1 id.2.2 9 x) id = .inr (3, fs.set 9 (.int x)) := fun E M id x h => by
  obtain ⟨a, b, c⟩ := id
  have h : a = 4 := h
  subst h
  refine ⟨_, rfl, Nat.le_of_ble_eq_true rfl, ?_⟩
  simp [z_cont, z_up]
theorem pv_4_10 : ∀ (E : zE) (M : zMem) (id : zId) (x : Int32), id.1 = 4 → ∃ fs, z_cont E M id = .inr (3, fs) ∧ 10 < fs.length ∧ z_cont E (z_up M 4 id.2.1 id.2.2 10 x) id = .inr (3, fs.set 10 (.int x)) := fun E M id x h => by
  obtain ⟨a, b, c⟩ := id
  have h : a = 4 := h
  subst h
  refine ⟨_, rfl, Nat.le_of_ble_eq_true rfl, ?_⟩
  simp [z_cont, z_up]
theorem pv_4_11 : ∀ (E : zE) (M : zMem) (id : zId) (x : Int32), id.1 = 4 → ∃ fs, z_cont E M id = .inr (3, fs) ∧ 11 < fs.length ∧ z_cont E (z_up M 4 id.2.1 id.2.2 11 x) id = .inr (3, fs.set 11 (.int x)) := fun E M id x h => by
  obtain ⟨a, b, c⟩ := id
  have h : a = 4 := h
  subst h
  refine ⟨_, rfl, Nat.le_of_ble_eq_true rfl, ?_⟩
  simp [z_cont, z_up]
theorem pv_7_0 : ∀ (E : zE) (M : zMem) (id : zId) (x : Int32), id.1 = 7 → ∃ fs, z_cont E M id = .inr (4, fs) ∧ 0 < fs.length ∧ z_cont E (z_up M 7 id.2.1 id.2.2 0 x) id = .inr (4, fs.set 0 (.int x)) := fun E M id x h => by
  obtain ⟨a, b, c⟩ := id
  have h : a = 7 := h
  subst h
  refine ⟨_, rfl, Nat.le_of_ble_eq_true rfl, ?_⟩
  simp [z_cont, z_up]
theorem pv_7_1 : ∀ (E : zE) (M : zMem) (id : zId) (x : Int32), id.1 = 7 → ∃ fs, z_cont E M id = .inr (4, fs) ∧ 1 < fs.length ∧ z_cont E (z_up M 7 id.2.1 id.2.2 1 x) id = .inr (4, fs.set 1 (.int x)) := fun E M id x h => by
  obtain ⟨a, b, c⟩ := id
  have h : a = 7 := h
  subst h
  refine ⟨_, rfl, Nat.le_of_ble_eq_true rfl, ?_⟩
  simp [z_cont, z_up]
theorem pv_7_2 : ∀ (E : zE) (M : zMem) (id : zId) (x : Int32), id.1 = 7 → ∃ fs, z_cont E M id = .inr (4, fs) ∧ 2 < fs.length ∧ z_cont E (z_up M 7 id.2.1 id.2.2 2 x) id = .inr (4, fs.set 2 (.int x)) := fun E M id x h => by
  obtain ⟨a, b, c⟩ := id
  have h : a = 7 := h
  subst h
  refine ⟨_, rfl, Nat.le_of_ble_eq_true rfl, ?_⟩
  simp [z_cont, z_up]
theorem pv_7_3 : ∀ (E : zE) (M : zMem) (id : zId) (x : Int32), id.1 = 7 → ∃ fs, z_cont E M id = .inr (4, fs) ∧ 3 < fs.length ∧ z_cont E (z_up M 7 id.2.1 id.2.2 3 x) id = .inr (4, fs.set 3 (.int x)) := fun E M id x h => by
  obtain ⟨a, b, c⟩ := id
  have h : a = 7 := h
  subst h
  refine ⟨_, rfl, Nat.le_of_ble_eq_true rfl, ?_⟩
  simp [z_cont, z_up]
theorem pv_7_4 : ∀ (E : zE) (M : zMem) (id : zId) (x : Int32), id.1 = 7 → ∃ fs, z_cont E M id = .inr (4, fs) ∧ 4 < fs.length ∧ z_cont E (z_up M 7 id.2.1 id.2.2 4 x) id = .inr (4, fs.set 4 (.int x)) := fun E M id x h => by
  obtain ⟨a, b, c⟩ := id
  have h : a = 7 := h
  subst h
  refine ⟨_, rfl, Nat.le_of_ble_eq_true rfl, ?_⟩
  simp [z_cont, z_up]
theorem pv_7_5 : ∀ (E : zE) (M : zMem) (id : zId) (x : Int32), id.1 = 7 → ∃ fs, z_cont E M id = .inr (4, fs) ∧ 5 < fs.length ∧ z_cont E (z_up M 7 id.2.1 id.2.2 5 x) id = .inr (4, fs.set 5 (.int x)) := fun E M id x h => by
  obtain ⟨a, b, c⟩ := id
  have h : a = 7 := h
  subst h
  refine ⟨_, rfl, Nat.le_of_ble_eq_true rfl, ?_⟩
  simp [z_cont, z_up]
theorem pv_7_6 : ∀ (E : zE) (M : zMem) (id : zId) (x : Int32), id.1 = 7 → ∃ fs, z_cont E M id = .inr (4, fs) ∧ 6 < fs.length ∧ z_cont E (z_up M 7 id.2.1 id.2.2 6 x) id = .inr (4, fs.set 6 (.int x)) := fun E M id x h => by
  obtain ⟨a, b, c⟩ := id
  have h : a = 7 := h
  subst h
  refine ⟨_, rfl, Nat.le_of_ble_eq_true rfl, ?_⟩
  simp [z_cont, z_up]
theorem pv_7_7 : ∀ (E : zE) (M : zMem) (id : zId) (x : Int32), id.1 = 7 → ∃ fs, z_cont E M id = .inr (4, fs) ∧ 7 < fs.length ∧ z_cont E (z_up M 7 id.2.1 id.2.2 7 x) id = .inr (4, fs.set 7 (.int x)) := fun E M id x h => by
  obtain ⟨a, b, c⟩ := id
  have h : a = 7 := h
  subst h
  refine ⟨_, rfl, Nat.le_of_ble_eq_true rfl, ?_⟩
  simp [z_cont, z_up]
theorem pv_7_8 : ∀ (E : zE) (M : zMem) (id : zId) (x : Int32), id.1 = 7 → ∃ fs, z_cont E M id = .inr (4, fs) ∧ 8 < fs.length ∧ z_cont E (z_up M 7 id.2.1 id.2.2 8 x) id = .inr (4, fs.set 8 (.int x)) := fun E M id x h => by
  obtain ⟨a, b, c⟩ := id
  have h : a = 7 := h
  subst h
  refine ⟨_, rfl, Nat.le_of_ble_eq_true rfl, ?_⟩
  simp [z_cont, z_up]
theorem pv_7_9 : ∀ (E : zE) (M : zMem) (id : zId) (x : Int32), id.1 = 7 → ∃ fs, z_cont E M id = .inr (4, fs) ∧ 9 < fs.length ∧ z_cont E (z_up M 7 id.2.1 id.2.2 9 x) id = .inr (4, fs.set 9 (.int x)) := fun E M id x h => by
  obtain ⟨a, b, c⟩ := id
  have h : a = 7 := h
  subst h
  refine ⟨_, rfl, Nat.le_of_ble_eq_true rfl, ?_⟩
  simp [z_cont, z_up]
theorem pv_8_0 : ∀ (E : zE) (M : zMem) (id : zId) (x : Int32), id.1 = 8 → ∃ fs, z_cont E M id = .inr (5, fs) ∧ 0 < fs.length ∧ z_cont E (z_up M 8 id.2.1 id.2.2 0 x) id = .inr (5, fs.set 0 (.int x)) := fun E M id x h => by
  obtain ⟨a, b, c⟩ := id
  have h : a = 8 := h
  subst h
  refine ⟨_, rfl, Nat.le_of_ble_eq_true rfl, ?_⟩
  simp [z_cont, z_up]
theorem pv_8_1 : ∀ (E : zE) (M : zMem) (id : zId) (x : Int32), id.1 = 8 → ∃ fs, z_cont E M id = .inr (5, fs) ∧ 1 < fs.length ∧ z_cont E (z_up M 8 id.2.1 id.2.2 1 x) id = .inr (5, fs.set 1 (.int x)) := fun E M id x h => by
  obtain ⟨a, b, c⟩ := id
  have h : a = 8 := h
  subst h
  refine ⟨_, rfl, Nat.le_of_ble_eq_true rfl, ?_⟩
  simp [z_cont, z_up]
theorem pv_8_2 : ∀ (E : zE) (M : zMem) (id : zId) (x : Int32), id.1 = 8 → ∃ fs, z_cont E M id = .inr (5, fs) ∧ 2 < fs.length ∧ z_cont E (z_up M 8 id.2.1 id.2.2 2 x) id = .inr (5, fs.set 2 (.int x)) := fun E M id x h => by
  obtain ⟨a, b, c⟩ := id
  have h : a = 8 := h
  subst h
  refine ⟨_, rfl, Nat.le_of_ble_eq_true rfl, ?_⟩
  simp [z_cont, z_up]
theorem pv_9_5 : ∀ (E : zE) (M : zMem) (id : zId) (x : Int32), id.1 = 9 → ∃ fs, z_cont E M id = .inr (6, fs) ∧ 5 < fs.length ∧ z_cont E (z_up M 9 id.2.1 id.2.2 5 x) id = .inr (6, fs.set 5 (.int x)) := fun E M id x h => by
  obtain ⟨a, b, c⟩ := id
  have h : a = 9 := h
  subst h
  refine ⟨_, rfl, Nat.le_of_ble_eq_true rfl, ?_⟩
  simp [z_cont, z_up]
theorem pv_9_6 : ∀ (E : zE) (M : zMem) (id : zId) (x : Int32), id.1 = 9 → ∃ fs, z_cont E M id = .inr (6, fs) ∧ 6 < fs.length ∧ z_cont E (z_up M 9 id.2.1 id.2.2 6 x) id = .inr (6, fs.set 6 (.int x)) := fun E M id x h => by
  obtain ⟨a, b, c⟩ := id
  have h : a = 9 := h
  subst h
  refine ⟨_, rfl, Nat.le_of_ble_eq_true rfl, ?_⟩
  simp [z_cont, z_up]
theorem pv_9_7 : ∀ (E : zE) (M : zMem) (id : zId) (x : Int32), id.1 = 9 → ∃ fs, z_cont E M id = .inr (6, fs) ∧ 7 < fs.length ∧ z_cont E (z_up M 9 id.2.1 id.2.2 7 x) id = .inr (6, fs.set 7 (.int x)) := fun E M id x h => by
  obtain ⟨a, b, c⟩ := id
  have h : a = 9 := h
  subst h
  refine ⟨_, rfl, Nat.le_of_ble_eq_true rfl, ?_⟩
  simp [z_cont, z_up]
theorem pv_9_8 : ∀ (E : zE) (M : zMem) (id : zId) (x : Int32), id.1 = 9 → ∃ fs, z_cont E M id = .inr (6, fs) ∧ 8 < fs.length ∧ z_cont E (z_up M 9 id.2.1 id.2.2 8 x) id = .inr (6, fs.set 8 (.int x)) := fun E M id x h => by
  obtain ⟨a, b, c⟩ := id
  have h : a = 9 := h
  subst h
  refine ⟨_, rfl, Nat.le_of_ble_eq_true rfl, ?_⟩
  simp [z_cont, z_up]
theorem pv_11_3 : ∀ (E : zE) (M : zMem) (id : zId) (x : Int32), id.1 = 11 → ∃ fs, z_cont E M id = .inr (8, fs) ∧ 3 < fs.length ∧ z_cont E (z_up M 11 id.2.1 id.2.2 3 x) id = .inr (8, fs.set 3 (.int x)) := fun E M id x h => by
  obtain ⟨a, b, c⟩ := id
  have h : a = 11 := h
  subst h
  refine ⟨_, rfl, Nat.le_of_ble_eq_true rfl, ?_⟩
  simp [z_cont, z_up]
theorem pv_11_5 : ∀ (E : zE) (M : zMem) (id : zId) (x : Int32), id.1 = 11 → ∃ fs, z_cont E M id = .inr (8, fs) ∧ 5 < fs.length ∧ z_cont E (z_up M 11 id.2.1 id.2.2 5 x) id = .inr (8, fs.set 5 (.int x)) := fun E M id x h => by
  obtain ⟨a, b, c⟩ := id
  have h : a = 11 := h
  subst h
  refine ⟨_, rfl, Nat.le_of_ble_eq_true rfl, ?_⟩
  simp [z_cont, z_up]
theorem pv_11_6 : ∀ (E : zE) (M : zMem) (id : zId) (x : Int32), id.1 = 11 → ∃ fs, z_cont E M id = .inr (8, fs) ∧ 6 < fs.length ∧ z_cont E (z_up M 11 id.2.1 id.2.2 6 x) id = .inr (8, fs.set 6 (.int x)) := fun E M id x h => by
  obtain ⟨a, b, c⟩ := id
  have h : a = 11 := h
  subst h
  refine ⟨_, rfl, Nat.le_of_ble_eq_true rfl, ?_⟩
  simp [z_cont, z_up]
