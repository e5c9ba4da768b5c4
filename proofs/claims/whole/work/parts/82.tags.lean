/-! a tag of the class and one of the reference -/
def sf_on (x f : Nat) : Nat := if x / 2 ^ f % 2 = 1 then x else x + 2 ^ f
def sf_off (x f : Nat) : Nat := if x / 2 ^ f % 2 = 1 then x - 2 ^ f else x
theorem sf_get : ∀ x, x < 32 → ∀ f, f < 5 → nI x >>> (nI f &&& 31) &&& 1 = nI (x / 2 ^ f % 2) := by decide +kernel
theorem sf_set : ∀ x, x < 32 → ∀ f, f < 5 → nI x ||| 1 <<< (nI f &&& 31) = nI (sf_on x f) ∧ nI x &&& (1 <<< (nI f &&& 31) ^^^ -1) = nI (sf_off x f) ∧ sf_on x f < 32 ∧ sf_off x f < 32 := by decide +kernel
theorem sf_bits : ∀ x, x < 32 → ∀ f, f < 5 → ∀ g, g < 5 → sf_on x f / 2 ^ g % 2 = (if g = f then 1 else x / 2 ^ g % 2) ∧ sf_off x f / 2 ^ g % 2 = (if g = f then 0 else x / 2 ^ g % 2) := by decide +kernel
def g_R (R : Nat → Int32) (i k : Nat) : Int32 := R (454 + 24 * k + i)
def f_R (R : Nat → Int32) (i f : Nat) : Int32 := if f = 4 then R (526 + i) else R (718 + 4 * i + f)

def S_in (c g fl : Nat → Int32) (T : Nat) : Prop :=
  g 0 = 1 ∧ c 1 = g 1 ∧ c 2 = g 2 ∧ c 6 = g 6 ∧ c 7 = g 7 ∧ c 9 = g 9 ∧ (∃ z, z < 16 ∧ g 2 = nI z) ∧ (g 9 = -1 ∨ ∃ s, s ≤ T ∧ g 9 = nI s) ∧
  ∃ x, x < 32 ∧ c 3 = nI x ∧ (∀ f, f < 5 → fl f = nI (x / 2 ^ f % 2)) ∧ (x / 2 ^ 1 % 2 = 1 → c 8 = g 8 ∧ ∃ s, s ≤ T ∧ g 8 = nI s)
def S_tag (c g fl : Nat → Int32) (T : Nat) : Prop := c 0 = g 0 ∧ c 4 = g 4 ∧ c 5 = g 5 ∧ ((g 0 = 0 ∧ g 4 = -1 ∧ g 5 = -1) ∨ S_in c g fl T)
theorem S_tagC {c g fl c2 g2 fl2 : Nat → Int32} {T : Nat} (h : S_tag c g fl T) (hc : ∀ k, k < 10 → c2 k = c k) (hg : ∀ k, k < 10 → ¬ k = 3 → g2 k = g k) (hf : ∀ f, f < 5 → fl2 f = fl f) : S_tag c2 g2 fl2 T := by
  unfold S_tag S_in at *
  rw [hc 0 (by omega), hc 4 (by omega), hc 5 (by omega), hg 0 (by omega) (by omega), hg 4 (by omega) (by omega), hg 5 (by omega) (by omega), hc 1 (by omega), hc 2 (by omega), hc 6 (by omega), hc 7 (by omega), hc 9 (by omega), hc 3 (by omega), hc 8 (by omega), hg 1 (by omega) (by omega), hg 2 (by omega) (by omega), hg 6 (by omega) (by omega), hg 7 (by omega) (by omega), hg 9 (by omega) (by omega), hg 8 (by omega) (by omega)]
  obtain ⟨h1, h2, h3, h4⟩ := h
  refine ⟨h1, h2, h3, h4.imp id (fun ⟨a1, a2, a3, a4, a5, a6, a7, a8, x, b1, b2, b3, b4⟩ => ⟨a1, a2, a3, a4, a5, a6, a7, a8, x, b1, b2, fun f hf2 => ?_, b4⟩)⟩
  rw [hf f hf2]
  exact b3 f hf2
theorem S_tagT {c g fl : Nat → Int32} {T T2 : Nat} (h : S_tag c g fl T) (hT : T ≤ T2) : S_tag c g fl T2 := by
  obtain ⟨h1, h2, h3, h4⟩ := h
  refine ⟨h1, h2, h3, h4.imp id (fun ⟨a1, a2, a3, a4, a5, a6, a7, a8, x, b1, b2, b3, b4⟩ => ⟨a1, a2, a3, a4, a5, a6, a7, ?_, x, b1, b2, b3, fun z => ?_⟩)⟩
  · exact a8.imp id (fun ⟨s, s1, s2⟩ => ⟨s, by omega, s2⟩)
  · obtain ⟨c1, s, s1, s2⟩ := b4 z
    exact ⟨c1, s, by omega, s2⟩

theorem rd_turns {M : zMem} {i f p : Nat} {v : Int32} (hf : f < 5) (hi : i < 24) : (n_turns M i f v).1 24 0 0 p = if p = (if f = 4 then 526 + i else 718 + 4 * i + f) then v else if (f = 1 ∧ v = 1) ∧ p = 646 + i then (M.1 24 0 0 (0)) else (M.1 24 0 0 (p)) := by
  unfold n_turns n_turns1
  by_cases c : f = 1 ∧ v = 1
  · rw [if_pos c, if_neg (show ¬ f = 4 by omega), if_neg (show ¬ f = 4 by omega)]
    by_cases e : p = 646 + i
    · subst e
      rw [zn_upS, if_neg (by omega), if_pos ⟨c, rfl⟩]
    · rw [zn_upN e, if_neg (show ¬ ((f = 1 ∧ v = 1) ∧ p = 646 + i) from fun z => e z.2)]
      by_cases e2 : p = 718 + 4 * i + f
      · subst e2
        rw [zn_upS, if_pos rfl]
      · rw [zn_upN e2, if_neg e2]
  · rw [if_neg c, if_neg (show ¬ ((f = 1 ∧ v = 1) ∧ p = 646 + i) from fun z => c z.1)]
    split
    · by_cases e : p = 526 + i
      · subst e
        rw [zn_upS, if_pos rfl]
      · rw [zn_upN e, if_neg e]
    · by_cases e : p = 718 + 4 * i + f
      · subst e
        rw [zn_upS, if_pos rfl]
      · rw [zn_upN e, if_neg e]
theorem rd_set {M : zMem} {w i f : Nat} {v t : Int32} {a b c d : Nat} (hf : f < 5) : (m_setFlag M w i (nI f) v t).1 a b c d =
    if a = 7 ∧ b = w ∧ c = i ∧ d = 3 then (if v = 1 then M.1 7 w i 3 ||| 1 <<< (nI f &&& 31) else M.1 7 w i 3 &&& (1 <<< (nI f &&& 31) ^^^ -1)) else if (f = 1 ∧ v = 1) ∧ a = 7 ∧ b = w ∧ c = i ∧ d = 8 then t else M.1 a b c d := by
  have e1 : (nI f = 1) = (f = 1) := propext (nI_eq (b := 1) (by omega) (by decide))
  unfold m_setFlag
  simp only [e1]
  by_cases hv : v = 1
  · rw [if_pos hv, if_pos hv]
    by_cases h1 : f = 1
    · rw [if_pos h1]
      simp only [z_up1, h1, hv, and_self, true_and]
      by_cases k : a = 7 ∧ b = w ∧ c = i ∧ d = 8
      · rw [if_pos k, if_neg (fun z => by have := z.2.2.2; omega), if_pos k]
      · rw [if_neg k, if_neg k]
    · rw [if_neg h1]
      simp only [z_up1, h1, false_and, if_false]
  · rw [if_neg hv, if_neg hv]
    simp only [z_up1, hv, and_false, false_and, if_false]
theorem nI_01 {x : Nat} : nI (x % 2) = 0 ∨ nI (x % 2) = 1 := by
  rcases (show x % 2 = 0 ∨ x % 2 = 1 by omega) with h | h <;> rw [h]
  · exact .inl rfl
  · exact .inr rfl

theorem S_set {M Mr : zMem} {w i f T : Nat} {v : Int32} (hi : i < 24) (hf : f < 5) (hv : v = 0 ∨ v = 1) (h0 : Mr.1 24 0 0 0 = nI T) (hT : T < 2147483648)
    (h : S_tag (M.1 7 w i) (g_R (Mr.1 24 0 0) i) (f_R (Mr.1 24 0 0) i) T) (ht : g_R (Mr.1 24 0 0) i 0 = 1) :
    S_tag ((m_setFlag M w i (nI f) v (nI T)).1 7 w i) (g_R ((n_turns Mr i f v).1 24 0 0) i) (f_R ((n_turns Mr i f v).1 24 0 0) i) T := by
  obtain ⟨h1, h2, h3, h4⟩ := h
  rcases h4 with ⟨h4, _⟩ | ⟨a1, a2, a3, a4, a5, a6, a7, a8, x, b1, b2, b3, b4⟩
  · rw [ht] at h4
    exact absurd h4 (by decide)
  obtain ⟨s1, s2, s3, s4⟩ := sf_set x b1 f hf
  have cN : ∀ k, ¬ k = 3 → ¬ k = 8 → (m_setFlag M w i (nI f) v (nI T)).1 7 w i k = M.1 7 w i k := fun k k3 k8 => by
    rw [rd_set hf, if_neg (fun z => k3 z.2.2.2), if_neg (fun z => k8 z.2.2.2.2)]
  have gN : ∀ k, k < 10 → ¬ k = 3 → ¬ k = 8 → g_R ((n_turns Mr i f v).1 24 0 0) i k = g_R (Mr.1 24 0 0) i k := fun k hk k3 k8 => by
    unfold g_R
    rw [rd_turns hf hi, if_neg (by split <;> omega), if_neg (fun z => by have := z.2; omega)]
  have c3 : (m_setFlag M w i (nI f) v (nI T)).1 7 w i 3 = nI (if v = 1 then sf_on x f else sf_off x f) := by
    rw [rd_set hf, if_pos ⟨rfl, rfl, rfl, rfl⟩, b2]
    split
    · exact s1
    · exact s2
  have fl : ∀ g, g < 5 → f_R ((n_turns Mr i f v).1 24 0 0) i g = if g = f then v else f_R (Mr.1 24 0 0) i g := fun g hg => by
    unfold f_R
    by_cases g4 : g = 4
    · rw [if_pos g4, if_pos g4, rd_turns hf hi]
      by_cases e : f = 4
      · rw [if_pos e, if_pos rfl, if_pos (by omega)]
      · rw [if_neg e, if_neg (by omega), if_neg (fun z => by have := z.2; omega), if_neg (by omega)]
    · rw [if_neg g4, if_neg g4, rd_turns hf hi]
      by_cases e : g = f
      · rw [if_pos e, if_neg (show ¬ f = 4 by omega), if_pos (by omega)]
      · rw [if_neg e, if_neg (by split <;> omega), if_neg (fun z => by have := z.2; omega)]
  unfold S_tag S_in
  rw [cN 0 (by omega) (by omega), cN 4 (by omega) (by omega), cN 5 (by omega) (by omega), cN 1 (by omega) (by omega), cN 2 (by omega) (by omega), cN 6 (by omega) (by omega), cN 7 (by omega) (by omega), cN 9 (by omega) (by omega), c3]
  rw [gN 0 (by omega) (by omega) (by omega), gN 4 (by omega) (by omega) (by omega), gN 5 (by omega) (by omega) (by omega), gN 1 (by omega) (by omega) (by omega), gN 2 (by omega) (by omega) (by omega), gN 6 (by omega) (by omega) (by omega), gN 7 (by omega) (by omega) (by omega), gN 9 (by omega) (by omega) (by omega)]
  refine ⟨h1, h2, h3, .inr ⟨a1, a2, a3, a4, a5, a6, a7, a8, (if v = 1 then sf_on x f else sf_off x f), ?_, rfl, ?_, ?_⟩⟩
  · split
    · exact s3
    · exact s4
  · intro g hg
    obtain ⟨t1, t2⟩ := sf_bits x b1 f hf g hg
    rw [fl g hg]
    rcases hv with rfl | rfl
    · rw [if_neg (show ¬ (0 : Int32) = 1 by decide), t2]
      split
      · rfl
      · exact b3 g hg
    · rw [if_pos rfl, t1]
      split
      · rfl
      · exact b3 g hg
  · intro hx
    obtain ⟨t1, t2⟩ := sf_bits x b1 f hf 1 (by omega)
    have c8 : (m_setFlag M w i (nI f) v (nI T)).1 7 w i 8 = if f = 1 ∧ v = 1 then nI T else M.1 7 w i 8 := by
      rw [rd_set hf, if_neg (fun z => by have := z.2.2.2; omega)]
      by_cases e : f = 1 ∧ v = 1
      · rw [if_pos ⟨e, rfl, rfl, rfl, rfl⟩, if_pos e]
      · rw [if_neg (fun z => e z.1), if_neg e]
    have g8 : g_R ((n_turns Mr i f v).1 24 0 0) i 8 = if f = 1 ∧ v = 1 then nI T else g_R (Mr.1 24 0 0) i 8 := by
      unfold g_R
      rw [rd_turns hf hi, if_neg (by split <;> omega)]
      by_cases e : f = 1 ∧ v = 1
      · rw [if_pos ⟨e, by omega⟩, if_pos e, h0]
      · rw [if_neg (fun z => e z.1), if_neg e]
    rw [c8, g8]
    by_cases e : f = 1 ∧ v = 1
    · rw [if_pos e, if_pos e]
      exact ⟨rfl, T, Nat.le_refl _, rfl⟩
    · rw [if_neg e, if_neg e]
      refine b4 ?_
      rcases hv with rfl | rfl
      · rw [if_neg (show ¬ (0 : Int32) = 1 by decide), t2] at hx
        split at hx
        · omega
        · exact hx
      · rw [if_pos rfl, t1, if_neg (fun z => e ⟨z.symm, rfl⟩)] at hx
        exact hx
theorem S_flag {M Mr : zMem} {w i f T : Nat} (hf : f < 5) (h : S_tag (M.1 7 w i) (g_R (Mr.1 24 0 0) i) (f_R (Mr.1 24 0 0) i) T) (ht : g_R (Mr.1 24 0 0) i 0 = 1) :
    r_flag M w i (nI f) = r_fl Mr i f ∧ (r_fl Mr i f = 0 ∨ r_fl Mr i f = 1) := by
  obtain ⟨h1, h2, h3, h4⟩ := h
  rcases h4 with ⟨h4, _⟩ | ⟨a1, a2, a3, a4, a5, a6, a7, a8, x, b1, b2, b3, b4⟩
  · rw [ht] at h4
    exact absurd h4 (by decide)
  have e : r_fl Mr i f = nI (x / 2 ^ f % 2) := b3 f hf
  rw [e]
  refine ⟨?_, nI_01⟩
  unfold r_flag
  rw [b2, sf_get x b1 f hf]
