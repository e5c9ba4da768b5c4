/-! all tags looked at -/
theorem up_same {M : zMem} {a b c d : Nat} {x : Int32} (h : M.1 a b c d = x) : z_up M a b c d x = M := by
  unfold z_up
  refine Prod.ext ?_ rfl
  funext p q r s
  simp only
  split
  · rename_i e
    obtain ⟨rfl, rfl, rfl, rfl⟩ := e
    exact h.symm
  · rfl
def S_ok (R : Nat → Int32) (j : Nat) : Prop := R (454 + j) = 0 ∨ (R (454 + j) = 1 ∧ S_dk R j)
theorem look_id {Mr : zMem} {j : Nat} (h : S_ok (Mr.1 24 0 0) j) : f_look j Mr = Mr := by
  unfold f_look
  rcases h with h | ⟨h, hd⟩
  · rw [if_pos h]
  · obtain ⟨d1, d2⟩ := hd h
    rw [if_neg (by rw [h]; decide), hasPw_S]
    by_cases p : S_pw (Mr.1 24 0 0) j
    · rw [z_pbT p, if_neg (by decide), up_same (d1.mpr p)]
    · rw [z_pbF p, if_pos rfl, if_neg (fun z => p (d1.mp z))]
      unfold n_fades
      have e : r_fl Mr j 0 = 0 := d2 p
      rw [if_pos e]
theorem looks_one {Mr : zMem} {t : Nat} (ht : t < 24) (h : ∀ j, j < 24 → ¬ j = t → S_ok (Mr.1 24 0 0) j) (h2 : ∀ j, j < 24 → ¬ j = t → S_ok ((f_look t Mr).1 24 0 0) j) : n_looks Mr = f_look t Mr := by
  unfold n_looks
  have key : ∀ n, n ≤ 24 → z_it f_look n Mr = if n ≤ t then Mr else f_look t Mr := by
    intro n hn
    induction n with
    | zero => rw [if_pos (Nat.zero_le _)]; rfl
    | succ n ih =>
      rw [z_itS, ih (by omega)]
      rcases Nat.lt_trichotomy n t with c | c | c
      · rw [if_pos (by omega), if_pos (by omega), look_id (h n (by omega) (by omega))]
      · subst c
        rw [if_pos (Nat.le_refl _), if_neg (by omega)]
      · rw [if_neg (by omega), if_neg (by omega), look_id (h2 n (by omega) (by omega))]
  rw [key 24 (Nat.le_refl _), if_neg (by omega)]
theorem S_okT {Mr Mr2 : zMem} {j t : Nat} (h : S_ok (Mr.1 24 0 0) j) (hR : t_R t Mr Mr2) (hj : j < 24) (ht : t < 24) (ne : ¬ j = t) : S_ok (Mr2.1 24 0 0) j := by
  unfold S_ok at *
  have e : ∀ p, (∃ k, k < 11 ∧ p = 454 + 24 * k + j) ∨ (718 + 4 * j ≤ p ∧ p < 722 + 4 * j) ∨ (262 ≤ p ∧ p < 266) → Mr2.1 24 0 0 p = Mr.1 24 0 0 p := fun p hp => hR.1 p (by unfold p_T; rcases hp with ⟨k, hk, e⟩ | hp | hp <;> omega) (by rcases hp with ⟨k, hk, e⟩ | hp | hp <;> omega)
  rw [e (454 + j) (.inl ⟨0, by omega, by omega⟩)]
  exact h.imp id (fun ⟨h1, h2⟩ => ⟨h1, S_dkC h2 (e _ (.inl ⟨0, by omega, by omega⟩)) (fun r hr => e _ (.inr (.inr (by omega)))) (e _ (.inl ⟨2, by omega, by omega⟩)) (e _ (.inl ⟨9, by omega, by omega⟩)) (e _ (.inr (.inl (by omega))))⟩)
theorem S_onT {M M2 Mr Mr2 : zMem} {w i : Nat} (h : S_on M w (Mr.1 24 0 0)) (hM : t_M w i M M2) (hR : t_R i Mr Mr2) : S_on M2 w (Mr2.1 24 0 0) := fun r hr => by
  rw [hM.1 _ _ _ _ (by omega) (by omega), hR.1 _ (by unfold p_T; omega) (by omega)]
  exact h r hr
/-- what tags have in common, all of them -/
def S_tags (M : zMem) (w : Nat) (Mr : zMem) (T : Nat) : Prop := ∀ i, i < 24 → S_T M w Mr T i
theorem S_01 {M Mr : zMem} {w T i : Nat} (h : S_T M w Mr T i) : M.1 7 w i 0 = Mr.1 24 0 0 (454 + i) ∧ (Mr.1 24 0 0 (454 + i) = 0 ∨ Mr.1 24 0 0 (454 + i) = 1) := by
  obtain ⟨h1, _, _, h4⟩ := h
  have e : g_R (Mr.1 24 0 0) i 0 = Mr.1 24 0 0 (454 + i) := rfl
  rw [e] at h1 h4
  exact ⟨h1, h4.imp (fun z => z.1) (fun z => z.1)⟩
/-- every tag settled, against all looked at -/
theorem S_looks {M Mr : zMem} {w T : Nat} (hs : S_tags M w Mr T) (ho : S_on M w (Mr.1 24 0 0)) (h0 : Mr.1 24 0 0 0 = nI T) (ht : M.1 9 w 0 5 = nI T) (hT : T < 2147483648) (hc : S_cnt M w (Mr.1 24 0 0)) : ∀ n, n ≤ 24 →
    S_tags (z_it (f_settle w) n M) w (z_it f_look n Mr) T ∧ S_on (z_it (f_settle w) n M) w ((z_it f_look n Mr).1 24 0 0) ∧ S_cnt (z_it (f_settle w) n M) w ((z_it f_look n Mr).1 24 0 0) ∧ (∀ i, i < n → S_ok ((z_it f_look n Mr).1 24 0 0) i) ∧
    (∀ a b c d, ¬ (a = 7 ∧ b = w ∧ c < 24) → ¬ (a = 20 ∧ b = w ∧ c = 0 ∧ d = 9) → (z_it (f_settle w) n M).1 a b c d = M.1 a b c d) ∧ (z_it (f_settle w) n M).2 = M.2 ∧ (∀ p, p < 454 ∨ 814 ≤ p → ¬ p = 14 → (z_it f_look n Mr).1 24 0 0 p = Mr.1 24 0 0 p) ∧ (∀ a b c d, ¬ a = 24 → (z_it f_look n Mr).1 a b c d = Mr.1 a b c d)
  | 0, _ => ⟨hs, ho, hc, fun i hi => absurd hi (Nat.not_lt_zero i), fun _ _ _ _ _ _ => rfl, rfl, fun _ _ _ => rfl, fun _ _ _ _ _ => rfl⟩
  | n + 1, hn => by
    obtain ⟨i1, i2, i3, i4, i5, i6, i7, i8⟩ := S_looks hs ho h0 ht hT hc n (by omega)
    have h0' : (z_it f_look n Mr).1 24 0 0 0 = nI T := (i7 0 (by omega) (by omega)).trans h0
    have ht' : (z_it (f_settle w) n M).1 9 w 0 5 = nI T := (i5 _ _ _ _ (by omega) (by omega)).trans ht
    rw [z_itS, z_itS]
    generalize z_it (f_settle w) n M = M1 at *
    generalize z_it f_look n Mr = Mr1 at *
    obtain ⟨e1, e2⟩ := S_01 (i1 n (by omega))
    have step : S_T (f_settle w n M1) w (f_look n Mr1) T n ∧ S_ok ((f_look n Mr1).1 24 0 0) n ∧ S_cnt (f_settle w n M1) w ((f_look n Mr1).1 24 0 0) ∧ t_M w n M1 (f_settle w n M1) ∧ t_R n Mr1 (f_look n Mr1) := by
      unfold f_settle
      rcases e2 with e2 | e2
      · rw [if_pos (e1.trans e2), look_id (.inl e2)]
        exact ⟨i1 n (by omega), .inl e2, i3, t_M0, t_R0⟩
      · rw [if_neg (by rw [e1, e2]; decide)]
        obtain ⟨f1, f2, f3, f4, f5, f6⟩ := S_look (w := w) (by omega) (i1 n (by omega)) e2 i2 h0' ht' hT i3
        exact ⟨f1, .inr ⟨f6, f2⟩, f3, f4, f5⟩
    obtain ⟨s1, s2, s3, s4, s5⟩ := step
    refine ⟨fun j hj => ?_, S_onT i2 s4 s5, s3, fun j hj => ?_, fun a b c d g1 g2 => (s4.1 a b c d (fun z => g1 ⟨z.1, z.2.1, by omega⟩) g2).trans (i5 a b c d g1 g2), s4.2.trans i6, fun p g1 g2 => (s5.1 p (by unfold p_T; omega) g2).trans (i7 p g1 g2), fun a b c d g => (s5.2 a b c d g).trans (i8 a b c d g)⟩
    · by_cases e : j = n
      · subst e
        exact s1
      · exact t_other (i1 j hj) s4 s5 hj (by omega) e
    · by_cases e : j = n
      · subst e
        exact s2
      · exact S_okT (i4 j (by omega)) s5 (by omega) (by omega) e
