/-! a tick: flags fade by time -/
theorem fd_at {Mr : zMem} {i f p : Nat} (hi : i < 24) (hf : f < 5) (h1 : ¬ p = (if f = 4 then 526 + i else 718 + 4 * i + f)) (h2 : ¬ p = 14) : (n_fades Mr i f).1 24 0 0 p = Mr.1 24 0 0 p := by
  unfold n_fades
  split
  · rfl
  · rw [zf_counts (by omega), rd_turns hf hi, if_neg h1, if_neg (fun z => absurd z.1.2 (by decide))]
theorem Sim_fd {Z O : Nat → Prop} {M Mr : zMem} {w T c b i f : Nat} (h : SimZ Z O M w Mr T c b) (hi : i < 24) (hin : Mr.1 24 0 0 (454 + i) = 1) (hf : f < 5) (hf0 : 1 ≤ f) (hT : T < 2147483648) : SimZ Z O (if r_flag M w i (nI f) = 1 then m_fade M w i (nI f) else M) w (n_fades Mr i f) T c b := by
  obtain ⟨t5, t0⟩ := Sim_t h
  obtain ⟨a1, a2, a3, a4, a5⟩ := S_fadeT hi hf (h.2.2.2.1 i hi) hin t0 t5 hT h.2.2.1 _ rfl
  refine Sim_tag h hi a3 a4 a1 (fun o => S_okW (h.2.2.2.2.1 i hi o) ?_ (fun r _ => ?_) ?_ ?_ ?_) (fun k hk => ?_) (a2 9 (by omega))
  · exact fd_at hi hf (by split <;> omega) (by omega)
  · exact fd_at hi hf (by split <;> omega) (by omega)
  · exact fd_at hi hf (by split <;> omega) (by omega)
  · exact fd_at hi hf (by split <;> omega) (by omega)
  · exact fd_at hi hf (by split <;> omega) (by omega)
  · exact fd_at hi hf (by split <;> omega) (by omega)
theorem late_iff {T s x : Nat} (hs : s ≤ T) (hT : T < 100000) (hx : x < 100000) : (¬ nI s + nI x = -1 ∧ ¬ nI s + nI x > nI T) ↔ ¬ nI T - nI s < nI x := by
  rw [nI_add, sub_n hs]
  have e1 : nI T < nI (s + x) ↔ T < s + x := nI_ltI (by omega) (by omega)
  have e2 : nI (T - s) < nI x ↔ T - s < x := nI_ltI (by omega) (by omega)
  have e3 : ¬ nI (s + x) = -1 := fun z => absurd (z ▸ nI_pos (n := s + x) (by omega)) (by decide)
  have e4 : (nI (s + x) > nI T) ↔ nI T < nI (s + x) := Iff.rfl
  rw [e4, e1, e2]
  constructor
  · rintro ⟨-, z⟩
    omega
  · intro z
    exact ⟨e3, by omega⟩
/-- the class's step of one flag -/
theorem Sim_fbt {Z O : Nat → Prop} {M Mr : zMem} {w T c b i f : Nat} (h : SimZ Z O M w Mr T c b) (hi : i < 24) (hin : Mr.1 24 0 0 (454 + i) = 1) (hf : f < 5) (hf0 : 1 ≤ f) (hT : T < 100000) :
    (f = 1 → SimZ Z O (f_fbt w i 1 M) w (n_fade1 Mr i) T c b) ∧ (¬ f = 1 → SimZ Z O (f_fbt w i f M) w (if Mr.1 24 0 0 (670 + i) = -1 ∨ Mr.1 24 0 0 0 - Mr.1 24 0 0 (670 + i) < Mr.1 24 0 0 3 then Mr else n_fades Mr i f) T c b) := by
  obtain ⟨t5, t0⟩ := Sim_t h
  have hT2 := h.2.2.2.1 i hi
  obtain ⟨u1, u2, u6, u7, u9, u10, u11, u12⟩ := T_in hT2 hin
  have es : M.1 9 w 0 7 = Mr.1 24 0 0 2 := h.1.1 2 (by omega)
  have el : M.1 9 w 0 8 = Mr.1 24 0 0 3 := h.1.1 3 (by omega)
  obtain ⟨s, s1, s2, s3⟩ := h.1.2.2.1
  obtain ⟨l, l1, l2, l3⟩ := h.1.2.2.2
  have st := Sim_fd h hi hin hf hf0 (by omega)
  obtain ⟨fl, fl2⟩ := S_flag (f := f) (by omega) hT2 hin
  have same : ∀ N : zMem, r_fl Mr i f = 0 → N = n_fades Mr i f → N = Mr := fun N z e => by
    rw [e]
    unfold n_fades
    rw [if_pos z]
  constructor
  · rintro rfl
    unfold f_fbt n_fade1
    have fl' : r_flag M w i (nI 1) = r_fl Mr i 1 := fl
    rcases fl2 with z | z
    · rw [if_neg (fun y => by rw [fl', z] at y; exact absurd y.1 (by decide)), if_neg (fun y => by rw [z] at y; exact absurd y.1 (by decide))]
      exact h
    · rw [if_pos (fl'.trans z)] at st
      obtain ⟨v8, q, q1, q2⟩ := u12 z
      have ro : (¬ r_hasRunOut M w i (nI 1) = 0) ↔ ¬ Mr.1 24 0 0 0 - Mr.1 24 0 0 (646 + i) < Mr.1 24 0 0 2 := by
        unfold r_hasRunOut r_fadesAt
        rw [if_pos (show nI 1 = 1 from rfl), v8, es, t5, t0, q2, s3]
        have key := late_iff (x := s) q1 hT (by omega)
        by_cases c : ¬ nI T - nI q < nI s
        · rw [if_pos (key.mpr c)]
          exact ⟨fun _ => c, fun _ => by decide⟩
        · rw [if_neg (fun y => c (key.mp y))]
          exact ⟨fun y => (y rfl).elim, fun y => (c y).elim⟩
      by_cases c : ¬ Mr.1 24 0 0 0 - Mr.1 24 0 0 (646 + i) < Mr.1 24 0 0 2
      · rw [if_pos ⟨fl'.trans z, ro.mpr c⟩, if_pos ⟨z, c⟩]
        exact st
      · rw [if_neg (fun y => c (ro.mp y.2)), if_neg (fun y => c y.2)]
        exact h
  · intro f1
    have n1 : ¬ nI f = 1 := fun y => f1 ((nI_eq (b := 1) (by omega) (by decide)).mp y)
    have n0 : ¬ nI f = 0 := nI_ne0 (by omega) (by omega)
    unfold f_fbt
    have ro : (¬ r_hasRunOut M w i (nI f) = 0) ↔ ¬ (Mr.1 24 0 0 (670 + i) = -1 ∨ Mr.1 24 0 0 0 - Mr.1 24 0 0 (670 + i) < Mr.1 24 0 0 3) := by
      unfold r_hasRunOut r_fadesAt
      rw [if_neg n1, u9, el, t5, t0]
      rcases u11 with d | ⟨q, q1, q2⟩
      · rw [if_pos (show nI f = 0 ∨ Mr.1 24 0 0 (670 + i) = -1 from .inr d)]
        rw [if_neg (show ¬ (¬ (-1 : Int32) = -1 ∧ ¬ (-1 : Int32) > nI T) from fun y => y.1 rfl)]
        exact ⟨fun y => (y rfl).elim, fun y => (y (.inl d)).elim⟩
      · have nq : ¬ nI q = -1 := fun z => absurd (z ▸ nI_pos (n := q) (by omega)) (by decide)
        rw [q2, l3, if_neg (show ¬ (nI f = 0 ∨ nI q = -1) from fun y => y.elim n0 nq)]
        have key := late_iff (x := l) q1 hT (by omega)
        by_cases c : ¬ nI T - nI q < nI l
        · rw [if_pos (key.mpr c)]
          exact ⟨fun _ y => y.elim nq c, fun _ => by decide⟩
        · rw [if_neg (fun y => c (key.mp y))]
          exact ⟨fun y => (y rfl).elim, fun y => (c (fun z => y (.inr z))).elim⟩
    rcases fl2 with z | z
    · rw [if_neg (fun y => by rw [fl, z] at y; exact absurd y.1 (by decide)), same _ z rfl, ite_self]
      exact h
    · rw [if_pos (fl.trans z)] at st
      by_cases c : Mr.1 24 0 0 (670 + i) = -1 ∨ Mr.1 24 0 0 0 - Mr.1 24 0 0 (670 + i) < Mr.1 24 0 0 3
      · rw [if_neg (fun y => ro.mp y.2 c), if_pos c]
        exact h
      · rw [if_pos ⟨fl.trans z, ro.mpr c⟩, if_neg c]
        exact st
theorem fbt_0 {M : zMem} {w i f : Nat} (h : M.1 7 w i 3 = 0) (hf : f < 5) : f_fbt w i f M = M := by
  have e : r_flag M w i (nI f) = 0 := by
    unfold r_flag
    rw [h]
    have d : ∀ f, f < 5 → (0 : Int32) >>> (nI f &&& 31) &&& 1 = 0 := by decide
    exact d f hf
  unfold f_fbt
  rw [if_neg (fun y => by rw [e] at y; exact absurd y.1 (by decide))]
theorem fbt_all {M : zMem} {w i : Nat} : m_fbt w i 4 1 M = f_fbt w i 4 (f_fbt w i 3 (f_fbt w i 2 (f_fbt w i 1 M))) := by
  have z : ∀ N : zMem, N.1 7 w i 3 = 0 → (f_fbt w i 1 N = N ∧ f_fbt w i 2 N = N ∧ f_fbt w i 3 N = N ∧ f_fbt w i 4 N = N) := fun N h => ⟨fbt_0 h (by omega), fbt_0 h (by omega), fbt_0 h (by omega), fbt_0 h (by omega)⟩
  rw [m_fbt, m_fbt, m_fbt, m_fbt]
  by_cases c1 : M.1 7 w i 3 = 0
  · obtain ⟨a1, a2, a3, a4⟩ := z _ c1
    rw [if_pos c1, a1, a2, a3, a4]
  · rw [if_neg c1]
    generalize f_fbt w i 1 M = M1
    by_cases c2 : M1.1 7 w i 3 = 0
    · obtain ⟨a1, a2, a3, a4⟩ := z _ c2
      rw [if_pos c2, a2, a3, a4]
    · rw [if_neg c2]
      show (if (f_fbt w i 2 M1).1 7 w i 3 = 0 then f_fbt w i 2 M1 else _) = _
      generalize f_fbt w i 2 M1 = M2
      by_cases c3 : M2.1 7 w i 3 = 0
      · obtain ⟨a1, a2, a3, a4⟩ := z _ c3
        rw [if_pos c3, a3, a4]
      · rw [if_neg c3]
        show (if (f_fbt w i 3 M2).1 7 w i 3 = 0 then f_fbt w i 3 M2 else _) = _
        generalize f_fbt w i 3 M2 = M3
        by_cases c4 : M3.1 7 w i 3 = 0
        · obtain ⟨a1, a2, a3, a4⟩ := z _ c4
          rw [if_pos c4, a4]
        · rw [if_neg c4]
          rfl
theorem fw_fbt {w i f : Nat} {M : zMem} : z_fcw w M (f_fbt w i f M) := by
  unfold f_fbt
  split
  · exact fw_fade
  · exact fw_rf
theorem fr_mfade {M : zMem} {t : Nat} : z_fr M (n_fade M t) := by
  unfold n_fade n_fade2
  have e1 : z_fr M (n_fade1 M t) := by
    unfold n_fade1
    split
    · exact fr_fades
    · exact fr_rf
  split
  · exact e1
  · exact fr_tr e1 (fr_tr (fr_tr fr_fades fr_fades) fr_fades)
theorem Sim_pass1 {Z O : Nat → Prop} {M Mr : zMem} {w T c b i : Nat} (h : SimZ Z O M w Mr T c b) (hi : i < 24) (hT : T < 100000) : SimZ Z O (f_pass w i M) w (f_mPass i Mr) T c b := by
  obtain ⟨q0, q1⟩ := S_01 (h.2.2.2.1 i hi)
  unfold f_pass f_mPass
  rcases q1 with q1 | q1
  · rw [if_pos (q0.trans q1), if_neg (by rw [q1]; decide)]
    exact h
  · rw [if_neg (by rw [q0, q1]; decide), if_pos q1, fbt_all]
    have s1 := (Sim_fbt (f := 1) h hi q1 (by omega) (by omega) hT).1 rfl
    have in1 : (n_fade1 Mr i).1 24 0 0 (454 + i) = 1 := by
      unfold n_fade1
      split
      · exact (fd_at hi (by omega) (by rw [if_neg (by omega)]; omega) (by omega)).trans q1
      · exact q1
    unfold n_fade
    generalize f_fbt w i 1 M = M1 at *
    generalize n_fade1 Mr i = N1 at *
    unfold n_fade2
    have s2 := (Sim_fbt (f := 2) s1 hi in1 (by omega) (by omega) hT).2 (by omega)
    by_cases cc : N1.1 24 0 0 (670 + i) = -1 ∨ N1.1 24 0 0 0 - N1.1 24 0 0 (670 + i) < N1.1 24 0 0 3
    · rw [if_pos cc] at s2 ⊢
      have s3 := (Sim_fbt (f := 3) s2 hi in1 (by omega) (by omega) hT).2 (by omega)
      rw [if_pos cc] at s3
      have s4 := (Sim_fbt (f := 4) s3 hi in1 (by omega) (by omega) hT).2 (by omega)
      rw [if_pos cc] at s4
      exact s4
    · rw [if_neg cc] at s2 ⊢
      have k : ∀ (N : zMem) (f : Nat), f < 5 → 1 ≤ f → N.1 24 0 0 (454 + i) = 1 → ¬ (N.1 24 0 0 (670 + i) = -1 ∨ N.1 24 0 0 0 - N.1 24 0 0 (670 + i) < N.1 24 0 0 3) → (n_fades N i f).1 24 0 0 (454 + i) = 1 ∧ ¬ ((n_fades N i f).1 24 0 0 (670 + i) = -1 ∨ (n_fades N i f).1 24 0 0 0 - (n_fades N i f).1 24 0 0 (670 + i) < (n_fades N i f).1 24 0 0 3) := fun N f hf h1 a b => by
        rw [fd_at hi hf (by split <;> omega) (by omega), fd_at hi hf (by split <;> omega) (by omega), fd_at hi hf (by split <;> omega) (by omega), fd_at hi hf (by split <;> omega) (by omega)]
        exact ⟨a, b⟩
      obtain ⟨i2, d2⟩ := k N1 2 (by omega) (by omega) in1 cc
      have s3 := (Sim_fbt (f := 3) s2 hi i2 (by omega) (by omega) hT).2 (by omega)
      rw [if_neg d2] at s3
      obtain ⟨i3, d3⟩ := k _ 3 (by omega) (by omega) i2 d2
      have s4 := (Sim_fbt (f := 4) s3 hi i3 (by omega) (by omega) hT).2 (by omega)
      rw [if_neg d3] at s4
      exact s4
theorem Sim_fades {Z O : Nat → Prop} {M Mr : zMem} {w T c b : Nat} (h : SimZ Z O M w Mr T c b) (hT : T < 100000) : ∀ n, n ≤ 24 → SimZ Z O (z_it (f_pass w) n M) w (z_it f_mPass n Mr) T c b
  | 0, _ => h
  | n + 1, hn => by
    rw [z_itS, z_itS]
    exact Sim_pass1 (Sim_fades h hT n (by omega)) (by omega) hT
