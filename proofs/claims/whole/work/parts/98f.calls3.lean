/-! select -/
theorem deed_T : ∀ a, a < 8 → ∀ s : Bool, (z_sd (if s = true then 0 else 1) a = 3 ∧ r_deed a (if s = true then 1 else 0) = nI 2) ∨ (z_sd (if s = true then 0 else 1) a = 0 ∧ r_deed a (if s = true then 1 else 0) = nI 3) ∨ (z_sd (if s = true then 0 else 1) a = 1 ∧ r_deed a (if s = true then 1 else 0) = 1) ∨ (z_sd (if s = true then 0 else 1) a = 2 ∧ r_deed a (if s = true then 1 else 0) = 0) := by decide +kernel
theorem Sim_deed {Z O : Nat → Prop} {M Mr : zMem} {w T c b i f a : Nat} (h : SimZ Z O M w Mr T c b) (hi : i < 24) (hin : Mr.1 24 0 0 (454 + i) = 1) (hf : f < 5) (hT : T < 2147483648) (hpw : S_pw (Mr.1 24 0 0) i) (ha : a < 8) (s : Bool) : SimZ Z O (m_change M w i (nI f) (z_sd (if s = true then 0 else 1) a)) w (n_does Mr i f (r_deed a (if s = true then 1 else 0))) T c b := by
  obtain ⟨fl, fl2⟩ := S_flag hf (h.2.2.2.1 i hi) hin
  have f4 : (nI f = 4) ↔ f = 4 := nI_eq (b := 4) (by omega) (by decide)
  unfold m_change n_does r_doesV
  rcases deed_T a ha s with ⟨e1, e2⟩ | ⟨e1, e2⟩ | ⟨e1, e2⟩ | ⟨e1, e2⟩
  · rw [e1, e2, if_pos rfl, if_neg (by decide), if_pos rfl, fl]
    refine Sim_set h hi hin hf ?_ hT (fun _ _ => hpw)
    rcases fl2 with e | e
    · rw [e]
      exact .inr rfl
    · rw [e]
      exact .inl rfl
  · rw [e1, e2, if_neg (by decide), if_pos rfl, if_pos rfl]
    exact h
  · rw [e1, e2, if_neg (show ¬ (1 : Int32) = 3 by decide), if_neg (show ¬ (1 : Int32) = 0 by decide), if_neg (show ¬ (1 : Int32) = nI 3 by decide), if_neg (show ¬ (1 : Int32) = nI 2 by decide), if_pos (show (1 : Int32) = 1 from rfl)]
    by_cases q : f = 4
    · rw [if_pos (⟨fun _ => f4.mpr q, fun _ => rfl⟩ : ((1 : Int32) = 1 ↔ nI f = 4)), if_pos q]
      exact Sim_set h hi hin hf (.inr rfl) hT (fun _ _ => hpw)
    · rw [if_neg (show ¬ ((1 : Int32) = 1 ↔ nI f = 4) from fun z => q (f4.mp (z.mp rfl))), if_neg q]
      exact Sim_set h hi hin hf (.inl rfl) hT (fun _ _ => hpw)
  · rw [e1, e2, if_neg (show ¬ (2 : Int32) = 3 by decide), if_neg (show ¬ (2 : Int32) = 0 by decide), if_neg (show ¬ (0 : Int32) = nI 3 by decide), if_neg (show ¬ (0 : Int32) = nI 2 by decide), if_neg (show ¬ (0 : Int32) = 1 by decide)]
    by_cases q : f = 4
    · rw [if_neg (show ¬ ((2 : Int32) = 1 ↔ nI f = 4) from fun z => absurd (z.mpr (f4.mpr q)) (by decide)), if_pos q]
      exact Sim_set h hi hin hf (.inl rfl) hT (fun _ _ => hpw)
    · rw [if_pos (⟨fun z => absurd z (by decide), fun z => (q (f4.mp z)).elim⟩ : ((2 : Int32) = 1 ↔ nI f = 4)), if_neg q]
      exact Sim_set h hi hin hf (.inr rfl) hT (fun _ _ => hpw)
theorem lowest_eq (x : Int32) {n : Nat} (h1 : 1 ≤ n) (hn : n ≤ 32) : r_lowest x (nI n) = x &&& r_low (nI n) := by
  unfold r_lowest
  rw [if_neg (fun z => by have := (nI_eq (b := 0) (by omega) (by decide)).mp z; omega), show (32 : Int32) - nI n = nI (32 - n) from sub_n (a := 32) hn]
  unfold z_ush
  refine b_ext (fun i hi => ?_)
  rw [b_and, b_ushr _ (by omega), low_bt n hn i hi]
  by_cases c : i < n
  · rw [b_shl (32 - n) (by omega) x (by omega), decide_eq_true c, Bool.and_true, decide_eq_true (show 32 - n ≤ 32 - n + i by omega), Bool.true_and]
    congr 1
    omega
  · rw [b_big (by omega), decide_eq_false c, Bool.and_false]
theorem e_is {M Mr : zMem} {w T i x y : Nat} {v : Int32} (h : S_tags M w Mr T) (hi : i < 24) (hin : Mr.1 24 0 0 (454 + i) = 1) (hx : x ≤ 31) (hy : x + y ≤ 32) : r_span M w i (nI x) (nI y) = r_lowest v (nI y) ↔ c_mIs Mr (nI x) (nI y) v i := by
  unfold c_mIs
  by_cases c : y = 0
  · subst c
    exact ⟨fun _ => .inl rfl, fun _ => (if_pos rfl).trans (if_pos rfl).symm⟩
  · rw [e_spT h hi hin hx hy, lowest_eq v (by omega) (by omega)]
    exact ⟨fun z => .inr z, fun z => z.resolve_left (fun z => c ((nI_eq (b := 0) (by omega) (by decide)).mp z))⟩
theorem sel_iff {J : zMem} {T c b : Nat} {r f a p n : Int32} (hs : SimZ z_F z_F J 0 J T c b) : c_sel J 0 r f a p n ↔ c_mSel J r f a p n := by
  have h9 := hs.2.2.2.2.2.2.2.2
  unfold c_sel c_mSel
  constructor
  · rintro ⟨a1, a2, a3, a4, a5, a6, a7⟩
    obtain ⟨j, hj, rfl, cl, -⟩ := rd_of a1
    rw [cl] at a2
    obtain ⟨x, y, x1, x2, rfl, rfl⟩ := span_N.mp a7
    refine ⟨idle_iff.mpr ⟨j, hj, rfl, (free_iff (h9 j hj)).mp a2⟩, fun z => (cls_in (N := 4) (by decide)).mp z |>.elim a3 a4, fun z => (cls_in (N := 7) (by decide)).mp z |>.elim a5 a6, (isIn_N (by decide)).mpr ⟨x, x1, rfl⟩, ?_⟩
    rw [sub_n (by omega)]
    exact (isIn_N (by omega)).mpr ⟨y, by omega, rfl⟩
  · rintro ⟨a1, a2, a3, a4, a5⟩
    obtain ⟨j, hj, rfl, fr⟩ := idle_iff.mp a1
    have cl : (nI j).toNatClampNeg = j := nI_clamp (by omega)
    obtain ⟨x, hx, rfl⟩ := (isIn_N (by decide)).mp a4
    rw [sub_n (by omega)] at a5
    obtain ⟨y, hy, rfl⟩ := (isIn_N (by omega)).mp a5
    obtain ⟨f2, hf2, rfl⟩ := (isIn_N (by decide)).mp a2
    obtain ⟨q, hq, rfl⟩ := (isIn_N (by decide)).mp a3
    refine ⟨fun z => z.elim (nI_pos (by omega)) (nI_ge (b := 4) (by omega) (by omega)), ?_, nI_pos (by omega), nI_ge (b := 5) (by omega) (by omega), nI_pos (by omega), nI_ge (b := 8) (by omega) (by omega), span_N.mpr ⟨x, y, hx, by omega, rfl, rfl⟩⟩
    rw [cl]
    exact (free_iff (h9 j hj)).mpr fr
theorem Sim_sel1 {Z : Nat → Prop} {M Mr : zMem} {w T c b j f a x y : Nat} {v : Int32} (h : SimZ Z z_F M w Mr T c b) (hj : j < 4) (hon : Mr.1 24 0 0 (262 + j) = 1) (hf : f < 5) (ha : a < 8) (hx : x ≤ 31) (hy : x + y ≤ 32) (hT : T < 2147483648) : ∀ N, N ≤ 24 → (z_it (f_sel w (nI j) (nI f) (nI a) (nI x) (nI y) (r_lowest v (nI y))) N (0, M)).1 = (z_it (f_mSel j f a (nI x) (nI y) v) N (0, Mr)).1 ∧ SimZ Z z_F (z_it (f_sel w (nI j) (nI f) (nI a) (nI x) (nI y) (r_lowest v (nI y))) N (0, M)).2 w (z_it (f_mSel j f a (nI x) (nI y) v) N (0, Mr)).2 T c b
  | 0, _ => ⟨rfl, h⟩
  | N + 1, hN => by
    obtain ⟨i1, i2⟩ := Sim_sel1 (v := v) h hj hon hf ha hx hy hT N (by omega)
    have on1 : (z_it (f_mSel j f a (nI x) (nI y) v) N (0, Mr)).2.1 24 0 0 (262 + j) = 1 := (zf_sel1 (by omega)).trans hon
    rw [z_itS, z_itS]
    generalize z_it (f_sel w (nI j) (nI f) (nI a) (nI x) (nI y) (r_lowest v (nI y))) N (0, M) = S at *
    generalize z_it (f_mSel j f a (nI x) (nI y) v) N (0, Mr) = Q at *
    have hT2 := i2.2.2.2.1 N (by omega)
    obtain ⟨q1, q2⟩ := S_01 hT2
    obtain ⟨b4, -, -⟩ := T_bs hT2
    unfold f_sel f_mSel
    have ca : (nI a).toNatClampNeg = a := nI_clamp (by omega)
    rw [ca]
    have key : (¬ S.2.1 7 w N 0 = 0 ∧ S.2.1 7 w N 4 = -1 ∧ ¬ r_isReachedBy S.2 w N (nI j) = 0) ↔ (¬ Q.2.1 24 0 0 (454 + N) = 0 ∧ Q.2.1 24 0 0 (550 + N) = -1 ∧ ¬ r_reaches Q.2 j N = 0) := by
      rw [q1, b4, rb_has]
      rcases q2 with q2 | q2
      · exact ⟨fun z => (z.1 q2).elim, fun z => (z.1 q2).elim⟩
      · rw [(T_in hT2 q2).2.1]
        exact Iff.rfl
    by_cases cc : (¬ Q.2.1 24 0 0 (454 + N) = 0 ∧ Q.2.1 24 0 0 (550 + N) = -1 ∧ ¬ r_reaches Q.2 j N = 0)
    · rw [if_pos (key.mpr cc), if_pos cc]
      have hin := q2.resolve_left cc.1
      have pw : S_pw (Q.2.1 24 0 0) N := ⟨j, hj, on1, cc.2.2⟩
      have ei := e_is (v := v) i2.2.2.2.1 (show N < 24 by omega) hin hx hy
      by_cases m : c_mIs Q.2 (nI x) (nI y) v N
      · rw [if_pos (ei.mpr m), z_pbT m]
        exact ⟨by show S.1 + 1 = Q.1 + 1; rw [i1], Sim_deed i2 (by omega) hin hf hT pw ha true⟩
      · rw [if_neg (fun z => m (ei.mp z)), z_pbF m]
        exact ⟨by show S.1 + 0 = Q.1 + 0; rw [i1], Sim_deed i2 (by omega) hin hf hT pw ha false⟩
    · rw [if_neg (fun z => cc (key.mp z)), if_neg cc]
      exact ⟨i1, i2⟩
theorem two_select {J : zMem} {b : Nat} {r f a p n v : Int32} (h : SB J b) (hb : b < 2147000000) : z_two J 127 197 [.inl r, .inl f, .inl a, .inl p, .inl n, .inl v] b := by
  obtain ⟨T, c, hT, hc, hs⟩ := h.1
  have key := sel_iff (r := r) (f := f) (a := a) (p := p) (n := n) hs
  by_cases e : c_sel J 0 r f a p n
  · have em := key.mp e
    have same : ∀ q, (m_sel J 0 r f a p n v).1 24 0 0 q = J.1 24 0 0 q := fun q => (fw_0 (@fw_sel 0 J r f a p n v)).1 _ _ _ _ (by omega)
    have em2 : c_mSel (m_sel J 0 r f a p n v) r f a p n := by
      unfold c_mSel r_idle at *
      simp only [same]
      exact em
    obtain ⟨j, hj, rfl, fr⟩ := idle_iff.mp em.1
    obtain ⟨f2, hf2, rfl⟩ := (isIn_N (by decide)).mp em.2.1
    obtain ⟨q, hq, rfl⟩ := (isIn_N (by decide)).mp em.2.2.1
    obtain ⟨x, y, x1, x2, rfl, rfl⟩ := span_N.mp e.2.2.2.2.2.2
    have c1 : (nI j).toNatClampNeg = j := nI_clamp (by omega)
    have c2 : (nI f2).toNatClampNeg = f2 := nI_clamp (by omega)
    have c3 : (nI q).toNatClampNeg = q := nI_clamp (by omega)
    generalize eJ : m_sel J 0 (nI j) (nI f2) (nI q) (nI x) (nI y) v = J2 at *
    have hs3 : SimZ z_F z_F J 0 J2 T c b := Sim_R hs same
    obtain ⟨s1, s2⟩ := Sim_sel1 (v := v) hs3 hj ((same _).trans fr.1) (show f2 < 5 by omega) (show q < 8 by omega) x1 x2 (by omega) 24 (Nat.le_refl _)
    have s1' : (m_sel1 J 0 (nI j) (nI f2) (nI q) (nI x) (nI y) v).1 = (n_sel1 J2 j f2 q (nI x) (nI y) v).1 := s1
    have s2' : SimZ z_F z_F (m_sel1 J 0 (nI j) (nI f2) (nI q) (nI x) (nI y) v).2 0 (n_sel1 J2 j f2 q (nI x) (nI y) v).2 T c b := s2
    refine two_s (J2 := J2) (J3 := n_sel J2 j f2 q c (nI x) (nI y) v) h (v := .inl (n_sel1 J2 j f2 q (nI x) (nI y) v).1) (fun _ K hK => ?_) (fun _ K hK => ?_) ?_ fr_sel ⟨T, c + 1, hT, by omega, ?_⟩
    · refine w9_select (v := (m_sel1 J 0 (nI j) (nI f2) (nI q) (nI x) (nI y) v).1) (M2 := J2) (fun K2 q9 => s_sel (fun _ z => ?_) (fun _ => ?_) (fun z => (z e).elim)) ?_
      · have z3 := s2'.2.1.1
        rw [z3] at z
        exact nI_pos (by omega) z
      · rw [eJ]
        exact q9
      · rw [s1']
        exact hK
    · refine s_mSel (c := c) ((same 4).trans hs.2.1.2.1) (by omega) (fun _ => ?_) (fun z => (z em2).elim)
      rw [c1, c2, c3]
      exact hK
    · rw [← eJ]
      exact fw_0 fw_sel
    · have st := Sim_log (r := nI j) (k := 6) (n := (m_sel1 J 0 (nI j) (nI f2) (nI q) (nI x) (nI y) v).1) (Sim_cnt (k := 10) (x := 1) s2' (by omega)) (by omega)
      unfold m_sel at eJ
      rw [eJ, s1'] at st
      exact Sim_b st (by omega)
  · refine two_q h (v := .inl (-1)) (fun _ K hK => ?_) (fun _ K hK => s_mSel (c := c) hs.2.1.2.1 (by omega) (fun z => (e (key.mpr z)).elim) (fun _ => hK))
    exact w9_select (v := -1) (M2 := J) (fun K2 q => s_sel (fun z => (e z).elim) (fun z => (e z).elim) (fun _ => q)) hK
