/-! questions of a tag: tagOf, bits, fadesIn, open, jammed -/
theorem e_id {M Mr : zMem} {w T i : Nat} (h : S_T M w Mr T i) (h1 : Mr.1 24 0 0 (454 + i) = 1) : r_id M w i = r_idOf Mr i := by
  unfold r_id r_idOf
  rw [(T_in h h1).1]
theorem two_tagOf {J : zMem} {b : Nat} {t k : Int32} (h : SB J b) : z_two J 132 222 [.inl t, .inl k] b := by
  obtain ⟨T, c, hT, hc, hs⟩ := h.1
  obtain ⟨h1, h2, h3, h4, h5, h6, h7, h8, h9⟩ := hs
  by_cases ct : c_there J t
  · obtain ⟨j, hj, rfl, cl, it, hin⟩ := there_of h4 ct
    refine two_q h (v := .inl (r_mTagOf J j k)) (fun _ K hK => ?_) (fun _ K hK => s_mTagOf hj it hK)
    refine s9_tagOf (fun _ => ?_) (fun z => (z ct).elim)
    rw [cl]
    have hT2 := h4 j hj
    obtain ⟨t1, t2, t6, t7, t9, t10, t11, t12⟩ := T_in hT2 hin
    obtain ⟨b4, b5, -⟩ := T_bs hT2
    have hp := T_pw hT2 (h5 j hj (fun z => z)) hin
    have e0 : J.1 9 0 0 5 = J.1 24 0 0 0 := h1.1 0 (by omega)
    have fl : ∀ f, f < 5 → r_flag J 0 j (nI f) = r_fl J j f := fun f hf => (S_flag hf hT2 hin).1
    have e : r_tagTells J 0 j k (J.1 9 0 0 5) = r_mTagOf J j k := by
      unfold r_tagTells r_mTagOf
      by_cases c0 : k = 0
      · rw [if_pos (.inl c0)]
        refine Eq.trans ?_ (if_pos c0).symm
        rw [c0]
        exact fl 0 (by omega)
      refine Eq.trans ?_ (if_neg c0).symm
      by_cases c1 : k = 1
      · rw [if_pos (.inr (.inl c1))]
        refine Eq.trans ?_ (if_pos c1).symm
        rw [c1]
        exact fl 1 (by omega)
      refine Eq.trans ?_ (if_neg c1).symm
      by_cases c2 : k = 2
      · rw [if_pos (.inr (.inr (.inl c2)))]
        refine Eq.trans ?_ (if_pos c2).symm
        rw [c2]
        exact fl 2 (by omega)
      refine Eq.trans ?_ (if_neg c2).symm
      by_cases c3 : k = 3
      · rw [if_pos (.inr (.inr (.inr (.inl c3))))]
        refine Eq.trans ?_ (if_pos c3).symm
        rw [c3]
        exact fl 3 (by omega)
      refine Eq.trans ?_ (if_neg c3).symm
      by_cases c4 : k = 4
      · rw [if_pos (.inr (.inr (.inr (.inr c4))))]
        refine Eq.trans ?_ (if_pos c4).symm
        rw [c4]
        exact fl 4 (by omega)
      refine Eq.trans ?_ (if_neg c4).symm
      rw [if_neg (fun z => by
        rcases z with z | z | z | z | z
        · exact c0 z
        · exact c1 z
        · exact c2 z
        · exact c3 z
        · exact c4 z)]
      by_cases c5 : k = 5
      · rw [if_pos c5]
        refine Eq.trans ?_ (if_pos c5).symm
        exact hp.2.2.symm
      rw [if_neg c5]
      refine Eq.trans ?_ (if_neg c5).symm
      by_cases c6 : k = 6
      · rw [if_pos c6]
        exact b4.trans (if_pos c6).symm
      rw [if_neg c6]
      refine Eq.trans ?_ (if_neg c6).symm
      by_cases c7 : k = 7
      · rw [if_pos c7]
        exact b5.trans (if_pos c7).symm
      rw [if_neg c7]
      refine Eq.trans ?_ (if_neg c7).symm
      by_cases c8 : k = 8
      · rw [if_pos c8]
        exact t2.trans (if_pos c8).symm
      rw [if_neg c8]
      refine Eq.trans ?_ (if_neg c8).symm
      by_cases c9 : k = 9
      · rw [if_pos c9]
        exact t6.trans (if_pos c9).symm
      rw [if_neg c9]
      refine Eq.trans ?_ (if_neg c9).symm
      by_cases c10 : k = 10
      · rw [if_pos c10]
        exact t7.trans (if_pos c10).symm
      rw [if_neg c10]
      refine Eq.trans ?_ (if_neg c10).symm
      by_cases c11 : k = 11
      · rw [if_pos c11]
        refine Eq.trans ?_ (if_pos c11).symm
        have f1 : r_flag J 0 j 1 = r_fl J j 1 := fl 1 (by omega)
        rw [f1, e0]
        by_cases z : r_fl J j 1 = 1
        · rw [if_pos z, if_pos z, (t12 z).1]
        · rw [if_neg z, if_neg z]
      rw [if_neg c11]
      refine Eq.trans ?_ (if_neg c11).symm
      by_cases c12 : k = 12
      · rw [if_pos c12]
        refine Eq.trans ?_ (if_pos c12).symm
        rw [t9, e0]
      rw [if_neg c12]
      refine Eq.trans ?_ (if_neg c12).symm
      by_cases c13 : k = 13
      · rw [if_pos c13]
        exact (e_id hT2 hin).trans (if_pos c13).symm
      rw [if_neg c13]
      exact (if_neg c13).symm
    rw [e]
    exact hK
  · refine two_q h (v := .inl (-2)) (fun _ K hK => ?_) (fun _ K hK => ?_)
    · exact s9_tagOf (fun z => (ct z).elim) (fun _ => hK)
    · exact s_mTagOf0 (Classical.byContradiction (fun z => ct ((there_iff h4 t).mpr z))) hK
/-! bits of a memory -/
theorem low_bt : ∀ n, n ≤ 32 → ∀ i, i < 32 → bt (r_low (nI n)) i = decide (i < n) := by decide +kernel
theorem sub_n {a b : Nat} (h : b ≤ a) : nI a - nI b = nI (a - b) := pk_sub h
theorem e_bits (x : Int32) {p n : Nat} (hp : p ≤ 31) (hn : p + n ≤ 32) : (if nI n = 0 then 0 else z_ush (x <<< (nI p &&& 31)) (32 - nI n)) = (if nI n = 0 then 0 else z_ush x (nI 32 - nI p - nI n) &&& r_low (nI n)) := by
  by_cases c : nI n = 0
  · rw [if_pos c, if_pos c]
  · rw [if_neg c, if_neg c]
    have n1 : 1 ≤ n := by
      rcases Nat.eq_zero_or_pos n with e | e
      · subst e
        exact (c rfl).elim
      · exact e
    have e1 : (32 : Int32) - nI n = nI (32 - n) := sub_n (a := 32) (by omega)
    rw [e1, sub_n (show p ≤ 32 by omega), sub_n (show n ≤ 32 - p by omega)]
    unfold z_ush
    refine b_ext (fun i hi => ?_)
    rw [b_and, b_ushr _ (by omega), b_ushr _ (by omega), low_bt n (by omega) i hi]
    by_cases hin : i < n
    · rw [b_shl p (by omega) x (by omega), decide_eq_true hin, Bool.and_true, decide_eq_true (show p ≤ 32 - n + i by omega), Bool.true_and]
      congr 1
      omega
    · rw [b_big (show 32 ≤ 32 - n + i by omega), decide_eq_false hin, Bool.and_false]
theorem e_span {M Mr : zMem} {w i p n : Nat} (h : M.1 7 w i 1 = Mr.1 24 0 0 (478 + i)) (hp : p ≤ 31) (hn : p + n ≤ 32) : r_span M w i (nI p) (nI n) = r_mBits Mr i (nI p) (nI n) := by
  unfold r_span r_mBits
  rw [h]
  exact e_bits _ hp hn
/-- p and n of a span: what both sides ask -/
theorem span_N {p n : Int32} : ¬ r_isSpan p n = 0 ↔ ∃ a b, a ≤ 31 ∧ a + b ≤ 32 ∧ p = nI a ∧ n = nI b := by
  unfold r_isSpan
  constructor
  · intro h
    split at h
    · rename_i c
      obtain ⟨c1, c2, c3, c4⟩ := c
      obtain ⟨a, ha, rfl⟩ := nI_of c1
      obtain ⟨b, hb, rfl⟩ := nI_of c3
      have c2 : ¬ nI 32 ≤ nI a := c2
      rw [nI_leI (by decide) ha] at c2
      have e : (32 : Int32) - nI a = nI (32 - a) := sub_n (a := 32) (by omega)
      rw [e] at c4
      have c4 : ¬ nI (32 - a) < nI b := c4
      rw [nI_ltI (by omega) hb] at c4
      exact ⟨a, b, by omega, by omega, rfl, rfl⟩
    · exact (h rfl).elim
  · rintro ⟨a, b, ha, hb, rfl, rfl⟩
    have e : (32 : Int32) - nI a = nI (32 - a) := sub_n (a := 32) (by omega)
    rw [e, if_pos ⟨nI_pos (by omega), nI_ge (b := 32) (by omega) (by omega), nI_pos (by omega), nI_nlt (by omega) (by omega)⟩]
    decide
theorem mspan_N {p n : Int32} {A B : Nat} (hA : A ≤ 1) (hB : B ≤ 32) : (¬ r_isIn p 0 (nI 31) = 0 ∧ ¬ r_isIn n (nI A) (nI B) = 0 ∧ ¬ nI 32 < p + n) ↔ ∃ a b, a ≤ 31 ∧ A ≤ b ∧ b ≤ B ∧ a + b ≤ 32 ∧ p = nI a ∧ n = nI b := by
  constructor
  · rintro ⟨h1, h2, h3⟩
    obtain ⟨a, ha, rfl⟩ := (isIn_N (by decide)).mp h1
    obtain ⟨b, b1, b2, rfl⟩ := z_isInR (by omega) (by omega) h2
    rw [nI_add, nI_ltI (by decide) (by omega)] at h3
    exact ⟨a, b, ha, b1, b2, by omega, rfl, rfl⟩
  · rintro ⟨a, b, ha, b1, b2, hab, rfl, rfl⟩
    refine ⟨(isIn_N (by decide)).mpr ⟨a, ha, rfl⟩, ?_, ?_⟩
    · rw [z_isInR0 b1 b2 (by omega)]
      decide
    · rw [nI_add]
      exact nI_nlt (by omega) (by omega)
theorem two_bits {J : zMem} {b : Nat} {t p n : Int32} (h : SB J b) : z_two J 133 223 [.inl t, .inl p, .inl n] b := by
  obtain ⟨T, c, hT, hc, hs⟩ := h.1
  obtain ⟨h1, h2, h3, h4, h5, h6, h7, h8, h9⟩ := hs
  have key : c_bits J t p n ↔ c_mBits J t p n := by
    unfold c_bits c_mBits
    have e := mspan_N (p := p) (n := n) (A := 1) (B := 31) (by omega) (by omega)
    constructor
    · rintro ⟨a1, a2, a3, a4⟩
      obtain ⟨x, y, x1, x2, rfl, rfl⟩ := span_N.mp a4
      have a2 : ¬ nI y < nI 1 := a2
      rw [nI_ltI (by omega) (by decide)] at a2
      rw [nI_ltI (by decide) (by omega)] at a3
      exact ⟨(there_iff h4 t).mp a1, e.mpr ⟨x, y, x1, by omega, by omega, x2, rfl, rfl⟩⟩
    · rintro ⟨a1, a2⟩
      obtain ⟨x, y, x1, y1, y2, x2, rfl, rfl⟩ := e.mp a2
      exact ⟨(there_iff h4 t).mpr a1, nI_nlt (b := 1) (by omega) (by omega), nI_nlt (by omega) (by omega), span_N.mpr ⟨x, y, x1, x2, rfl, rfl⟩⟩
  by_cases e : c_bits J t p n
  · obtain ⟨j, hj, e1, cl, it, hin⟩ := there_of h4 e.1
    obtain ⟨x, y, x1, x2, e2, e3⟩ := span_N.mp e.2.2.2
    refine two_q h (v := .inl (r_mBits J j p n)) (fun _ K hK => ?_) (fun _ K hK => ?_)
    · refine s9_bits (fun _ => ?_) (fun z => (z e).elim)
      rw [e1, cl, e2, e3, e_span (T_in (h4 j hj) hin).1 x1 x2, ← e2, ← e3]
      exact hK
    · refine s_mBitsQ (fun _ => ?_) (fun z => (z (key.mp e)).elim)
      rw [e1, cl]
      exact hK
  · refine two_q h (v := .inl (-1)) (fun _ K hK => ?_) (fun _ K hK => ?_)
    · exact s9_bits (fun z => (e z).elim) (fun _ => hK)
    · exact s_mBitsQ (fun z => (e (key.mpr z)).elim) (fun _ => hK)
theorem two_fadesIn {J : zMem} {b : Nat} {t f : Int32} (h : SB J b) : z_two J 150 260 [.inl t, .inl f] b := by
  obtain ⟨T, c, hT, hc, hs⟩ := h.1
  obtain ⟨h1, h2, h3, h4, h5, h6, h7, h8, h9⟩ := hs
  by_cases ct : c_there J t
  · by_cases cf : r_isIn f 0 (nI 4) = 0
    · have e2 := (cls_in (N := 4) (by decide)).mp cf
      refine two_q h (v := .inl (-1)) (fun _ K hK => ?_) (fun _ K hK => s_mFadesIn0 (.inr cf) hK)
      exact s9_fadesIn (fun _ x y => (e2.elim x (fun z => Int32.not_le.mpr y z)).elim) (fun _ => hK)
    · obtain ⟨j, hj, rfl, cl, it, hin⟩ := there_of h4 ct
      obtain ⟨g, hg, rfl⟩ := (isIn_N (by decide)).mp cf
      refine two_q h (v := .inl (r_mFadesIn J j g)) (fun _ K hK => ?_) (fun _ K hK => s_mFadesIn hj (by omega) it hK)
      refine s9_fadesIn (fun _ _ _ => ?_) (fun z => ?_)
      · rw [cl]
        have hT2 := h4 j hj
        obtain ⟨t1, t2, t6, t7, t9, t10, t11, t12⟩ := T_in hT2 hin
        obtain ⟨fl, fl2⟩ := S_flag (f := g) (by omega) hT2 hin
        have e0 : J.1 9 0 0 5 = J.1 24 0 0 0 := h1.1 0 (by omega)
        have es : J.1 9 0 0 7 = J.1 24 0 0 2 := h1.1 2 (by omega)
        have el : J.1 9 0 0 8 = J.1 24 0 0 3 := h1.1 3 (by omega)
        obtain ⟨s, s1, s2, s3⟩ := h1.2.2.1
        obtain ⟨l, l1, l2, l3⟩ := h1.2.2.2
        have e : r_ticksToFade J 0 j (nI g) = r_mFadesIn J j g := by
          unfold r_ticksToFade r_mFadesIn
          rw [fl]
          by_cases z : r_fl J j g = 0
          · rw [if_pos z, if_pos z]
          rw [if_neg z, if_neg z]
          have z1 := fl2.resolve_left z
          have pos : ∀ (x : Int32), ((if 1 < x - J.1 24 0 0 0 then x - J.1 24 0 0 0 else 1 : Int32)) = (if 1 ≤ x - J.1 24 0 0 0 then x - J.1 24 0 0 0 else 1) := by
            intro x
            by_cases y : 1 < x - J.1 24 0 0 0
            · rw [if_pos y, if_pos (Int32.le_of_lt y)]
            · rw [if_neg y]
              by_cases y2 : 1 ≤ x - J.1 24 0 0 0
              · rw [if_pos y2]
                exact Int32.le_antisymm y2 (Int32.not_lt.mp y)
              · rw [if_neg y2]
          have nn : ∀ a b, a ≤ 20000 → b ≤ 20000 → ¬ nI a + nI b = -1 := fun a b ha hb z => by
            rw [nI_add] at z
            exact absurd (z ▸ nI_pos (n := a + b) (by omega)) (by decide)
          by_cases g1 : g = 1
          · subst g1
            have t13 := t12 z1
            obtain ⟨t13, q, q1, q2⟩ := t13
            have at1 : r_fadesAt J 0 j (nI 1) = r_mAt J j 1 := by
              unfold r_fadesAt r_mAt
              rw [if_pos (show nI 1 = 1 from rfl), if_pos rfl, t13, es]
            rw [at1, if_neg (show ¬ r_mAt J j 1 = -1 by
              unfold r_mAt
              rw [if_pos rfl, q2, s3]
              exact nn _ _ (by omega) (by omega)), e0, pos, if_neg (show ¬ (1 = 0 ∨ (¬ 1 = 1 ∧ J.1 24 0 0 (670 + j) = -1)) by omega)]
          · have ng1 : ¬ nI g = 1 := fun y => g1 ((nI_eq (b := 1) (by omega) (by decide)).mp y)
            by_cases y : g = 0 ∨ J.1 24 0 0 (670 + j) = -1
            · have at1 : r_fadesAt J 0 j (nI g) = -1 := by
                unfold r_fadesAt
                rw [if_neg ng1, t9, if_pos (y.imp (fun y => by rw [y]; rfl) id)]
              rw [if_pos at1, if_pos (y.imp id (fun y => ⟨g1, y⟩))]
            · have y0 : ¬ nI g = 0 := fun q => y (.inl ((nI_eq (b := 0) (by omega) (by decide)).mp q))
              have at1 : r_fadesAt J 0 j (nI g) = r_mAt J j g := by
                unfold r_fadesAt r_mAt
                rw [if_neg ng1, if_neg g1, t9, if_neg (fun q => q.elim y0 (fun q => y (.inr q))), el]
              obtain ⟨q, q1, q2⟩ := t11.resolve_left (fun q => y (.inr q))
              rw [at1, if_neg (show ¬ r_mAt J j g = -1 by
                unfold r_mAt
                rw [if_neg g1, q2, l3]
                exact nn _ _ (by omega) (by omega)), e0, pos, if_neg (show ¬ (g = 0 ∨ (¬ g = 1 ∧ J.1 24 0 0 (670 + j) = -1)) from fun q => y (q.imp id (fun q => q.2)))]
        rw [e]
        exact hK
      · exfalso
        rcases z with z | z | z
        · exact z ct
        · exact nI_pos (by omega) z
        · exact nI_ge (by omega) (by omega) z
  · refine two_q h (v := .inl (-1)) (fun _ K hK => ?_) (fun _ K hK => ?_)
    · exact s9_fadesIn (fun z => (ct z).elim) (fun _ => hK)
    · exact s_mFadesIn0 (.inl (Classical.byContradiction (fun z => ct ((there_iff h4 t).mpr z)))) hK
theorem two_open {J : zMem} {b : Nat} {s v : Int32} (h : SB J b) : z_two J 152 263 [.inl s, .inl v] b := by
  obtain ⟨T, c, hT, hc, hs⟩ := h.1
  obtain ⟨h1, h2, h3, h4, h5, h6, h7, h8, h9⟩ := hs
  by_cases e : r_isIn s 0 (nI 3) = 0 ∨ r_isIn v 0 1 = 0
  · refine two_q h (v := .inl (-1)) (fun _ K hK => ?_) (fun _ K hK => s_mOpen0 e hK)
    refine w9_open (v := -1) (M2 := J) (fun K2 q => s_powered0 ?_ q) hK
    rcases e with e | e
    · rcases (cls_in (N := 3) (by decide)).mp e with z | z
      · exact .inl z
      · exact .inr (.inl z)
    · rcases (cls_in (N := 1) (by decide)).mp e with z | z
      · exact .inr (.inr (.inl z))
      · refine .inr (.inr (.inr (fun y => ?_)))
        exact Int32.not_le.mpr (Int32.lt_of_le_of_lt y (by decide)) z
  · have e1 : ¬ r_isIn s 0 (nI 3) = 0 := fun z => e (.inl z)
    have e2 : ¬ r_isIn v 0 1 = 0 := fun z => e (.inr z)
    obtain ⟨j, hj, rfl⟩ := (isIn_N (by decide)).mp e1
    obtain ⟨x, hx, rfl⟩ := (isIn_N (N := 1) (by decide)).mp e2
    refine two_q h (v := .inl (r_open J j (nI x) 24)) (fun _ K hK => ?_) (fun _ K hK => s_mOpen (by omega) e2 hK)
    refine w9_open (v := r_powered J 0 (nI j) (nI x)) (M2 := J) (fun K2 q => s_powered1 (nI_pos (by omega)) (nI_ge (b := 4) (by omega) (by omega)) (nI_pos (by omega)) (nI_le (b := 1) (by omega) (by omega)) q) ?_
    have ee : r_open J j (nI x) 24 = r_powered J 0 (nI j) (nI x) := by
      unfold r_powered
      have gen : ∀ n, n ≤ 24 → r_open J j (nI x) n = z_mk (fun i => decide (¬ J.1 7 0 i 0 = 0 ∧ ¬ r_hasPower J 0 i = 0 ∧ r_flag J 0 i (nI j) = nI x)) n := by
        intro n
        induction n with
        | zero => intro _; rfl
        | succ n ih =>
          intro hn
          rw [r_open, z_mk, ih (by omega)]
          obtain ⟨q1, q2⟩ := S_01 (h4 n (by omega))
          have key : p_open J j (nI x) n ↔ (¬ J.1 7 0 n 0 = 0 ∧ ¬ r_hasPower J 0 n = 0 ∧ r_flag J 0 n (nI j) = nI x) := by
            unfold p_open
            rw [q1]
            rcases q2 with q2 | q2
            · rw [q2]
              exact ⟨fun z => absurd z.1 (by decide), fun z => (z.1 rfl).elim⟩
            · have hp := T_pw (h4 n (by omega)) (h5 n (by omega) (fun z => z)) q2
              obtain ⟨f1, -⟩ := S_flag (f := j) (by omega) (h4 n (by omega)) q2
              rw [q2, f1, hp.2.1, hasPw_S, z_pb0, Classical.not_not]
              exact ⟨fun z => ⟨by decide, z.2⟩, fun z => ⟨rfl, z.2⟩⟩
          by_cases z : p_open J j (nI x) n
          · rw [if_pos z, decide_eq_true (key.mp z)]
            rfl
          · rw [if_neg z, decide_eq_false (fun y => z (key.mpr y))]
            exact (b_or0 _).symm
      exact gen 24 (Nat.le_refl _)
    rw [← ee]
    exact hK
