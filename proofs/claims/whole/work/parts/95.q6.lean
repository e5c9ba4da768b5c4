/-! questions of spans: values, sharp, least, apart, both -/
theorem z_pbE {p q : Prop} (h : p ↔ q) : z_pb p = z_pb q := by
  by_cases c : p
  · rw [z_pbT c, z_pbT (h.mp c)]
  · rw [z_pbF c, z_pbF (fun z => c (h.mpr z))]
theorem pb_nI (p : Prop) : ∃ k, k ≤ 1 ∧ z_pb p = nI k ∧ (k = 1 ↔ p) := by
  by_cases c : p
  · exact ⟨1, by omega, z_pbT c, ⟨fun _ => c, fun _ => rfl⟩⟩
  · exact ⟨0, by omega, z_pbF c, ⟨fun z => by omega, fun z => (c z).elim⟩⟩
theorem e_spT {M Mr : zMem} {w T i a b : Nat} (h : S_tags M w Mr T) (hi : i < 24) (h1 : Mr.1 24 0 0 (454 + i) = 1) (ha : a ≤ 31) (hab : a + b ≤ 32) : r_span M w i (nI a) (nI b) = r_mBits Mr i (nI a) (nI b) := e_span (T_in (h i hi) h1).1 ha hab
theorem e_bef {M Mr : zMem} {w T t a b : Nat} (h : S_tags M w Mr T) (ht : t < 24) (h1 : Mr.1 24 0 0 (454 + t) = 1) (ha : a ≤ 31) (hab : a + b ≤ 32) : r_bef M w t (nI a) (nI b) = 0 ↔ p_val Mr (nI a) (nI b) t t := by
  unfold r_bef p_val
  rw [z_pb0]
  have one : ∀ o, o < t → (p_bef M w t (nI a) (nI b) o ↔ ¬ (Mr.1 24 0 0 (454 + o) = 0 ∨ ¬ r_mBits Mr o (nI a) (nI b) = r_mBits Mr t (nI a) (nI b))) := fun o ho => by
    obtain ⟨q1, q2⟩ := S_01 (h o (by omega))
    unfold p_bef
    rw [q1]
    rcases q2 with q2 | q2
    · exact ⟨fun z => (z.1 q2).elim, fun z => (z (.inl q2)).elim⟩
    · rw [e_spT h (by omega) q2 ha hab, e_spT h ht h1 ha hab]
      exact ⟨fun z y => y.elim z.1 (fun y => y z.2), fun z => ⟨fun y => z (.inl y), Classical.byContradiction (fun y => z (.inr y))⟩⟩
  constructor
  · intro z o ho
    exact Classical.byContradiction (fun y => z ⟨o, ho, (one o ho).mpr y⟩)
  · rintro z ⟨o, ho, y⟩
    exact (one o ho).mp y (z o ho)
theorem e_valB {M Mr : zMem} {w T t a b : Nat} (h : S_tags M w Mr T) (ht : t < 24) (ha : a ≤ 31) (hab : a + b ≤ 32) : (¬ M.1 7 w t 0 = 0 ∧ r_bef M w t (nI a) (nI b) = 0) ↔ (¬ Mr.1 24 0 0 (454 + t) = 0 ∧ p_val Mr (nI a) (nI b) t t) := by
  obtain ⟨q1, q2⟩ := S_01 (h t ht)
  rw [q1]
  rcases q2 with q2 | q2
  · rw [q2]
    exact ⟨fun z => (z.1 rfl).elim, fun z => (z.1 rfl).elim⟩
  · rw [e_bef h ht q2 ha hab]
theorem e_val {M Mr : zMem} {w T a b : Nat} (h : S_tags M w Mr T) (ha : a ≤ 31) (hab : a + b ≤ 32) : ∀ n, n ≤ 24 → r_cVal M w (nI a) (nI b) n = r_mVal Mr (nI a) (nI b) n
  | 0, _ => rfl
  | n + 1, hn => by rw [r_cVal, r_mVal, e_val h ha hab n (by omega), z_pbE (e_valB h (by omega) ha hab)]
theorem two_values {J : zMem} {b : Nat} {p n : Int32} (h : SB J b) : z_two J 149 259 [.inl p, .inl n] b := by
  obtain ⟨T, c, hT, hc, hs⟩ := h.1
  obtain ⟨h1, h2, h3, h4, h5, h6, h7, h8, h9⟩ := hs
  have e := mspan_N (p := p) (n := n) (A := 1) (B := 32) (by omega) (by omega)
  by_cases cv : c_mValues p n
  · obtain ⟨x, y, x1, y1, y2, x2, rfl, rfl⟩ := e.mp cv
    refine two_q h (v := .inl (r_mVal J (nI x) (nI y) 24)) (fun _ K hK => ?_) (fun _ K hK => s_mValues (fun _ => hK) (fun z => (z cv).elim))
    refine s9_values (fun _ _ => ?_) (fun z => ?_)
    · rw [e_val h4 x1 x2 24 (Nat.le_refl _)]
      exact hK
    · exfalso
      rcases z with z | z
      · exact nI_nlt (b := 1) (by omega) (by omega) z
      · exact span_N.mpr ⟨x, y, x1, x2, rfl, rfl⟩ z
  · refine two_q h (v := .inl (-1)) (fun _ K hK => ?_) (fun _ K hK => s_mValues (fun z => (cv z).elim) (fun _ => hK))
    refine s9_values (fun z1 z2 => (cv ?_).elim) (fun _ => hK)
    obtain ⟨x, y, x1, x2, rfl, rfl⟩ := span_N.mp z2
    have z1 : ¬ nI y < nI 1 := z1
    rw [nI_ltI (by omega) (by decide)] at z1
    exact e.mpr ⟨x, y, x1, by omega, by omega, x2, rfl, rfl⟩
/-- counts step by step, and the least span -/
theorem pb_ct {P : Nat → Prop} {F : Nat → Int32} (p : Nat → Bool) (h0 : F 0 = 0) (hs : ∀ n, F (n + 1) = F n + z_pb (P n)) (hp : ∀ n, n < 24 → (P n ↔ p n = true)) : F 24 = nI (fb_ct p 24) := by
  rw [← z_ctN]
  refine ct_of h0 hs 24 (fun n hn => ?_)
  by_cases c : P n
  · rw [z_pbT c, if_pos ((hp n hn).mp c)]
  · rw [z_pbF c, if_neg (fun z => c ((hp n hn).mpr z))]
theorem ct_subE {p q : Nat → Bool} : ∀ {n : Nat}, (∀ k, k < n → p k = true → q k = true) → fb_ct p n = fb_ct q n → ∀ k, k < n → q k = true → p k = true
  | 0, _, _, k, hk, _ => by omega
  | n + 1, h, e, k, hk, hq => by
    rw [fb_ct_succ, fb_ct_succ] at e
    have hl := fb_ct_sub (p := p) (q := q) (n := n) (fun k hk => h k (by omega))
    have hn := h n (by omega)
    by_cases c : p n = true
    · rw [if_pos c, if_pos (hn c)] at e
      rcases Nat.lt_or_ge k n with l | l
      · exact ct_subE (n := n) (fun k hk => h k (by omega)) (by omega) k l hq
      · have : k = n := by omega
        subst this
        exact c
    · rw [if_neg c] at e
      by_cases d : q n = true
      · rw [if_pos d] at e
        omega
      · rw [if_neg d] at e
        rcases Nat.lt_or_ge k n with l | l
        · exact ct_subE (n := n) (fun k hk => h k (by omega)) (by omega) k l hq
        · have : k = n := by omega
          subst this
          exact (d hq).elim
theorem lex_of {D E : Nat → Nat → Prop} {n p : Nat} (h : p_lexC D n p) (hDE : ∀ n p, p < 32 → p + n ≤ 32 → (D n p ↔ E n p)) (h0 : ¬ E 0 0 → ¬ E 0 32) : p_lex E n p := by
  obtain ⟨a1, a2, a3, a4, a5, a6⟩ := h
  refine ⟨a1, a3, (hDE n p a2 a3).mp a4, fun n2 p2 b1 b2 b3 => ?_, fun p2 b1 b3 => a6 p2 b1 ((hDE n p2 (by omega) (by omega)).mpr b3)⟩
  rcases Nat.lt_or_ge p2 32 with l | l
  · exact a5 n2 p2 b1 l b2 ((hDE n2 p2 l b2).mpr b3)
  · obtain rfl : p2 = 32 := by omega
    obtain rfl : n2 = 0 := by omega
    exact h0 (fun z => a5 0 0 b1 (by omega) (by omega) ((hDE 0 0 (by omega) (by omega)).mpr z)) b3
theorem lex_one {E : Nat → Nat → Prop} {n p n2 p2 : Nat} (h : p_lex E n p) (h2 : p_lex E n2 p2) : n = n2 ∧ p = p2 := by
  obtain ⟨a1, a2, a3, a4, a5⟩ := h
  obtain ⟨b1, b2, b3, b4, b5⟩ := h2
  rcases Nat.lt_trichotomy n n2 with l | l | l
  · exact (b4 n p l a2 a3).elim
  · subst l
    rcases Nat.lt_trichotomy p p2 with l | l | l
    · exact (b5 p l a3).elim
    · exact ⟨rfl, l⟩
    · exact (a5 p2 l b3).elim
  · exact (a4 n2 p2 l b2 b3).elim
theorem lex_ex {D : Nat → Nat → Prop} (h : ∃ n p, n ≤ 32 ∧ p < 32 ∧ p + n ≤ 32 ∧ D n p) : ∃ n p, p_lexC D n p := by
  obtain ⟨n, ⟨p, h1⟩, h2⟩ := pk_least (fun n => ∃ p, n ≤ 32 ∧ p < 32 ∧ p + n ≤ 32 ∧ D n p) h
  obtain ⟨p, h3, h4⟩ := pk_least (fun p => n ≤ 32 ∧ p < 32 ∧ p + n ≤ 32 ∧ D n p) ⟨p, h1⟩
  exact ⟨n, p, h3.1, h3.2.1, h3.2.2.1, h3.2.2.2, fun n2 p2 a b c d => h2 n2 a ⟨p2, by omega, b, c, d⟩, fun p2 a d => h4 p2 a ⟨h3.1, by have := h3.2.1; omega, by have := h3.2.2.1; omega, d⟩⟩
theorem told_np : ∀ n, n < 33 → ∀ p, p < 32 → r_told (nI n <<< (nI 6 &&& 31) ||| nI p) 0 = nI n ∧ r_told (nI n <<< (nI 6 &&& 31) ||| nI p) 1 = nI p ∧ ¬ nI n <<< (nI 6 &&& 31) ||| nI p = -1 := by decide +kernel
theorem bits_0 {M : zMem} {i : Nat} {p : Int32} : r_mBits M i p (nI 0) = 0 := if_pos rfl
theorem e_mThere {M : zMem} {w T : Nat} {Mr : zMem} (h : S_tags M w Mr T) : r_cThere M w 24 = r_mThere Mr 24 := by
  rw [e_there h]
  refine ct_of rfl (fun n => rfl) 24 (fun n hn => ?_)
  by_cases c : M.1 7 w n 0 = 0
  · rw [if_pos c, decide_eq_false (fun z => z c)]
    rfl
  · rw [if_neg c, decide_eq_true c]
    rfl
theorem e_unl {M Mr : zMem} {w T a b : Nat} (h : S_tags M w Mr T) (ha : a ≤ 31) (hab : a + b ≤ 32) : ¬ r_unl M w (nI a) (nI b) = 0 ↔ r_mVal Mr (nI a) (nI b) 24 = r_mThere Mr 24 := by
  unfold r_unl
  rw [z_pb0, Classical.not_not, ← e_mThere h, ← e_val h ha hab 24 (Nat.le_refl _)]
  let p : Nat → Bool := fun t => @decide (¬ M.1 7 w t 0 = 0 ∧ r_bef M w t (nI a) (nI b) = 0) (Classical.propDecidable _)
  let q : Nat → Bool := fun t => decide (¬ M.1 7 w t 0 = 0)
  have e1 : r_cVal M w (nI a) (nI b) 24 = nI (fb_ct p 24) := pb_ct p rfl (fun n => rfl) (fun n _ => (@decide_eq_true_iff _ (Classical.propDecidable _)).symm)
  have e2 : r_cThere M w 24 = nI (fb_ct q 24) := by
    rw [← z_ctN]
    refine ct_of rfl (fun n => rfl) 24 (fun n hn => ?_)
    by_cases c : M.1 7 w n 0 = 0
    · rw [if_pos c, if_neg (fun z => (show ¬ M.1 7 w n 0 = 0 from of_decide_eq_true z) c)]
    · rw [if_neg c, if_pos (decide_eq_true c)]
  have b1 := fb_ct_le p 24
  have b2 := fb_ct_le q 24
  rw [e1, e2, nI_eq (by omega) (by omega)]
  have sub : ∀ k, k < 24 → p k = true → q k = true := fun k _ z => decide_eq_true ((@decide_eq_true_iff _ (Classical.propDecidable _)).mp z).1
  unfold p_alike
  constructor
  · intro z
    refine fb_ct_cong (fun k hk => ?_)
    cases hq : q k with
    | false =>
      cases hp : p k with
      | false => rfl
      | true => rw [sub k hk hp] at hq; exact absurd hq (by decide)
    | true => exact (@decide_eq_true_iff _ (Classical.propDecidable _)).mpr ⟨of_decide_eq_true hq, Classical.byContradiction (fun y => z k hk ⟨of_decide_eq_true hq, y⟩)⟩
  · rintro z t ht ⟨y1, y2⟩
    have := ct_subE sub z t ht (decide_eq_true y1)
    exact y2 ((@decide_eq_true_iff _ (Classical.propDecidable _)).mp this).2
theorem val_32 {Mr : zMem} : ∀ n, r_mVal Mr (nI 32) (nI 0) n = r_mVal Mr (nI 0) (nI 0) n
  | 0 => rfl
  | n + 1 => by
    rw [r_mVal, r_mVal, val_32 n]
    refine congrArg _ (z_pbE ?_)
    unfold p_val
    simp only [bits_0]
theorem two_sharp {J : zMem} {b : Nat} {k : Int32} (h : SB J b) : z_two J 148 258 [.inl k] b := by
  obtain ⟨T, c, hT, hc, hs⟩ := h.1
  obtain ⟨h1, h2, h3, h4, h5, h6, h7, h8, h9⟩ := hs
  have eT := e_mThere h4
  by_cases c0 : r_isIn k 0 (nI 2) = 0 ∨ r_mThere J 24 = 0
  · refine two_q h (v := .inl (-1)) (fun _ K hK => ?_) (fun _ K hK => s_mSharp0 c0 hK)
    have bad : ¬ (¬ r_cThere J 0 24 = 0 ∧ ¬ k < 0 ∧ k ≤ nI 2) := by
      rintro ⟨a1, a2, a3⟩
      rcases c0 with c0 | c0
      · obtain ⟨j, hj, rfl⟩ := nI_of a2
        rw [nI_leI hj (by decide)] at a3
        exact (isIn_N (by decide)).mpr ⟨j, a3, rfl⟩ c0
      · exact a1 (eT.trans c0)
    refine w9_sharp (v := -1) (M2 := J) (fun K2 q => s_sharpTold (x := 0) (fun z => (bad z).elim) (fun a1 a2 a3 _ => (bad ⟨a1, a2, a3⟩).elim) (fun _ => q)) hK
  · have c1 : ¬ r_isIn k 0 (nI 2) = 0 := fun z => c0 (.inl z)
    have c2 : ¬ r_mThere J 24 = 0 := fun z => c0 (.inr z)
    obtain ⟨x, hx, rfl⟩ := (isIn_N (by decide)).mp c1
    have hDE : ∀ n p, p < 32 → p + n ≤ 32 → (¬ r_unl J 0 (nI p) (nI n) = 0 ↔ r_mVal J (nI p) (nI n) 24 = r_mThere J 24) := fun n p a b => e_unl h4 (by omega) b
    have h0 : ¬ r_mVal J (nI 0) (nI 0) 24 = r_mThere J 24 → ¬ r_mVal J (nI 32) (nI 0) 24 = r_mThere J 24 := fun z => by
      rw [val_32]
      exact z
    have ncond : ¬ (r_cThere J 0 24 = 0 ∨ nI x < 0 ∨ nI 2 < nI x) := fun z => by
      rcases z with z | z | z
      · exact c2 (eT.symm.trans z)
      · exact nI_pos (by omega) z
      · exact nI_nlt hx (by omega) z
    by_cases ex : ∃ n p, n ≤ 32 ∧ p < 32 ∧ p + n ≤ 32 ∧ ¬ r_unl J 0 (nI p) (nI n) = 0
    · obtain ⟨n, p, hl⟩ := lex_ex ex
      have hl2 := lex_of hl hDE h0
      obtain ⟨t0, t1, tm⟩ := told_np n (by have := hl.1; omega) p hl.2.1
      refine two_q h (v := .inl (if nI x = 0 then nI n else if nI x = 1 then nI p else r_mThere J 24)) (fun _ K hK => ?_) (fun _ K hK => ?_)
      · refine w9_sharp (M2 := J) (fun K2 q => s_sharpTold (x := nI n <<< (nI 6 &&& 31) ||| nI p) (fun _ K3 q3 => s_sharpSpan (fun n2 p2 h2 => ?_) (fun z => ?_)) (fun _ _ _ _ => ?_) (fun z => ?_)) hK
        · obtain ⟨e1, e2⟩ := lex_one hl2 (lex_of h2 hDE h0)
          subst e1 e2
          exact q3
        · obtain ⟨n3, p3, b1, b2, b3, b4⟩ := ex
          exact (b4 (z n3 p3 b1 b2 b3)).elim
        · rcases (show x = 0 ∨ x = 1 ∨ x = 2 by omega) with rfl | rfl | rfl
          · rw [if_pos (show nI 0 = 0 from rfl)] at q
            rw [if_neg (by decide)]
            exact t0.symm ▸ q
          · rw [if_neg (by decide), if_pos (show nI 1 = 1 from rfl)] at q
            rw [if_neg (by decide)]
            exact t1.symm ▸ q
          · rw [if_neg (by decide), if_neg (by decide)] at q
            rw [if_pos rfl, eT]
            exact q
        · exfalso
          rcases z with z | z | z | z
          · exact ncond (.inl z)
          · exact ncond (.inr (.inl z))
          · exact ncond (.inr (.inr z))
          · exact tm z
      · refine s_mSharp c1 c2 (fun n2 p2 h2 => ?_) (fun z => (z n p hl.1 hl.2.2.1 hl2.2.2.1).elim)
        obtain ⟨e1, e2⟩ := lex_one hl2 h2
        subst e1 e2
        exact hK
    · refine two_q h (v := .inl (-1)) (fun _ K hK => ?_) (fun _ K hK => ?_)
      · refine w9_sharp (v := -1) (M2 := J) (fun K2 q => s_sharpTold (x := -1) (fun _ K3 q3 => s_sharpSpan (fun n p h2 => ?_) (fun _ => q3)) (fun _ _ _ z => (z rfl).elim) (fun _ => q)) hK
        obtain ⟨a1, a2, a3, a4, -⟩ := h2
        exact (ex ⟨n, p, a1, a2, a3, a4⟩).elim
      · refine s_mSharp c1 c2 (fun n p h2 => ?_) (fun _ => hK)
        obtain ⟨a1, a2, a3, -⟩ := h2
        exfalso
        rcases Nat.lt_or_ge p 32 with l | l
        · exact ex ⟨n, p, a1, l, a2, (hDE n p l a2).mpr a3⟩
        · obtain rfl : p = 32 := by omega
          obtain rfl : n = 0 := by omega
          rw [val_32] at a3
          exact ex ⟨0, 0, by omega, by omega, by omega, (hDE 0 0 (by omega) (by omega)).mpr a3⟩
