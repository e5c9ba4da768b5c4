/-! put, select -/
theorem free_iff {M : zMem} {w j b : Nat} {R : Nat → Int32} {Z : Nat → Prop} (h : S_R Z M w R b j) : ¬ r_isFree M w j = 0 ↔ (R (262 + j) = 1 ∧ R (278 + j) = 0) := by
  unfold r_isFree
  have a0 : M.1 4 w j 0 = R (262 + j) := h.1.1 0 (by omega)
  have a1 : M.1 4 w j 1 = R (278 + j) := h.1.1 1 (by omega)
  rw [a0, a1]
  rcases h.2.1.1 with e | e
  · rw [e, if_neg (fun z => z.1 rfl)]
    exact ⟨fun z => (z rfl).elim, fun z => absurd z.1 (by decide)⟩
  · rw [e]
    split
    · rename_i c
      exact ⟨fun _ => ⟨rfl, c.2⟩, fun _ => by decide⟩
    · rename_i c
      exact ⟨fun z => (z rfl).elim, fun z => (c ⟨by decide, z.2⟩).elim⟩
theorem idle_iff {Mr : zMem} {r : Int32} : ¬ r_idle Mr r = 0 ↔ ∃ j, j < 4 ∧ r = nI j ∧ Mr.1 24 0 0 (262 + j) = 1 ∧ Mr.1 24 0 0 (278 + j) = 0 := by
  unfold r_idle
  by_cases c : r_isIn r 0 3 = 0
  · rw [if_pos c]
    refine ⟨fun z => (z rfl).elim, fun ⟨j, hj, e, _⟩ => ((isIn_N (N := 3) (by decide)).mpr ⟨j, by omega, e⟩ c).elim⟩
  · rw [if_neg c]
    obtain ⟨j, hj, rfl⟩ := (isIn_N (N := 3) (by decide)).mp c
    rw [nI_clamp (by omega)]
    constructor
    · intro z
      have z2 : Mr.1 24 0 0 (262 + j) = 1 ∧ Mr.1 24 0 0 (278 + j) = 0 := Classical.byContradiction (fun y => z (if_neg y))
      exact ⟨j, by omega, rfl, z2⟩
    · rintro ⟨k, hk, e, z⟩
      have : k = j := ((nI_eq (by omega) (by omega)).mp e).symm
      subst this
      rw [if_pos z]
      decide
theorem S_upd {M Mr : zMem} {w i k T : Nat} {x : Int32} (hi : i < 24) (h : S_T M w Mr T i) (hin : Mr.1 24 0 0 (454 + i) = 1) (hk : k = 1 ∨ k = 2 ∨ k = 6 ∨ k = 7) (hx : k = 2 → ∃ z, z < 16 ∧ x = nI z) : S_T (z_up M 7 w i k x) w (z_up Mr 24 0 0 (454 + 24 * k + i) x) T i := by
  have e0 : 454 + 24 * 0 + i = 454 + i := by omega
  have cN : ∀ d, ¬ d = k → (z_up M 7 w i k x).1 7 w i d = M.1 7 w i d := fun d hd => zn_upN hd
  have gN : ∀ d, d < 10 → ¬ d = k → g_R ((z_up Mr 24 0 0 (454 + 24 * k + i) x).1 24 0 0) i d = g_R (Mr.1 24 0 0) i d := fun d _ hd => zn_upN (by omega)
  have fN : ∀ f, f < 5 → f_R ((z_up Mr 24 0 0 (454 + 24 * k + i) x).1 24 0 0) i f = f_R (Mr.1 24 0 0) i f := fun f _ => by
    unfold f_R
    split <;> exact zn_upN (by omega)
  have cS : (z_up M 7 w i k x).1 7 w i k = x := zn_upS
  have gS : g_R ((z_up Mr 24 0 0 (454 + 24 * k + i) x).1 24 0 0) i k = x := zn_upS
  have pair : ∀ d, d < 10 → M.1 7 w i d = g_R (Mr.1 24 0 0) i d → (z_up M 7 w i k x).1 7 w i d = g_R ((z_up Mr 24 0 0 (454 + 24 * k + i) x).1 24 0 0) i d := fun d hd e => by
    by_cases c : d = k
    · subst c
      rw [cS, gS]
    · rw [cN d c, gN d hd c]
      exact e
  have q0 : ¬ k = 0 ∧ ¬ k = 3 ∧ ¬ k = 4 ∧ ¬ k = 5 ∧ ¬ k = 8 ∧ ¬ k = 9 := by clear hx; omega
  have g0 := gN 0 (by decide) (fun z => q0.1 z.symm)
  have g9 := gN 9 (by decide) (fun z => q0.2.2.2.2.2 z.symm)
  have g8 := gN 8 (by decide) (fun z => q0.2.2.2.2.1 z.symm)
  have c3 := cN 3 (fun z => q0.2.1 z.symm)
  have c8 := cN 8 (fun z => q0.2.2.2.2.1 z.symm)
  have g2 : ¬ k = 2 → _ := fun z => gN 2 (by decide) (fun y => z y.symm)
  obtain ⟨h1, h2, h3, h4⟩ := h
  rcases h4 with ⟨h4, _⟩ | ⟨a1, a2, a3, a4, a5, a6, a7, a8, y, b1, b2, b3, b4⟩
  · have h4 : Mr.1 24 0 0 (454 + 24 * 0 + i) = 0 := h4
    rw [e0, hin] at h4
    exact absurd h4 (by decide)
  refine ⟨pair 0 (by decide) h1, pair 4 (by decide) h2, pair 5 (by decide) h3, .inr ⟨g0.trans a1, pair 1 (by decide) a2, pair 2 (by decide) a3, pair 6 (by decide) a4, pair 7 (by decide) a5, pair 9 (by decide) a6, ?_, ?_, y, b1, c3.trans b2, fun f hf => (fN f hf).trans (b3 f hf), fun z => ?_⟩⟩
  · by_cases c : k = 2
    · subst c
      rw [gS]
      exact hx rfl
    · rw [g2 c]
      exact a7
  · rw [g9]
    exact a8
  · rw [c8, g8]
    exact b4 z
theorem x_id_of {R R2 : Nat → Int32} {t : Nat} (h : z_ush (R2 (478 + t)) 16 = z_ush (R (478 + t)) 16) : x_id R2 t = x_id R t := by
  rw [id_N, id_N] at h
  exact (nI_eq (by have := x_idL R2 t; omega) (by have := x_idL R t; omega)).mp h
theorem Sim_mem {Z O : Nat → Prop} {M Mr : zMem} {w T c b i : Nat} {x : Int32} (h : SimZ Z O M w Mr T c b) (hi : i < 24) (hin : Mr.1 24 0 0 (454 + i) = 1) (hx : z_ush x 16 = z_ush (Mr.1 24 0 0 (478 + i)) 16) : SimZ Z O (z_up M 7 w i 1 x) w (z_up Mr 24 0 0 (478 + i) x) T c b := by
  obtain ⟨h1, h2, h3, h4, h5, h6, h7, h8, h9⟩ := h
  have oR : ∀ p, ¬ p = 478 + i → (z_up Mr 24 0 0 (478 + i) x).1 24 0 0 p = Mr.1 24 0 0 p := fun p hp => zn_upN hp
  have oM : ∀ a c d, ¬ a = 7 → (z_up M 7 w i 1 x).1 a w c d = M.1 a w c d := fun a c d e => zn_upO e
  have ids : ∀ t, t < 24 → z_ush ((z_up Mr 24 0 0 (478 + i) x).1 24 0 0 (478 + t)) 16 = z_ush (Mr.1 24 0 0 (478 + t)) 16 := fun t ht => by
    by_cases e : t = i
    · subst e
      rw [zn_upS]
      exact hx
    · rw [oR _ (by omega)]
  have tM : t_M w i M (z_up M 7 w i 1 x) := t_Mup
  have tR : t_R i Mr (z_up Mr 24 0 0 (478 + i) x) := t_Rup (by unfold p_T; omega)
  refine ⟨S_wC h1 (fun k _ => oM _ _ _ (by omega)) (fun p hp => oR p (by omega)), S_jourW h2 (oM _ _ _ (by omega)) (fun p _ => oM _ _ _ (by omega)) (fun p hp => oR p (by omega)), S_cntW h3 (fun k _ => oM _ _ _ (by omega)) (fun k _ => oR _ (by omega)), fun j hj => ?_, fun j hj o => S_okW (h5 j hj o) (oR _ (by omega)) (fun r _ => oR _ (by omega)) (oR _ (by omega)) (oR _ (by omega)) (oR _ (by omega)), fun j hj => S_busyW (h6 j hj) (oR _ (by omega)) (fun r _ => oR _ (by omega)) (oR _ (by omega)), fun j k hj hk a b e => ?_, ⟨(oR 19 (by omega)).trans h8.1, (oR 20 (by omega)).trans h8.2⟩, fun r hr => S_RW hr id (h9 r hr) (C_eq0 (fun a c d e => oM _ _ _ (by omega))) ⟨fun p hp => oR p (by unfold P_own P_bd at hp; omega), fun t ht e => ⟨by rw [← oR (550 + t) (by omega)]; exact e, x_id_of (ids t ht)⟩, .inr ⟨oR _ (by omega), fun t ht e => by rw [oR _ (by omega)]; exact e⟩⟩ (Nat.le_refl _)⟩
  · by_cases e : j = i
    · subst e
      have := S_upd (k := 1) (x := x) hj (h4 j hj) hin (.inl rfl) (fun z => by omega)
      rw [show 454 + 24 * 1 + j = 478 + j by omega] at this
      exact this
    · exact t_other (h4 j hj) tM tR hj hi e
  · rw [oR _ (by omega)] at a b
    rw [ids j hj, ids k hk] at e
    exact h7 j k hj hk a b e
theorem low_eq : ∀ n, n < 17 → 1 ≤ n → r_lowest (-1) (nI n) = r_low (nI n) := by decide +kernel
theorem put_eq (x v L : Int32) {B : Nat} (hB : B < 32) : (x &&& (L <<< (nI B &&& 31) ^^^ -1) ||| v <<< (nI B &&& 31) &&& L <<< (nI B &&& 31)) = (x &&& (L <<< (nI B &&& 31) ^^^ -1) ||| (v &&& L) <<< (nI B &&& 31)) := by
  congr 1
  refine b_ext (fun i hi => ?_)
  rw [b_and, b_shl B hB v hi, b_shl B hB L hi, b_shl B hB (v &&& L) hi, b_and]
  cases decide (B ≤ i) <;> cases bt v (i - B) <;> cases bt L (i - B) <;> rfl
theorem put_id (x v : Int32) {B n : Nat} (hn : n ≤ 32) (hB : B + n ≤ 16) : z_ush (x &&& (r_low (nI n) <<< (nI B &&& 31) ^^^ -1) ||| (v &&& r_low (nI n)) <<< (nI B &&& 31)) 16 = z_ush x 16 := by
  refine b_ext (fun i hi => ?_)
  show bt (z_ush _ (nI 16)) i = bt (z_ush _ (nI 16)) i
  unfold z_ush
  rw [b_ushr 16 (by decide), b_ushr 16 (by decide)]
  rcases Nat.lt_or_ge (16 + i) 32 with l | l
  · rw [b_or, b_and, b_xor, b_m1 _ l, b_shl B (by omega) _ l, b_shl B (by omega) _ l, b_and, low_bt n hn _ (by omega), decide_eq_false (show ¬ 16 + i - B < n by omega)]
    simp
  · rw [b_big l, b_big l]
theorem put_N {p n : Int32} : (¬ p < 16 ∧ ¬ n < 1 ∧ ¬ r_isSpan p n = 0) ↔ (¬ r_isIn p (nI 16) (nI 31) = 0 ∧ ¬ r_isIn n 1 (nI 32 - p) = 0) := by
  constructor
  · rintro ⟨a1, a2, a3⟩
    obtain ⟨x, y, x1, x2, rfl, rfl⟩ := span_N.mp a3
    have a1 : ¬ nI x < nI 16 := a1
    rw [nI_ltI (by omega) (by decide)] at a1
    refine ⟨isIn_iff.mpr ⟨nI_nlt (by omega) (by omega), nI_nlt (by omega) (by omega)⟩, isIn_iff.mpr ⟨a2, ?_⟩⟩
    rw [sub_n (by omega)]
    exact nI_nlt (by omega) (by omega)
  · rintro ⟨a1, a2⟩
    obtain ⟨x, x1, x2, rfl⟩ := z_isInR (by decide) (by decide) a1
    obtain ⟨b1, b2⟩ := isIn_iff.mp a2
    obtain ⟨y, hy, rfl⟩ := nI_of (fun z : n < 0 => b1 (Int32.lt_of_lt_of_le z (by decide)))
    rw [sub_n (by omega), nI_ltI (by omega) hy] at b2
    exact ⟨nI_nlt (b := 16) (by omega) (by omega), b1, span_N.mpr ⟨x, y, by omega, by omega, rfl, rfl⟩⟩
theorem put_iff {J : zMem} {T c b : Nat} {r t p n : Int32} (hs : SimZ z_F z_F J 0 J T c b) : c_put J 0 r t p n ↔ c_mPut J r t p n := by
  obtain ⟨h1, h2, h3, h4, h5, h6, h7, h8, h9⟩ := hs
  unfold c_put c_mPut
  constructor
  · rintro ⟨a1, a2, a3, a4, a5, a6, a7⟩
    obtain ⟨j, hj, rfl, cl, -⟩ := rd_of a1
    obtain ⟨i, hi, rfl, cl2, it, hin⟩ := there_of (J := J) h4 a2
    rw [cl] at a3
    rw [cl2] at a4 a5 a6
    obtain ⟨t1, t2, t6, t7, -⟩ := T_in (h4 i hi) hin
    obtain ⟨b4, -, -⟩ := T_bs (h4 i hi)
    rw [rb_has, t2] at a4
    rw [b4] at a5
    rw [t7] at a6
    obtain ⟨p1, p2⟩ := put_N.mp a7
    rw [cl2]
    exact ⟨idle_iff.mpr ⟨j, hj, rfl, (free_iff (h9 j hj)).mp a3⟩, it, a4, a5, a6, p1, p2⟩
  · rintro ⟨a1, a2, a3, a4, a5, a6, a7⟩
    obtain ⟨j, hj, rfl, f⟩ := idle_iff.mp a1
    have a2' := (there_iff h4 t).mpr a2
    obtain ⟨i, hi, rfl, cl2, it, hin⟩ := there_of h4 a2'
    rw [cl2] at a3 a4 a5
    obtain ⟨t1, t2, t6, t7, -⟩ := T_in (h4 i hi) hin
    obtain ⟨b4, -, -⟩ := T_bs (h4 i hi)
    have cl : (nI j).toNatClampNeg = j := nI_clamp (by omega)
    refine ⟨fun z => z.elim (nI_pos (by omega)) (nI_ge (b := 4) (by omega) (by omega)), a2', ?_, ?_, ?_, ?_, put_N.mpr ⟨a6, a7⟩⟩
    · rw [cl]
      exact (free_iff (h9 j hj)).mpr f
    · rw [cl2, rb_has, t2]
      exact a3
    · rw [cl2, b4]
      exact a4
    · rw [cl2, t7]
      exact a5
theorem two_put {J : zMem} {b : Nat} {r t p n v : Int32} (h : SB J b) : z_two J 128 198 [.inl r, .inl t, .inl p, .inl n, .inl v] b := by
  obtain ⟨T, c, hT, hc, hs⟩ := h.1
  have key := put_iff (r := r) (t := t) (p := p) (n := n) hs
  by_cases e : c_put J 0 r t p n
  · have em := key.mp e
    have h4 := hs.2.2.2.1
    have same : ∀ q, (m_put J 0 t p n v).1 24 0 0 q = J.1 24 0 0 q := fun q => (fw_0 (@fw_put 0 J t p n v)).1 _ _ _ _ (by omega)
    have em2 : c_mPut (m_put J 0 t p n v) r t p n := by
      unfold c_mPut r_idle r_isTag at *
      simp only [same]
      exact em
    refine two_s (J2 := m_put J 0 t p n v) (J3 := n_put (m_put J 0 t p n v) t.toNatClampNeg p n v) h (v := .inl 1) (fun _ K hK => ?_) (fun _ K hK => ?_) (fw_0 fw_put) fr_put ⟨T, c, hT, by omega, ?_⟩
    · exact w9_put (v := 1) (M2 := m_put J 0 t p n v) (.inr rfl) (fun K2 q => s_put (fun _ => q) (fun z => (z e).elim)) hK
    · exact s_mPut (fun _ => hK) (fun z => (z em2).elim)
    · obtain ⟨i, hi, rfl, cl2, it, hin⟩ := there_of (J := J) h4 e.2.1
      obtain ⟨x, y, x1, x2, rfl, rfl⟩ := span_N.mp e.2.2.2.2.2.2.2.2
      have x16 : 16 ≤ x := by
        have z : ¬ nI x < nI 16 := e.2.2.2.2.2.2.1
        rw [nI_ltI (by omega) (by decide)] at z
        omega
      have y1 : 1 ≤ y := by
        have z : ¬ nI y < nI 1 := e.2.2.2.2.2.2.2.1
        rw [nI_ltI (by omega) (by decide)] at z
        omega
      have hm : J.1 7 0 i 1 = J.1 24 0 0 (478 + i) := (T_in (h4 i hi) hin).1
      have eB : (32 : Int32) - nI x - nI y = nI (32 - x - y) := by
        rw [show (32 : Int32) - nI x = nI (32 - x) from sub_n (a := 32) (by omega), sub_n (by omega)]
      have eB2 : nI 32 - nI x - nI y = nI (32 - x - y) := eB
      have val : ∀ m, (m &&& (r_low (nI y) <<< ((nI 32 - nI x - nI y) &&& 31) ^^^ -1) ||| (v &&& r_low (nI y)) <<< ((nI 32 - nI x - nI y) &&& 31)) = (m &&& (r_low (nI y) <<< (nI (32 - x - y) &&& 31) ^^^ -1) ||| (v &&& r_low (nI y)) <<< (nI (32 - x - y) &&& 31)) := fun m => by rw [eB2]
      have k1 : m_put J 0 (nI i) (nI x) (nI y) v = m_cnt (z_up J 7 0 i 1 (J.1 24 0 0 (478 + i) &&& (r_low (nI y) <<< (nI (32 - x - y) &&& 31) ^^^ -1) ||| (v &&& r_low (nI y)) <<< (nI (32 - x - y) &&& 31))) 0 13 1 := by
        unfold m_put m_cnt
        dsimp only
        rw [cl2, eB, low_eq y (by omega) y1, put_eq _ _ _ (by omega), hm, zn_upO (show ¬ 20 = 7 by decide)]
      have k2 : n_put (m_put J 0 (nI i) (nI x) (nI y) v) i (nI x) (nI y) v = n_counts (z_up (m_put J 0 (nI i) (nI x) (nI y) v) 24 0 0 (478 + i) (J.1 24 0 0 (478 + i) &&& (r_low (nI y) <<< (nI (32 - x - y) &&& 31) ^^^ -1) ||| (v &&& r_low (nI y)) <<< (nI (32 - x - y) &&& 31))) 13 1 := by
        unfold n_put
        rw [val, same]
      rw [cl2, k2]
      have hs3 : SimZ z_F z_F J 0 (m_put J 0 (nI i) (nI x) (nI y) v) T c b := Sim_R hs same
      have hid := put_id (J.1 24 0 0 (478 + i)) v (B := 32 - x - y) (n := y) (by omega) (by omega)
      have st := Sim_mem (x := (J.1 24 0 0 (478 + i) &&& (r_low (nI y) <<< (nI (32 - x - y) &&& 31) ^^^ -1) ||| (v &&& r_low (nI y)) <<< (nI (32 - x - y) &&& 31))) hs3 hi ((same _).trans hin) (by rw [same]; exact hid)
      have st2 := Sim_cnt (k := 13) (x := 1) st (by omega)
      rw [← k1] at st2
      exact Sim_b st2 (by omega)
  · refine two_q h (v := .inl 0) (fun _ K hK => ?_) (fun _ K hK => s_mPut (fun z => (e (key.mpr z)).elim) (fun _ => hK))
    exact w9_put (v := 0) (M2 := J) (.inl rfl) (fun K2 q => s_put (fun z => (e z).elim) (fun _ => q)) hK
