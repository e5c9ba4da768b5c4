/-! a call of the class and the same one of the reference: the frame of the proof of a call -/
def z_to (k : Nat) (as : List zV) (M : zMem) (r : Option zV) (M2 : zMem) : Prop := ∀ (h : Nat) (K : zK), K r M2 → z_call (h + 200) k as M K
def z_T9 : zV := .inr (.inr (10, 0, 0))
def z_T11 : zV := .inr (.inr (11, 0, 0))
def S_tb (J : zMem) : Prop := (∀ j, j < 221 → J.2 45 j = tW j) ∧ ∀ j, j < 221 → J.2 46 j = tC j
/-- the row that is kept, read as the row -/
def z_rk (J : zMem) : zMem := (fun a b c d => if a = 24 ∧ c = 0 then J.1 24 0 2 d else J.1 a b c d, J.2)
theorem rk_at (J : zMem) (p : Nat) : (z_rk J).1 24 0 0 p = J.1 24 0 2 p := by
  unfold z_rk
  simp only [and_self, if_true]
def S_kept (J : zMem) (b : Nat) : Prop := J.1 10 0 0 2 = J.1 11 0 0 3 ∧ (J.1 11 0 0 3 = 0 ∨ (J.1 11 0 0 3 = 1 ∧ ∃ T c, T ≤ 9999 ∧ c ≤ b ∧ SimZ z_F z_F J 1 (z_rk J) T c b)) ∧ (J.1 10 0 0 3 = 0 ∨ J.1 10 0 0 3 = 1)
def SB (J : zMem) (b : Nat) : Prop := (∃ T c, T ≤ 9999 ∧ c ≤ b ∧ SimZ z_F z_F J 0 J T c b) ∧ S_tb J ∧ S_kept J b
/-- what a step of the class leaves alone, and one of the reference -/
def z_fc (M N : zMem) : Prop := (∀ a b c d, a = 10 ∨ a = 11 ∨ a = 24 ∨ a = 40 ∨ ¬ b = 0 → N.1 a b c d = M.1 a b c d) ∧ N.2 = M.2
def z_fr (M N : zMem) : Prop := (∀ a b c d, ¬ (a = 24 ∧ c = 0) → ¬ (a = 11 ∧ ¬ d = 3) → ¬ a = 40 → N.1 a b c d = M.1 a b c d) ∧ ∀ a b, ¬ a = 47 → N.2 a b = M.2 a b
theorem fc_rf {M : zMem} : z_fc M M := ⟨fun _ _ _ _ _ => rfl, rfl⟩
theorem fr_rf {M : zMem} : z_fr M M := ⟨fun _ _ _ _ _ _ _ => rfl, fun _ _ _ => rfl⟩
theorem fc_tr {A B C : zMem} (h : z_fc A B) (h2 : z_fc B C) : z_fc A C := ⟨fun a b c d e => (h2.1 a b c d e).trans (h.1 a b c d e), h2.2.trans h.2⟩
theorem fr_tr {A B C : zMem} (h : z_fr A B) (h2 : z_fr B C) : z_fr A C := ⟨fun a b c d e f g => (h2.1 a b c d e f g).trans (h.1 a b c d e f g), fun a b e => (h2.2 a b e).trans (h.2 a b e)⟩
theorem fc_up {M : zMem} {kd i k : Nat} {x : Int32} (h : kd < 10 ∨ (20 ≤ kd ∧ kd < 24)) : z_fc M (z_up M kd 0 i k x) := ⟨fun a b c d e => by rw [z_up1, if_neg (by omega)], rfl⟩
theorem fr_up {M : zMem} {p : Nat} {x : Int32} : z_fr M (z_up M 24 0 0 p x) := ⟨fun a b c d e _ _ => by rw [z_up1, if_neg (by omega)], fun _ _ _ => rfl⟩
theorem fr_up11 {M : zMem} {p : Nat} {x : Int32} (h : ¬ p = 3) : z_fr M (z_up M 11 0 0 p x) := ⟨fun a b c d _ e _ => by rw [z_up1, if_neg (by omega)], fun _ _ _ => rfl⟩
theorem fr_up40 {M : zMem} {p : Nat} {x : Int32} : z_fr M (z_up M 40 0 0 p x) := ⟨fun a b c d _ _ e => by rw [z_up1, if_neg (by omega)], fun _ _ _ => rfl⟩
theorem fr_upL {M : zMem} {p : Nat} {x : Int64} : z_fr M (z_upL M 47 p x) := ⟨fun a b c d _ _ _ => rfl, fun a b e => by rw [z_upL2, if_neg (by omega)]⟩
theorem fr_cp {M : zMem} {f : Nat → Int32} : z_fr M (z_cp M 24 0 0 f) := ⟨fun a b c d e _ _ => by rw [z_cp1, if_neg (by omega)], fun _ _ _ => rfl⟩
theorem fc_cp {M : zMem} {kd i : Nat} {f : Nat → Int32} (h : kd < 10 ∨ (20 ≤ kd ∧ kd < 24)) : z_fc M (z_cp M kd 0 i f) := ⟨fun a b c d e => by rw [z_cp1, if_neg (by omega)], rfl⟩
theorem fc_it {f : Nat → zMem → zMem} (hf : ∀ i M, z_fc M (f i M)) {M : zMem} : ∀ n, z_fc M (z_it f n M)
  | 0 => fc_rf
  | n + 1 => fc_tr (fc_it hf n) (hf n _)
theorem fr_it {f : Nat → zMem → zMem} (hf : ∀ i M, z_fr M (f i M)) {M : zMem} : ∀ n, z_fr M (z_it f n M)
  | 0 => fr_rf
  | n + 1 => fr_tr (fr_it hf n) (hf n _)
/-- the class's world is the same -/
def W_eq (M : zMem) (w : Nat) (M2 : zMem) (w2 : Nat) : Prop := (∀ k, k < 4 → M2.1 9 w2 0 (5 + k) = M.1 9 w 0 (5 + k)) ∧ M2.1 2 w2 0 1 = M.1 2 w 0 1 ∧ (∀ p, p < 240 → M2.1 21 w2 0 p = M.1 21 w 0 p) ∧ (∀ k, k < 14 → M2.1 20 w2 0 k = M.1 20 w 0 k) ∧ (∀ i, i < 24 → ∀ k, k < 10 → M2.1 7 w2 i k = M.1 7 w i k) ∧ ∀ r, r < 4 → C_eq M w M2 w2 r
theorem Sim_W {Z O : Nat → Prop} {M M2 Mr Mr2 : zMem} {w w2 T c b b2 : Nat} (h : SimZ Z O M w Mr T c b) (hW : W_eq M w M2 w2) (hR : ∀ p, Mr2.1 24 0 0 p = Mr.1 24 0 0 p) (hb : b ≤ b2) : SimZ Z O M2 w2 Mr2 T c b2 := by
  obtain ⟨h1, h2, h3, h4, h5, h6, h7, h8, h9⟩ := h
  obtain ⟨e1, e2, e3, e4, e5, e6⟩ := hW
  exact ⟨S_wC h1 e1 (fun p _ => hR p), S_jourW h2 e2 e3 (fun p _ => hR p), S_cntW h3 e4 (fun k _ => hR _), S_tagsW h4 e5 (fun p _ _ _ => hR p), fun i hi o => S_okW (h5 i hi o) (hR _) (fun _ _ => hR _) (hR _) (hR _) (hR _), fun i hi => S_busyW (h6 i hi) (hR _) (fun _ _ => hR _) (hR _), S_idsW h7 (fun i _ => ⟨hR _, hR _⟩), ⟨(hR 19).trans h8.1, (hR 20).trans h8.2⟩, fun r hr => S_RW hr id (h9 r hr) (e6 r hr) (R_eq0 hr (fun p _ _ => hR p)) hb⟩
theorem W_eqA {M M2 : zMem} {w w2 : Nat} (h : ∀ a c d, a < 10 ∨ (20 ≤ a ∧ a < 24) → M2.1 a w2 c d = M.1 a w c d) : W_eq M w M2 w2 :=
  ⟨fun k _ => h _ _ _ (by omega), h _ _ _ (by omega), fun p _ => h _ _ _ (by omega), fun k _ => h _ _ _ (by omega), fun i _ k _ => h _ _ _ (by omega), fun r _ => ⟨fun k _ => h _ _ _ (by omega), fun o k _ _ => h _ _ _ (by omega), fun o _ => h _ _ _ (by omega), fun o j _ _ => h _ _ _ (by omega), fun j _ => h _ _ _ (by omega)⟩⟩
theorem S_keptM {J J3 : zMem} {b b2 : Nat} (h : S_kept J b) (hb : b ≤ b2) (h10 : ∀ d, J3.1 10 0 0 d = J.1 10 0 0 d) (h11 : J3.1 11 0 0 3 = J.1 11 0 0 3) (h24 : ∀ d, J3.1 24 0 2 d = J.1 24 0 2 d) (hw : ∀ a c d, a < 10 ∨ (20 ≤ a ∧ a < 24) → J3.1 a 1 c d = J.1 a 1 c d) : S_kept J3 b2 := by
  obtain ⟨k1, k2, k3⟩ := h
  unfold S_kept
  rw [h10, h10, h11]
  refine ⟨k1, k2.imp id (fun ⟨a, T, c, hT, hc, hs⟩ => ⟨a, T, c, hT, by omega, Sim_W hs (W_eqA (fun a c d e => hw a c d e)) (fun p => ?_) hb⟩), k3⟩
  exact (rk_at J3 p).trans ((h24 p).trans (rk_at J p).symm)
theorem SB_fin {J J2 J3 : zMem} {b b2 : Nat} (h : SB J b) (hb : b ≤ b2) (f1 : z_fc J J2) (f2 : z_fr J2 J3) (hS : ∃ T c, T ≤ 9999 ∧ c ≤ b2 ∧ SimZ z_F z_F J2 0 J3 T c b2) : SB J3 b2 := by
  obtain ⟨T, c, hT, hc, hS⟩ := hS
  obtain ⟨-, ⟨t1, t2⟩, h3⟩ := h
  refine ⟨⟨T, c, hT, hc, Sim_W hS (W_eqA (fun a c d e => f2.1 _ _ _ _ (by omega) (by omega) (by omega))) (fun p => rfl) (Nat.le_refl _)⟩, ⟨fun j hj => ?_, fun j hj => ?_⟩, S_keptM h3 hb (fun d => ?_) ?_ (fun d => ?_) (fun a c d e => ?_)⟩
  · rw [f2.2 _ _ (by decide), f1.2]
    exact t1 j hj
  · rw [f2.2 _ _ (by decide), f1.2]
    exact t2 j hj
  · rw [f2.1 _ _ _ _ (by omega) (by omega) (by omega), f1.1 _ _ _ _ (by omega)]
  · rw [f2.1 _ _ _ _ (by omega) (by omega) (by omega), f1.1 _ _ _ _ (by omega)]
  · rw [f2.1 _ _ _ _ (by omega) (by omega) (by omega), f1.1 _ _ _ _ (by omega)]
  · rw [f2.1 _ _ _ _ (by omega) (by omega) (by omega), f1.1 _ _ _ _ (by omega)]
theorem SB_M {J : zMem} {b b2 : Nat} (h : SB J b) (hb : b ≤ b2) : SB J b2 := by
  refine SB_fin h hb fc_rf fr_rf ?_
  obtain ⟨⟨T, c, hT, hc, hs⟩, -⟩ := h
  exact ⟨T, c, hT, by omega, Sim_W hs (W_eqA (fun a c d _ => rfl)) (fun p => rfl) hb⟩
/-- whether a world is thought, whether one is kept: as it was -/
def z_10 (J J3 : zMem) : Prop := J3.1 10 0 0 2 = J.1 10 0 0 2 ∧ J3.1 10 0 0 3 = J.1 10 0 0 3
/-- what sort of answer it is -/
def zt_sh (kc : Nat) (v : zV) : Prop := match kc with
  | 143 => ∃ x, v = .inr (.inl x)
  | 144 => ∃ x, v = .inr (.inl x)
  | _ => ∃ x, v = .inl x
def z_two (J : zMem) (kc km : Nat) (as : List zV) (b : Nat) : Prop := ∃ v J2 J3, z_to kc (z_T9 :: as) J (some v) J2 ∧ z_to km (z_T11 :: as) J2 (some v) J3 ∧ SB J3 (b + 1000) ∧ z_10 J J3 ∧ zt_sh kc v
/-- a question: nothing changes -/
theorem two_q {J : zMem} {kc km b : Nat} {as : List zV} {v : zV} (h : SB J b) (h1 : z_to kc (z_T9 :: as) J (some v) J) (h2 : z_to km (z_T11 :: as) J (some v) J) (hv : zt_sh kc v := by exact ⟨_, rfl⟩) : z_two J kc km as b := ⟨v, J, J, h1, h2, SB_M h (by omega), ⟨rfl, rfl⟩, hv⟩
/-- a question, but the reference notes something aside -/
theorem two_q2 {J J3 : zMem} {kc km b : Nat} {as : List zV} {v : zV} (h : SB J b) (h1 : z_to kc (z_T9 :: as) J (some v) J) (h2 : z_to km (z_T11 :: as) J (some v) J3) (f : z_fr J J3) (e : ∀ p, J3.1 24 0 0 p = J.1 24 0 0 p) (hv : zt_sh kc v := by exact ⟨_, rfl⟩) : z_two J kc km as b := by
  refine ⟨v, J, J3, h1, h2, SB_fin h (by omega) fc_rf f ?_, ⟨f.1 10 0 0 2 (by omega) (by omega) (by omega), f.1 10 0 0 3 (by omega) (by omega) (by omega)⟩, hv⟩
  obtain ⟨⟨T, c, hT, hc, hs⟩, -⟩ := h
  exact ⟨T, c, hT, by omega, Sim_W hs (W_eqA (fun a c d _ => rfl)) e (by omega)⟩
theorem isIn_iff {v a b : Int32} : ¬ r_isIn v a b = 0 ↔ (¬ v < a ∧ ¬ b < v) := by
  unfold r_isIn
  constructor
  · intro h
    split at h
    · assumption
    · exact absurd rfl h
  · intro h
    rw [if_pos h]
    decide
theorem isIn_01 {k : Int32} : ¬ r_isIn k 0 1 = 0 ↔ (k = 0 ∨ k = 1) := by
  constructor
  · intro h
    obtain ⟨j, _, hj, rfl⟩ := z_isInR (A := 0) (N := 1) (by decide) (by decide) h
    rcases (show j = 0 ∨ j = 1 by omega) with rfl | rfl
    · exact .inl rfl
    · exact .inr rfl
  · rintro (rfl | rfl) <;> decide
theorem isIn_rd {r : Int32} : ¬ r_isIn r 0 (nI 3) = 0 ↔ ¬ (r < 0 ∨ r ≥ 4) := by
  rw [isIn_iff]
  constructor
  · rintro ⟨h1, h2⟩ (z | z)
    · exact h1 z
    · exact h2 (Int32.lt_of_lt_of_le (by decide) z)
  · intro h
    obtain ⟨j, hj, rfl⟩ := nI_of (fun z => h (.inl z))
    have h4 : ¬ nI 4 ≤ nI j := fun z => h (.inr z)
    rw [nI_leI (by omega) hj] at h4
    exact ⟨nI_pos hj, nI_nlt (by omega) (by omega)⟩
theorem i_cases (k : Int32) : k < 0 ∨ ∃ j, j < 2147483648 ∧ k = nI j := (Classical.em (k < 0)).imp id nI_of
theorem isIn_N {k : Int32} {N : Nat} (hN : N < 2147483647) : ¬ r_isIn k 0 (nI N) = 0 ↔ ∃ j, j ≤ N ∧ k = nI j := by
  constructor
  · intro h
    exact z_isIn1 hN rfl h
  · rintro ⟨j, hj, rfl⟩
    rw [isIn_iff]
    exact ⟨nI_pos (by omega), nI_nlt hj (by omega)⟩
theorem isIn_0 {k : Int32} {N : Nat} (hN : N < 2147483647) : r_isIn k 0 (nI N) = 0 ↔ (k < 0 ∨ nI (N + 1) ≤ k) := by
  constructor
  · intro h
    exact z_isIn0 hN rfl h
  · intro h
    refine Classical.byContradiction (fun z => ?_)
    obtain ⟨j, hj, rfl⟩ := (isIn_N hN).mp z
    rcases h with h | h
    · exact nI_pos (by omega) h
    · exact nI_ge (by omega) (by omega) h
/-- the same, as the class asks it -/
theorem cls_in {k : Int32} {N : Nat} (hN : N < 2147483647) : r_isIn k 0 (nI N) = 0 ↔ (k < 0 ∨ k ≥ nI (N + 1)) := isIn_0 hN
theorem there_iff {J Mr : zMem} {T : Nat} (h : S_tags J 0 Mr T) (t : Int32) : c_there J t ↔ ¬ r_isTag Mr t = 0 := by
  unfold c_there r_isTag
  have e := cls_in (k := t) (N := 23) (by decide)
  have e24 : (t ≥ nI (23 + 1)) = (t ≥ 24) := rfl
  rw [e24] at e
  by_cases c : r_isIn t 0 23 = 0
  · rw [if_pos c]
    refine ⟨fun z => (z ?_).elim, fun z => (z rfl).elim⟩
    rcases e.mp c with c | c
    · exact .inl c
    · exact .inr (.inl c)
  · rw [if_neg c]
    obtain ⟨j, hj, rfl⟩ := (isIn_N (N := 23) (by decide)).mp c
    have cl : (nI j).toNatClampNeg = j := nI_clamp (by omega)
    obtain ⟨e1, e2⟩ := S_01 (h j (by omega))
    rw [cl, e1]
    constructor
    · intro z
      rw [if_pos (e2.resolve_left (fun y => z (.inr (.inr y))))]
      decide
    · intro z y
      split at z
      · rename_i y1
        rcases y with y | y | y
        · exact nI_pos (by omega) y
        · exact nI_ge (b := 24) (by omega) (by omega) y
        · rw [y1] at y
          exact absurd y (by decide)
      · exact z rfl
theorem there_of {J Mr : zMem} {T : Nat} (h : S_tags J 0 Mr T) {t : Int32} (c : c_there J t) : ∃ j, j < 24 ∧ t = nI j ∧ (nI j).toNatClampNeg = j ∧ ¬ r_isTag Mr (nI j) = 0 ∧ Mr.1 24 0 0 (454 + j) = 1 := by
  have c2 := (there_iff h t).mp c
  obtain ⟨j, hj, e, h1⟩ := z_isTag1 c2
  rw [e] at c2
  exact ⟨j, hj, e, nI_clamp (by omega), c2, h1⟩
theorem rd_of {r : Int32} (c : ¬ (r < 0 ∨ r ≥ 4)) : ∃ j, j < 4 ∧ r = nI j ∧ (nI j).toNatClampNeg = j ∧ ¬ r_isIn (nI j) 0 (nI 3) = 0 := by
  have e := isIn_rd.mpr c
  obtain ⟨j, hj, rfl⟩ := (isIn_N (N := 3) (by decide)).mp e
  exact ⟨j, by omega, rfl, nI_clamp (by omega), e⟩
