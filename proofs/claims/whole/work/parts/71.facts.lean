/-! THE REAL MACHINE FOLLOWS THE SMALL ONE: addresses, cells, one contract for every method -/
abbrev zE : Type := va_G × (Nat → ClassId) × (zId → Nat) × List zId
def z_ptr (f : Int32) (a : Nat) : Value := if f = 1 then .ref a else .null
def z_cont (E : zE) (M : zMem) (id : zId) : va_E := match id.1 with
  | 1 => .inr (0, [.ref (E.2.2.1 (45, 0, 0)), .ref (E.2.2.1 (46, 0, 0)), .ref (E.2.2.1 (48, 0, 0))])
  | 2 => .inr (1, [.ref (E.2.2.1 (21, id.2.1, 0)), .int (M.1 2 id.2.1 id.2.2 1)])
  | 3 => .inr (2, [.ref (E.2.2.1 (22, id.2.1, id.2.2)), .int (M.1 3 id.2.1 id.2.2 1)])
  | 4 => .inr (3, [.int (M.1 4 id.2.1 id.2.2 0), .int (M.1 4 id.2.1 id.2.2 1), .int (M.1 4 id.2.1 id.2.2 2), .int (M.1 4 id.2.1 id.2.2 3), .int (M.1 4 id.2.1 id.2.2 4), .int (M.1 4 id.2.1 id.2.2 5), .int (M.1 4 id.2.1 id.2.2 6), .int (M.1 4 id.2.1 id.2.2 7), .int (M.1 4 id.2.1 id.2.2 8), .int (M.1 4 id.2.1 id.2.2 9), .int (M.1 4 id.2.1 id.2.2 10), .int (M.1 4 id.2.1 id.2.2 11), .ref (E.2.2.1 (8, id.2.1, 2 * id.2.2)), .ref (E.2.2.1 (8, id.2.1, 2 * id.2.2 + 1)), .ref (E.2.2.1 (23, id.2.1, id.2.2)), .ref (E.2.2.1 (3, id.2.1, 3 * id.2.2)), .ref (E.2.2.1 (3, id.2.1, 3 * id.2.2 + 1)), .ref (E.2.2.1 (3, id.2.1, 3 * id.2.2 + 2))])
  | 7 => .inr (4, [.int (M.1 7 id.2.1 id.2.2 0), .int (M.1 7 id.2.1 id.2.2 1), .int (M.1 7 id.2.1 id.2.2 2), .int (M.1 7 id.2.1 id.2.2 3), .int (M.1 7 id.2.1 id.2.2 4), .int (M.1 7 id.2.1 id.2.2 5), .int (M.1 7 id.2.1 id.2.2 6), .int (M.1 7 id.2.1 id.2.2 7), .int (M.1 7 id.2.1 id.2.2 8), .int (M.1 7 id.2.1 id.2.2 9)])
  | 8 => .inr (5, [.int (M.1 8 id.2.1 id.2.2 0), .int (M.1 8 id.2.1 id.2.2 1), .int (M.1 8 id.2.1 id.2.2 2)])
  | 9 => .inr (6, [.ref (E.2.2.1 (1, 0, 0)), .ref (E.2.2.1 (30, id.2.1, 0)), .ref (E.2.2.1 (31, id.2.1, 0)), .ref (E.2.2.1 (2, id.2.1, 0)), .ref (E.2.2.1 (20, id.2.1, 0)), .int (M.1 9 id.2.1 id.2.2 5), .int (M.1 9 id.2.1 id.2.2 6), .int (M.1 9 id.2.1 id.2.2 7), .int (M.1 9 id.2.1 id.2.2 8)])
  | 10 => .inr (7, [.ref (E.2.2.1 (1, 0, 0)), .ref (E.2.2.1 (9, 0, 0)), z_ptr (M.1 10 id.2.1 id.2.2 2) (E.2.2.1 (9, 1, 0)), z_ptr (M.1 10 id.2.1 id.2.2 3) (E.2.2.1 (9, 2, 0))])
  | 11 => .inr (8, [.ref (E.2.2.1 (24, 0, 0)), .ref (E.2.2.1 (24, 0, 1)), .ref (E.2.2.1 (24, 0, 2)), .int (M.1 11 id.2.1 id.2.2 3), .ref (E.2.2.1 (40, 0, 0)), .int (M.1 11 id.2.1 id.2.2 5), .int (M.1 11 id.2.1 id.2.2 6), .ref (E.2.2.1 (47, 0, 0))])
  | 20 => .inl (E.2.1 0, 14, .inl (M.1 20 id.2.1 id.2.2))
  | 21 => .inl (E.2.1 0, 240, .inl (M.1 21 id.2.1 id.2.2))
  | 22 => .inl (E.2.1 0, 512, .inl (M.1 22 id.2.1 id.2.2))
  | 23 => .inl (E.2.1 0, 24, .inl (M.1 23 id.2.1 id.2.2))
  | 24 => .inl (E.2.1 0, 33214, .inl (M.1 24 id.2.1 id.2.2))
  | 30 => .inl (E.2.1 2, 24, .inr (.inr (.inr (.inr (fun j => some (E.2.2.1 (7, id.2.1, j)))))))
  | 31 => .inl (E.2.1 3, 4, .inr (.inr (.inr (.inr (fun j => some (E.2.2.1 (4, id.2.1, j)))))))
  | 40 => .inl (E.2.1 4, 24, .inl (M.1 40 id.2.1 id.2.2))
  | 45 => .inl (E.2.1 1, 221, .inr (.inl (M.2 45)))
  | 46 => .inl (E.2.1 1, 221, .inr (.inl (M.2 46)))
  | 47 => .inl (E.2.1 1, 221, .inr (.inl (M.2 47)))
  | 48 => .inl (E.2.1 0, 13, .inl z_bs)
  | _ => .inl (E.2.1 0, 0, .inl (fun _ => 0))
def z_succ (id : zId) : List zId := match id.1 with
  | 1 => [(45, 0, 0), (46, 0, 0), (48, 0, 0)]
  | 2 => [(21, id.2.1, 0)]
  | 3 => [(22, id.2.1, id.2.2)]
  | 4 => [(8, id.2.1, 2 * id.2.2), (8, id.2.1, 2 * id.2.2 + 1), (23, id.2.1, id.2.2), (3, id.2.1, 3 * id.2.2), (3, id.2.1, 3 * id.2.2 + 1), (3, id.2.1, 3 * id.2.2 + 2)]
  | 9 => [(1, 0, 0), (30, id.2.1, 0), (31, id.2.1, 0), (2, id.2.1, 0), (20, id.2.1, 0)]
  | 10 => [(1, 0, 0), (9, 0, 0)]
  | 11 => [(24, 0, 0), (24, 0, 1), (24, 0, 2), (40, 0, 0), (47, 0, 0)]
  | 30 => (List.range 24).map (fun j => (7, id.2.1, j))
  | 31 => (List.range 4).map (fun j => (4, id.2.1, j))
  | _ => []
def z_tys (E : zE) : List (ClassId × FieldType) := [(E.2.1 0, .int), (E.2.1 1, .long), (E.2.1 2, .object "TagReaders$Tag"), (E.2.1 3, .object "TagReaders$Reader"), (E.2.1 4, .boolean)]
def z_ws (E : zE) (M : zMem) : va_W := E.2.2.2.map (fun id => (E.2.2.1 id, z_cont E M id))
def z_A (E : zE) : Nat → Prop := fun q => ∃ id, id ∈ E.2.2.2 ∧ q = E.2.2.1 id
def z_okE (E : zE) : Prop := (∀ (i j : Nat) (a b : zId), E.2.2.2[i]? = some a → E.2.2.2[j]? = some b → E.2.2.1 a = E.2.2.1 b → i = j) ∧ (∀ id, id ∈ E.2.2.2 → ∀ id2, id2 ∈ z_succ id → id2 ∈ E.2.2.2) ∧ (∀ id, id ∈ E.2.2.2 → ¬ id.1 = 0 ∧ ¬ id.1 = 50 ∧ ¬ id.1 = 99) ∧ ∀ id2, id2 ∈ E.2.2.2 → ∀ id, id ∈ E.2.2.2 → z_isJ id.1 = true → id2.1 = id.1 → id2 = id
def z_vok (E : zE) (v : zV) : Prop := match v with
  | .inl _ => True
  | .inr (.inl _) => True
  | .inr (.inr id) => id.1 = 0 ∨ id.1 = 50 ∨ id.1 = 99 ∨ id ∈ E.2.2.2
def z_okr (E : zE) (r : Option zV) : Prop := ∀ v, r = some v → z_vok E v
def z_c (E : zE) (v : zV) : Value := match v with
  | .inl x => .int x
  | .inr (.inl x) => .long x
  | .inr (.inr id) => if id.1 = 0 then .null else .ref (E.2.2.1 id)
def z_lv (E : zE) : Nat → List zV → List (Nat × Value)
  | _, [] => []
  | i, v :: l => bif z_isU v then z_lv E (i + 1) l else (i, z_c E v) :: z_lv E (i + 1) l
def z_has (E : zE) (jls : Array Slot) (nL : Nat) (ls : List zV) : Prop := lv_has jls nL (z_lv E 0 ls)
-- words
theorem zw_call {c : Cond} (h : c ∈ zw) : GoodIn zw (c :: zw) := by
  have hg : ∀ w ∈ zw, w ∈ zw ∧ ((w.onTables && w.keeps) = true ∨ ∃ ty, w = .arrayClass ty) := fun w hw => ⟨hw, good_of_word (zw_good w hw)⟩
  intro w hw
  rcases List.mem_cons.mp hw with e | e
  · rw [e]; exact hg c h
  · exact hg w e
def z_nws : List (String × Nat × MethodName × String) := [("TagReaders$World", 25, ⟨"TagReaders$Journal", "<init>", "()V"⟩, "TagReaders"), ("TagReaders$World", 45, ⟨"TagReaders$Tag", "<init>", "()V"⟩, "TagReaders"), ("TagReaders$Reader", 20, ⟨"TagReaders$Tally", "<init>", "()V"⟩, "TagReaders"), ("TagReaders$Reader", 34, ⟨"TagReaders$Prefixes", "<init>", "()V"⟩, "TagReaders"), ("TagReaders$World", 63, ⟨"TagReaders", "isSet", "(I)Z"⟩, "TagReaders"), ("TagReaders$World", 171, ⟨"TagReaders", "isSpan", "(II)Z"⟩, "TagReaders"), ("TagReaders$World", 178, ⟨"TagReaders", "lowest", "(II)I"⟩, "TagReaders"), ("TagReaders$Reader", 88, ⟨"TagReaders", "commonDivisor", "(JJ)J"⟩, "TagReaders"), ("TagReaders", 162, ⟨"TagReaders$Survey", "treeQueries", "([LTagReaders$Tag;II)I"⟩, "TagReaders"), ("TagReaders$Chances", 54, ⟨"TagReaders", "commonDivisor", "(JJ)J"⟩, "TagReaders")]
def z_SF (E : zE) (U : State) : Prop := va_Z "TagReaders$World" "FIRST_DO" "[I" (.ref (E.2.2.1 (50, 0, 0))) (z_A E) U U.heap ∧ va_T .int (E.2.2.1 (50, 0, 0)) 8 (fun j => .int (z_sd 0 j)) (z_A E) U U.heap ∧ va_Z "TagReaders$World" "OTHERS_DO" "[I" (.ref (E.2.2.1 (50, 0, 1))) (z_A E) U U.heap ∧ va_T .int (E.2.2.1 (50, 0, 1)) 8 (fun j => .int (z_sd 1 j)) (z_A E) U U.heap
def z_env (E : zE) (U : State) : Prop := va_K E.1 vwCl (z_tys E) U ∧ (∀ q, q ∈ z_nws → va_Nw (.methodLinkNest q.1 q.2.1 q.2.2.1 q.2.2.2) U) ∧ z_SF E U
def z_rm (h : Nat) : Room := { frames := h, cells := 0, slots := 0, locals := 64 * h }
def z_wsm (t : zT) : List Cond := Cond.code t.1 t.2.1 t.2.2.1 t.2.2.2 :: zw
def z_Q (E : zE) (K : zK) : Array Value → State → Outcome → State → Prop := fun _ st oc t => ∃ (r : Option zV) (M : zMem), K r M ∧ z_okr E r ∧ oc = .returned (r.map (z_c E)) ∧ va_P E.1 vwCl (z_ws E M) t.heap ∧ va_F (z_A E) st t
def z_pre (E : zE) (M : zMem) : State → Prop := fun U => va_P E.1 vwCl (z_ws E M) U.heap ∧ z_env E U
def z_Met (t : zT) (h : Nat) (l : Launch) (E : zE) (as : List zV) (M : zMem) (K : zK) : Prop := Met l t.1 (z_wsm t) (z_rm h) (va_Pc (as.map (z_c E)) (z_pre E M)) (z_Q E K) 0 0 (z_A E)
def z_IH (tab : Nat → zT) (O : zO) (h : Nat) : Prop := ∀ (k : Nat) (l : Launch) (E : zE) (as : List zV) (M : zMem) (K : zK), z_okE E → (∀ v, v ∈ as → z_vok E v) → O k as M K → z_Met (tab k) h l E as M K
-- facts of the locals
theorem z_nth_eq : ∀ (ls : List zV) (k : Nat), z_nth ls k = (ls[k]?).getD z_un
  | [], k => by simp [z_nth]
  | a :: l, 0 => by simp [z_nth]
  | a :: l, k + 1 => by simp [z_nth, z_nth_eq l k]
theorem z_set_eq : ∀ (ls : List zV) (k : Nat) (v : zV), z_set ls k v = ls.set k v
  | [], k, v => by simp [z_set]
  | a :: l, 0, v => by simp [z_set]
  | a :: l, k + 1, v => by simp [z_set, z_set_eq l k v]
theorem z_lv_mem (E : zE) : ∀ (ls : List zV) (n : Nat) (q : Nat × Value), q ∈ z_lv E n ls ↔ ∃ (k : Nat) (v : zV), ls[k]? = some v ∧ z_isU v = false ∧ q = (n + k, z_c E v)
  | [], n, q => by simp [z_lv]
  | a :: l, n, q => by
    unfold z_lv
    have ih := z_lv_mem E l (n + 1) q
    constructor
    · intro h
      cases hu : z_isU a with
      | true =>
        rw [hu] at h
        obtain ⟨k, v, h1, h2, h3⟩ := ih.mp h
        exact ⟨k + 1, v, by simpa using h1, h2, by rw [h3]; congr 1; omega⟩
      | false =>
        rw [hu] at h
        rcases List.mem_cons.mp h with h | h
        · exact ⟨0, a, by simp, hu, by rw [h]; rfl⟩
        · obtain ⟨k, v, h1, h2, h3⟩ := ih.mp h
          exact ⟨k + 1, v, by simpa using h1, h2, by rw [h3]; congr 1; omega⟩
    · rintro ⟨k, v, h1, h2, h3⟩
      cases k with
      | zero =>
        simp at h1
        subst h1
        rw [h2]
        exact List.mem_cons.mpr (Or.inl h3)
      | succ k =>
        have h4 : q ∈ z_lv E (n + 1) l := ih.mpr ⟨k, v, by simpa using h1, h2, by rw [h3]; congr 1; omega⟩
        cases hu : z_isU a with
        | true => exact h4
        | false => exact List.mem_cons.mpr (Or.inr h4)
theorem z_getv {E : zE} {jls : Array Slot} {nL : Nat} {ls : List zV} {k : Nat} {v : zV} (h : z_has E jls nL ls) (hv : z_nth ls k = v) (hu : z_isU v = false) : jls[k]? = some (.val (z_c E v)) := by
  rw [z_nth_eq] at hv
  cases hk : ls[k]? with
  | none => rw [hk] at hv; subst hv; simp [z_isU] at hu
  | some a =>
    rw [hk] at hv
    have hv : a = v := hv
    subst hv
    exact h.2.2 (k, z_c E a) ((z_lv_mem E ls 0 _).mpr ⟨k, a, hk, hu, by simp⟩)
theorem z_vnth {E : zE} {ls : List zV} {k : Nat} {v : zV} (h : ∀ v, v ∈ ls → z_vok E v) (hv : z_nth ls k = v) : z_vok E v := by
  rw [z_nth_eq] at hv
  cases hk : ls[k]? with
  | none => rw [hk] at hv; subst hv; exact Or.inr (Or.inr (Or.inl rfl))
  | some a => rw [hk] at hv; subst hv; exact h _ (List.mem_of_getElem? hk)
theorem z_vset {E : zE} {ls : List zV} {k : Nat} {v : zV} (h : ∀ v, v ∈ ls → z_vok E v) (hv : z_vok E v) : ∀ u, u ∈ z_set ls k v → z_vok E u := by
  intro u hu
  rw [z_set_eq] at hu
  rcases List.mem_or_eq_of_mem_set hu with h1 | h1
  · exact h u h1
  · rw [h1]; exact hv
theorem z_vun {E : zE} : z_vok E z_un := Or.inr (Or.inr (Or.inl rfl))
theorem z_vclr {E : zE} {ls : List zV} {k : Nat} (h : ∀ v, v ∈ ls → z_vok E v) : ∀ u, u ∈ z_clr ls k → z_vok E u := by
  cases k with
  | zero => exact h
  | succ k =>
    unfold z_clr
    dsimp only
    cases z_isL (z_nth ls k) with
    | true => exact z_vset h z_vun
    | false => exact h
theorem z_v1 {E : zE} {ls : List zV} {k : Nat} {v : zV} (h : ∀ v, v ∈ ls → z_vok E v) (hv : z_vok E v) : ∀ u, u ∈ z_st1 ls k v → z_vok E u := z_vset (z_vclr h) hv
theorem z_v2 {E : zE} {ls : List zV} {k : Nat} {v : zV} (h : ∀ v, v ∈ ls → z_vok E v) (hv : z_vok E v) : ∀ u, u ∈ z_st2 ls k v → z_vok E u := z_vset (z_vset (z_vclr h) z_vun) hv
theorem z_catc (E : zE) (v : zV) : (z_c E v).category = z_cat v := by
  rcases v with x | x | id
  · rfl
  · rfl
  · unfold z_c z_cat
    dsimp only
    split <;> rfl
theorem z_cat2 {v : zV} : z_cat v = 2 ↔ z_isL v = true := by
  rcases v with x | x | id <;> simp [z_cat, z_isL]
theorem z_clr_get {ls : List zV} {i : Nat} {k : Nat} {v : zV} (h : (z_clr ls i)[k]? = some v) (hu : z_isU v = false) : ls[k]? = some v ∧ ¬ (k + 1 = i ∧ z_isL v = true) := by
  cases i with
  | zero => exact ⟨h, fun q => by omega⟩
  | succ i =>
    unfold z_clr at h
    dsimp only at h
    rw [z_nth_eq] at h
    cases hl : z_isL ((ls[i]?).getD z_un) with
    | true =>
      rw [hl] at h
      simp only [cond_true, z_set_eq] at h
      by_cases hk : k = i
      · subst hk
        have hlt : k < ls.length := by
          rcases Nat.lt_or_ge k ls.length with q | q
          · exact q
          · rw [List.getElem?_eq_none (by simpa using q)] at h; cases h
        rw [List.getElem?_set_self hlt] at h
        cases h
        simp [z_isU] at hu
      · rw [List.getElem?_set_ne (Ne.symm hk)] at h
        exact ⟨h, fun q => hk (by omega)⟩
    | false =>
      rw [hl] at h
      simp only [cond_false] at h
      refine ⟨h, fun q => ?_⟩
      obtain ⟨q1, q2⟩ := q
      have hki : k = i := by omega
      subst hki
      rw [h] at hl
      simp [q2] at hl
theorem z_has1 {E : zE} {jls2 : Array Slot} {nL i : Nat} {ls : List zV} {v : zV} (h : lv_has jls2 nL ((i, z_c E v) :: (z_lv E 0 ls).filter (fun q => !(q.1 == i) && !(q.1 + 1 == i && q.2.category == 2)))) : z_has E jls2 nL (z_st1 ls i v) := by
  refine ⟨h.1, h.2.1, fun q hq => h.2.2 q ?_⟩
  obtain ⟨k, u, h1, h2, h3⟩ := (z_lv_mem E _ 0 q).mp hq
  unfold z_st1 at h1
  rw [z_set_eq] at h1
  by_cases hk : k = i
  · subst hk
    have hlt : k < (z_clr ls k).length := by
      rcases Nat.lt_or_ge k (z_clr ls k).length with q | q
      · exact q
      · rw [List.getElem?_eq_none (by simpa using q)] at h1; cases h1
    rw [List.getElem?_set_self hlt] at h1
    cases h1
    rw [h3]
    simp
  · rw [List.getElem?_set_ne (Ne.symm hk)] at h1
    obtain ⟨g1, g2⟩ := z_clr_get h1 h2
    refine List.mem_cons.mpr (Or.inr (List.mem_filter.mpr ⟨(z_lv_mem E ls 0 q).mpr ⟨k, u, g1, h2, h3⟩, ?_⟩))
    rw [h3]
    simp only [Nat.zero_add, Bool.and_eq_true, Bool.not_eq_true', beq_eq_false_iff_ne, ne_eq, Bool.and_eq_false_iff]
    refine ⟨hk, ?_⟩
    by_cases hk2 : k + 1 = i
    · refine Or.inr (fun hc => g2 ⟨hk2, z_cat2.mp ?_⟩)
      rw [← z_catc E u]
      exact hc
    · exact Or.inl hk2
theorem z_has2 {E : zE} {jls2 : Array Slot} {nL i : Nat} {ls : List zV} {v : zV} (h : lv_has jls2 nL ((i, z_c E v) :: (z_lv E 0 ls).filter (fun q => !(q.1 == i) && (!(q.1 == i + 1) && !(q.1 + 1 == i && q.2.category == 2))))) : z_has E jls2 nL (z_st2 ls i v) := by
  refine ⟨h.1, h.2.1, fun q hq => h.2.2 q ?_⟩
  obtain ⟨k, u, h1, h2, h3⟩ := (z_lv_mem E _ 0 q).mp hq
  unfold z_st2 at h1
  rw [z_set_eq, z_set_eq] at h1
  by_cases hk : k = i
  · subst hk
    have hlt : k < ((z_clr ls k).set (k + 1) z_un).length := by
      rcases Nat.lt_or_ge k ((z_clr ls k).set (k + 1) z_un).length with q | q
      · exact q
      · rw [List.getElem?_eq_none (by simpa using q)] at h1; cases h1
    rw [List.getElem?_set_self hlt] at h1
    cases h1
    rw [h3]
    simp
  · rw [List.getElem?_set_ne (Ne.symm hk)] at h1
    by_cases hk3 : k = i + 1
    · subst hk3
      have hlt : i + 1 < (z_clr ls i).length := by
        rcases Nat.lt_or_ge (i + 1) (z_clr ls i).length with q | q
        · exact q
        · rw [List.getElem?_eq_none (by simpa using q)] at h1; cases h1
      rw [List.getElem?_set_self hlt] at h1
      cases h1
      simp [z_isU] at h2
    · rw [List.getElem?_set_ne (Ne.symm hk3)] at h1
      obtain ⟨g1, g2⟩ := z_clr_get h1 h2
      refine List.mem_cons.mpr (Or.inr (List.mem_filter.mpr ⟨(z_lv_mem E ls 0 q).mpr ⟨k, u, g1, h2, h3⟩, ?_⟩))
      rw [h3]
      simp only [Nat.zero_add, Bool.and_eq_true, Bool.not_eq_true', beq_eq_false_iff_ne, ne_eq, Bool.and_eq_false_iff]
      refine ⟨hk, hk3, ?_⟩
      by_cases hk2 : k + 1 = i
      · refine Or.inr (fun hc => g2 ⟨hk2, z_cat2.mp ?_⟩)
        rw [← z_catc E u]
        exact hc
      · exact Or.inl hk2
-- facts of the cells
theorem z_wsD {E : zE} (hE : z_okE E) (M : zMem) : va_D (z_A E) (z_ws E M) := by
  refine ⟨fun i j p q hi hj hpq => ?_, fun k q hq => ?_⟩
  · unfold z_ws at hi hj
    rw [List.getElem?_map] at hi hj
    cases ha : E.2.2.2[i]? with
    | none => rw [ha] at hi; cases hi
    | some a =>
      cases hb : E.2.2.2[j]? with
      | none => rw [hb] at hj; cases hj
      | some b =>
        rw [ha] at hi; rw [hb] at hj
        cases hi; cases hj
        exact hE.1 i j a b ha hb hpq
  · unfold z_ws at hq
    rw [List.getElem?_map] at hq
    cases ha : E.2.2.2[k]? with
    | none => rw [ha] at hq; cases hq
    | some a =>
      rw [ha] at hq
      cases hq
      exact ⟨a, List.mem_of_getElem? ha, rfl⟩
theorem z_at {E : zE} {id : zId} (h : id ∈ E.2.2.2) (M : zMem) : ∃ q0 : Nat, E.2.2.2[q0]? = some id ∧ (z_ws E M)[q0]? = some (E.2.2.1 id, z_cont E M id) := by
  obtain ⟨q0, h0⟩ := List.getElem?_of_mem h
  exact ⟨q0, h0, by unfold z_ws; rw [List.getElem?_map, h0]; rfl⟩
theorem z_put {E : zE} (hE : z_okE E) {M M2 : zMem} {q0 : Nat} {id : zId} {x : va_E} (h0 : E.2.2.2[q0]? = some id) (h1 : z_cont E M2 id = x) (h2 : ∀ id2, id2 ∈ E.2.2.2 → ¬ id2 = id → z_cont E M2 id2 = z_cont E M id2) : (z_ws E M).set q0 (E.2.2.1 id, x) = z_ws E M2 := by
  apply List.ext_getElem?
  intro k
  unfold z_ws
  by_cases hk : q0 = k
  · subst hk
    have hl : q0 < (List.map (fun id => (E.2.2.1 id, z_cont E M id)) E.2.2.2).length := by
      rw [List.length_map]; exact (List.getElem?_eq_some_iff.mp h0).1
    rw [List.getElem?_set_self hl, List.getElem?_map, h0]
    simp [h1]
  · rw [List.getElem?_set_ne hk, List.getElem?_map, List.getElem?_map]
    cases ha : E.2.2.2[k]? with
    | none => rfl
    | some a =>
      have : ¬ a = id := by
        intro e
        subst e
        exact hk (hE.1 q0 k a a h0 ha rfl)
      simp [h2 a (List.mem_of_getElem? ha) this]
theorem z_cont_up {E : zE} {M : zMem} {kd w i k : Nat} {x : Int32} {id : zId} (h : ¬ id = (kd, w, i)) : z_cont E (z_up M kd w i k x) id = z_cont E M id := by
  obtain ⟨a, b, c⟩ := id
  have h2 : ∀ d, (if a = kd ∧ b = w ∧ c = i ∧ d = k then x else M.1 a b c d) = M.1 a b c d := fun d => if_neg (fun q => h (by rw [q.1, q.2.1, q.2.2.1]))
  unfold z_cont z_up
  dsimp only
  split <;> simp only [h2]
theorem z_cont_upL {E : zE} {M : zMem} {kd k : Nat} {x : Int64} {id : zId} (h : ¬ id.1 = kd) : z_cont E (z_upL M kd k x) id = z_cont E M id := by
  obtain ⟨a, b, c⟩ := id
  have h2 : ∀ d, (if a = kd ∧ d = k then x else M.2 a d) = M.2 a d := fun d => if_neg (fun q => h q.1)
  unfold z_cont z_upL
  dsimp only
  split <;> first | rfl | simp only [h2]
theorem z_cont_cp {E : zE} {M : zMem} {kd w i : Nat} {f : Nat → Int32} {id : zId} (h : ¬ id = (kd, w, i)) : z_cont E (z_cp M kd w i f) id = z_cont E M id := by
  obtain ⟨a, b, c⟩ := id
  have h2 : ∀ d, (if a = kd ∧ b = w ∧ c = i then f d else M.1 a b c d) = M.1 a b c d := fun d => if_neg (fun q => h (by rw [q.1, q.2.1, q.2.2]))
  unfold z_cont z_cp
  dsimp only
  split <;> simp only [h2]
