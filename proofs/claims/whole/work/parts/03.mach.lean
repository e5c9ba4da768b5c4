/-! THE MACHINE: a small interpreter over an abstract memory, one for the system and the reference; 04 shows once that the real machine follows it -/
abbrev zId : Type := Nat × Nat × Nat
abbrev zV : Type := Int32 ⊕ Int64 ⊕ zId
abbrev zMem : Type := (Nat → Nat → Nat → Nat → Int32) × (Nat → Nat → Int64)
abbrev zK : Type := Option zV → zMem → Prop
abbrev zO : Type := Nat → List zV → zMem → zK → Prop
abbrev zP : Type := Nat → List zV → List zV → zMem → Prop
abbrev zOp : Type := zO → zK → zP → zP
abbrev zT : Type := MethodName × ByteArray × Nat × Option FieldType
abbrev z_un : zV := .inr (.inr (99, 0, 0))
def z_nth : List zV → Nat → zV
  | [], _ => z_un
  | a :: _, 0 => a
  | _ :: l, k + 1 => z_nth l k
def z_set : List zV → Nat → zV → List zV
  | [], _, _ => []
  | _ :: l, 0, v => v :: l
  | a :: l, k + 1, v => a :: z_set l k v
def z_isL (v : zV) : Bool := match v with
  | .inl _ => false
  | .inr (.inl _) => true
  | .inr (.inr _) => false
def z_clr (ls : List zV) (k : Nat) : List zV := match k with
  | 0 => ls
  | k + 1 => bif z_isL (z_nth ls k) then z_set ls k z_un else ls
def z_st1 (ls : List zV) (k : Nat) (v : zV) : List zV := z_set (z_clr ls k) k v
def z_st2 (ls : List zV) (k : Nat) (v : zV) : List zV := z_set (z_set (z_clr ls k) (k + 1) z_un) k v
def z_isU (v : zV) : Bool := match v with
  | .inl _ => false
  | .inr (.inl _) => false
  | .inr (.inr id) => id.1 == 99
def z_cat (v : zV) : Nat := match v with
  | .inl _ => 1
  | .inr (.inl _) => 2
  | .inr (.inr _) => 1
def z_cats : List zV → Nat
  | [] => 0
  | v :: l => z_cat v + z_cats l
/-- memory: numbers by kind, world, object, place; long rows by kind, place -/
def z_up (M : zMem) (kd w i k : Nat) (x : Int32) : zMem := (fun a b c d => if a = kd ∧ b = w ∧ c = i ∧ d = k then x else M.1 a b c d, M.2)
def z_upL (M : zMem) (kd k : Nat) (x : Int64) : zMem := (M.1, fun a b => if a = kd ∧ b = k then x else M.2 a b)
def z_cp (M : zMem) (kd w i : Nat) (f : Nat → Int32) : zMem := (fun a b c d => if a = kd ∧ b = w ∧ c = i then f d else M.1 a b c d, M.2)
def z_len (kd : Nat) : Nat := match kd with
  | 20 => 14
  | 21 => 240
  | 22 => 512
  | 23 => 24
  | 24 => 33214
  | 30 => 24
  | 31 => 4
  | 40 => 24
  | 45 => 221
  | 46 => 221
  | 47 => 221
  | _ => 0
def z_isI (kd : Nat) : Bool := match kd with
  | 20 => true
  | 21 => true
  | 22 => true
  | 23 => true
  | 24 => true
  | _ => false
def z_isJ (kd : Nat) : Bool := match kd with
  | 45 => true
  | 46 => true
  | 47 => true
  | _ => false
/-- the two static rows -/
def z_sd (i : Nat) (j : Nat) : Int32 := match i with
  | 0 => ([1, 1, 0, 3, 2, 2, 0, 0] : List Int32).getD j 0
  | _ => ([2, 0, 2, 0, 1, 0, 1, 3] : List Int32).getD j 0
/-- the row of BEST of each n: made once, never written again (kind 48) -/
def z_bs (j : Nat) : Int32 := ([0, 0, 1, 2, 2, 2, 3, 3, 3, 3, 3, 3, 4] : List Int32).getD j 0
def z_elt (kd w j : Nat) : zId := match kd with
  | 30 => (7, w, j)
  | _ => (4, w, j)
-- the instructions
def o_bad : zOp := fun _ _ _ _ _ _ _ => False
def o_iload (k : Nat) : zOp := fun _ _ P i ls st M => match z_nth ls k with
  | .inl x => P (i + 1) ls (.inl x :: st) M
  | .inr _ => False
def o_lload (k : Nat) : zOp := fun _ _ P i ls st M => match z_nth ls k with
  | .inl _ => False
  | .inr (.inl x) => P (i + 1) ls (.inr (.inl x) :: st) M
  | .inr (.inr _) => False
def o_aload (k : Nat) : zOp := fun _ _ P i ls st M => match z_nth ls k with
  | .inl _ => False
  | .inr (.inl _) => False
  | .inr (.inr id) => ¬ id.1 = 99 ∧ P (i + 1) ls (.inr (.inr id) :: st) M
def o_istore (k : Nat) : zOp := fun _ _ P i ls st M => match st with
  | .inl x :: st => P (i + 1) (z_st1 ls k (.inl x)) st M
  | _ => False
def o_lstore (k : Nat) : zOp := fun _ _ P i ls st M => match st with
  | .inr (.inl x) :: st => P (i + 1) (z_st2 ls k (.inr (.inl x))) st M
  | _ => False
def o_astore (k : Nat) : zOp := fun _ _ P i ls st M => match st with
  | .inr (.inr id) :: st => ¬ id.1 = 99 ∧ P (i + 1) (z_st1 ls k (.inr (.inr id))) st M
  | _ => False
def o_iinc (k : Nat) (n : Int32) : zOp := fun _ _ P i ls st M => match z_nth ls k with
  | .inl x => P (i + 1) (z_st1 ls k (.inl (x + n))) st M
  | .inr _ => False
def o_ic (n : Int32) : zOp := fun _ _ P i ls st M => P (i + 1) ls (.inl n :: st) M
def o_lc (n : Int64) : zOp := fun _ _ P i ls st M => P (i + 1) ls (.inr (.inl n) :: st) M
def o_null : zOp := fun _ _ P i ls st M => P (i + 1) ls (.inr (.inr (0, 0, 0)) :: st) M
def o_bin (f : Int32 → Int32 → Int32) : zOp := fun _ _ P i ls st M => match st with
  | .inl y :: .inl x :: st => P (i + 1) ls (.inl (f x y) :: st) M
  | _ => False
def o_divi (f : Int32 → Int32 → Int32) : zOp := fun _ _ P i ls st M => match st with
  | .inl y :: .inl x :: st => ¬ y = 0 ∧ P (i + 1) ls (.inl (f x y) :: st) M
  | _ => False
def o_lbin (f : Int64 → Int64 → Int64) : zOp := fun _ _ P i ls st M => match st with
  | .inr (.inl y) :: .inr (.inl x) :: st => P (i + 1) ls (.inr (.inl (f x y)) :: st) M
  | _ => False
def o_divl (f : Int64 → Int64 → Int64) : zOp := fun _ _ P i ls st M => match st with
  | .inr (.inl y) :: .inr (.inl x) :: st => ¬ y = 0 ∧ P (i + 1) ls (.inr (.inl (f x y)) :: st) M
  | _ => False
def o_lsh (f : Int64 → Int32 → Int64) : zOp := fun _ _ P i ls st M => match st with
  | .inl y :: .inr (.inl x) :: st => P (i + 1) ls (.inr (.inl (f x y)) :: st) M
  | _ => False
def o_lcmp : zOp := fun _ _ P i ls st M => match st with
  | .inr (.inl y) :: .inr (.inl x) :: st => P (i + 1) ls (.inl (lg_cmp x y) :: st) M
  | _ => False
def o_i2l : zOp := fun _ _ P i ls st M => match st with
  | .inl x :: st => P (i + 1) ls (.inr (.inl x.toInt64) :: st) M
  | _ => False
def o_l2i : zOp := fun _ _ P i ls st M => match st with
  | .inr (.inl x) :: st => P (i + 1) ls (.inl x.toInt32 :: st) M
  | _ => False
def o_dup : zOp := fun _ _ P i ls st M => match st with
  | v :: st => z_isL v = false ∧ P (i + 1) ls (v :: v :: st) M
  | _ => False
def o_dup2 : zOp := fun _ _ P i ls st M => match st with
  | v :: u :: st => z_isL v = false ∧ z_isL u = false ∧ P (i + 1) ls (v :: u :: v :: u :: st) M
  | _ => False
def o_dup2l : zOp := fun _ _ P i ls st M => match st with
  | v :: st => z_isL v = true ∧ P (i + 1) ls (v :: v :: st) M
  | _ => False
def o_pop : zOp := fun _ _ P i ls st M => match st with
  | v :: st => z_isL v = false ∧ P (i + 1) ls st M
  | _ => False
def o_if (f : Int32 → Prop) (t : Nat) : zOp := fun _ _ P i ls st M => match st with
  | .inl x :: st => (f x → P t ls st M) ∧ (¬ f x → P (i + 1) ls st M)
  | _ => False
def o_icmp (f : Int32 → Int32 → Prop) (t : Nat) : zOp := fun _ _ P i ls st M => match st with
  | .inl y :: .inl x :: st => (f x y → P t ls st M) ∧ (¬ f x y → P (i + 1) ls st M)
  | _ => False
def o_ifnull (t : Nat) : zOp := fun _ _ P i ls st M => match st with
  | .inr (.inr id) :: st => (id.1 = 0 → P t ls st M) ∧ (¬ id.1 = 0 → P (i + 1) ls st M)
  | _ => False
def o_ifnonnull (t : Nat) : zOp := fun _ _ P i ls st M => match st with
  | .inr (.inr id) :: st => (¬ id.1 = 0 → P t ls st M) ∧ (id.1 = 0 → P (i + 1) ls st M)
  | _ => False
def o_goto (t : Nat) : zOp := fun _ _ P _ ls st M => P t ls st M
def z_cases (x : Int32) (f : Nat → Prop) (d : Nat) : Int → List Nat → Prop
  | _, [] => f d
  | lo, t :: ts => (x = Int32.ofInt lo → f t) ∧ (¬ x = Int32.ofInt lo → z_cases x f d (lo + 1) ts)
def o_tsw (lo : Int) (ts : List Nat) (d : Nat) : zOp := fun _ _ P _ ls st M => match st with
  | .inl x :: st => z_cases x (fun t => P t ls st M) d lo ts
  | _ => False
def o_get (kd k : Nat) : zOp := fun _ _ P i ls st M => match st with
  | .inr (.inr id) :: st => id.1 = kd ∧ P (i + 1) ls (.inl (M.1 kd id.2.1 id.2.2 k) :: st) M
  | _ => False
def o_getr (kd : Nat) (g : Nat → Nat → zId) : zOp := fun _ _ P i ls st M => match st with
  | .inr (.inr id) :: st => id.1 = kd ∧ P (i + 1) ls (.inr (.inr (g id.2.1 id.2.2)) :: st) M
  | _ => False
def o_put (kd k : Nat) : zOp := fun _ _ P i ls st M => match st with
  | .inl x :: .inr (.inr id) :: st => id.1 = kd ∧ P (i + 1) ls st (z_up M kd id.2.1 id.2.2 k x)
  | _ => False
def o_putz (kd k : Nat) : zOp := fun _ _ P i ls st M => match st with
  | .inl x :: .inr (.inr id) :: st => id.1 = kd ∧ (x = 0 ∨ x = 1) ∧ P (i + 1) ls st (z_up M kd id.2.1 id.2.2 k x)
  | _ => False
def o_iald : zOp := fun _ _ P i ls st M => match st with
  | .inl j :: .inr (.inr id) :: st => (id.1 = 50 → (id = (50, 0, 0) ∨ id = (50, 0, 1)) ∧ vp_in j 8 ∧ P (i + 1) ls (.inl (z_sd id.2.2 j.toNatClampNeg) :: st) M) ∧ (¬ id.1 = 50 → z_isI id.1 = true ∧ vp_in j (z_len id.1) ∧ P (i + 1) ls (.inl (M.1 id.1 id.2.1 id.2.2 j.toNatClampNeg) :: st) M)
  | _ => False
def o_cald : zOp := fun _ _ P i ls st M => match st with
  | .inl j :: .inr (.inr id) :: st => id.1 = 48 ∧ vp_in j 13 ∧ P (i + 1) ls (.inl (z_bs j.toNatClampNeg) :: st) M
  | _ => False
def o_zald : zOp := fun _ _ P i ls st M => match st with
  | .inl j :: .inr (.inr id) :: st => id.1 = 40 ∧ vp_in j 24 ∧ P (i + 1) ls (.inl (M.1 40 id.2.1 id.2.2 j.toNatClampNeg) :: st) M
  | _ => False
def o_lald : zOp := fun _ _ P i ls st M => match st with
  | .inl j :: .inr (.inr id) :: st => z_isJ id.1 = true ∧ vp_in j 221 ∧ P (i + 1) ls (.inr (.inl (M.2 id.1 j.toNatClampNeg)) :: st) M
  | _ => False
def o_aald : zOp := fun _ _ P i ls st M => match st with
  | .inl j :: .inr (.inr id) :: st => (id.1 = 30 ∨ id.1 = 31) ∧ vp_in j (z_len id.1) ∧ P (i + 1) ls (.inr (.inr (z_elt id.1 id.2.1 j.toNatClampNeg)) :: st) M
  | _ => False
def o_iast : zOp := fun _ _ P i ls st M => match st with
  | .inl x :: .inl j :: .inr (.inr id) :: st => z_isI id.1 = true ∧ vp_in j (z_len id.1) ∧ P (i + 1) ls st (z_up M id.1 id.2.1 id.2.2 j.toNatClampNeg x)
  | _ => False
def o_zast : zOp := fun _ _ P i ls st M => match st with
  | .inl x :: .inl j :: .inr (.inr id) :: st => id.1 = 40 ∧ (x = 0 ∨ x = 1) ∧ vp_in j 24 ∧ P (i + 1) ls st (z_up M 40 id.2.1 id.2.2 j.toNatClampNeg x)
  | _ => False
def o_last : zOp := fun _ _ P i ls st M => match st with
  | .inr (.inl x) :: .inl j :: .inr (.inr id) :: st => z_isJ id.1 = true ∧ vp_in j 221 ∧ P (i + 1) ls st (z_upL M id.1 j.toNatClampNeg x)
  | _ => False
/-- a static row pushed, its length -/
def o_gets (j : Nat) : zOp := fun _ _ P i ls st M => P (i + 1) ls (.inr (.inr (50, 0, j)) :: st) M
def o_alens : zOp := fun _ _ P i ls st M => match st with
  | .inr (.inr id) :: st => (id = (50, 0, 0) ∨ id = (50, 0, 1)) ∧ P (i + 1) ls (.inl 8 :: st) M
  | _ => False
def o_mmax : zOp := fun _ _ P i ls st M => match st with
  | .inl y :: .inl x :: st => z_cats st ≤ 8 ∧ P (i + 1) ls (.inl (if x < y then y else x) :: st) M
  | _ => False
def o_mmin : zOp := fun _ _ P i ls st M => match st with
  | .inl y :: .inl x :: st => z_cats st ≤ 8 ∧ P (i + 1) ls (.inl (if y < x then y else x) :: st) M
  | _ => False
/-- System.arraycopy of a whole row of numbers onto one of the same kind -/
def o_copy (kd n : Nat) : zOp := fun _ _ P i ls st M => match st with
  | .inl c :: .inl d :: .inr (.inr t) :: .inl a :: .inr (.inr f) :: st => t.1 = kd ∧ f.1 = kd ∧ a = 0 ∧ d = 0 ∧ c = nI n ∧ z_cats st ≤ 8 ∧ P (i + 1) ls st (z_cp M kd t.2.1 t.2.2 (fun j => if j < n then M.1 kd f.2.1 f.2.2 j else M.1 kd t.2.1 t.2.2 j))
  | _ => False
def z_pop : Nat → List zV → List zV → Option (List zV × List zV)
  | 0, st, acc => some (acc, st)
  | _ + 1, [], _ => none
  | n + 1, v :: st, acc => z_pop n st (v :: acc)
def z_opt (r : Option zV) (st : List zV) : List zV := match r with
  | none => st
  | some v => v :: st
def o_call (k n : Nat) : zOp := fun O _ P i ls st M => match z_pop n st [] with
  | none => False
  | some (as, st) => z_cats st ≤ 8 ∧ O k as M (fun r M => P (i + 1) ls (z_opt r st) M)
def o_callv (kd k n : Nat) : zOp := fun O _ P i ls st M => match z_pop n st [] with
  | some (.inr (.inr id) :: as, st) => id.1 = kd ∧ z_cats st ≤ 8 ∧ O k (.inr (.inr id) :: as) M (fun r M => P (i + 1) ls (z_opt r st) M)
  | _ => False
def o_ret : zOp := fun _ K _ _ _ st M => match st with
  | [] => K none M
  | _ => False
def o_iret : zOp := fun _ K _ _ _ st M => match st with
  | [.inl x] => K (some (.inl x)) M
  | _ => False
def o_zret : zOp := fun _ K _ _ _ st M => match st with
  | [.inl x] => (x = 0 ∨ x = 1) ∧ K (some (.inl x)) M
  | _ => False
def o_lret : zOp := fun _ K _ _ _ st M => match st with
  | [.inr (.inl x)] => K (some (.inr (.inl x))) M
  | _ => False
def o_aret : zOp := fun _ K _ _ _ st M => match st with
  | [.inr (.inr id)] => ¬ id.1 = 99 ∧ ¬ id.1 = 50 ∧ K (some (.inr (.inr id))) M
  | _ => False
-- the run of a method's body: the least set of places that is closed backwards
def z_run (C : Nat → zOp) (O : zO) (K : zK) : zP := fun i ls st M => ∀ P : zP, (∀ (i : Nat) (ls st : List zV) (M : zMem), (∃ P2 : zP, (∀ i ls st M, P2 i ls st M → P i ls st M) ∧ C i O K P2 i ls st M) → P i ls st M) → P i ls st M
theorem z_step {C : Nat → zOp} {O : zO} {K : zK} {P2 : zP} {i : Nat} {ls st : List zV} {M : zMem} (h2 : ∀ i ls st M, P2 i ls st M → z_run C O K i ls st M) (h : C i O K P2 i ls st M) : z_run C O K i ls st M :=
  fun P hP => hP _ _ _ _ ⟨P2, fun _ _ _ _ h3 => h2 _ _ _ _ h3 P hP, h⟩
def z_in (i : Nat) : List Nat → Bool
  | [] => false
  | a :: l => bif i == a then true else z_in i l
/-- at most n steps, all roads; at a cut, or behind the n steps, it stops -/
def z_wp (C : Nat → zOp) (cut : List Nat) (O : zO) (K : zK) : Nat → zP
  | 0, i, ls, st, M => z_run C O K i ls st M
  | n + 1, i, ls, st, M => if z_in i cut = true then z_run C O K i ls st M else C i O K (z_wp C cut O K n) i ls st M
theorem z_wp_run {C : Nat → zOp} {cut : List Nat} {O : zO} {K : zK} : ∀ (n i : Nat) (ls st : List zV) (M : zMem), z_wp C cut O K n i ls st M → z_run C O K i ls st M
  | 0, _, _, _, _, h => h
  | n + 1, i, ls, st, M, h => by
    unfold z_wp at h
    split at h
    · exact h
    · exact z_step (z_wp_run n) h
/-- the first step is taken also at a cut -/
theorem z_go {C : Nat → zOp} {cut : List Nat} {O : zO} {K : zK} (n : Nat) {i : Nat} {ls st : List zV} {M : zMem} (h : C i O K (z_wp C cut O K n) i ls st M) : z_run C O K i ls st M := z_step (z_wp_run n) h
def z_nop : List zOp → Nat → zOp
  | [], _ => o_bad
  | a :: _, 0 => a
  | _ :: l, k + 1 => z_nop l k
def z_pad (n : Nat) (l : List zV) : List zV := l ++ List.replicate (n - l.length) z_un
def z_lay : List zV → List zV
  | [] => []
  | v :: l => bif z_isL v then v :: z_un :: z_lay l else v :: z_lay l
/-- calls, by depth: 'cd' is each method's code, 'nl' how many locals it has -/
def z_callO (cd : Nat → Nat → zOp) (nl : Nat → Nat) : Nat → zO
  | 0 => fun _ _ _ _ => False
  | h + 1 => fun k as M K => (as.all (fun v => !z_isU v) && decide ((as.map z_cat).sum ≤ nl k)) = true ∧ z_run (cd k) (z_callO cd nl h) K 0 (z_pad (nl k) (z_lay as)) [] M
-- loops
theorem z_loop (P : Nat → Prop) (N : Nat) (hN : P N) (hs : ∀ n, n < N → P (n + 1) → P n) : ∀ n, n ≤ N → P n := by
  intro n hn
  obtain ⟨d, rfl⟩ : ∃ d, N = n + d := ⟨N - n, by omega⟩
  clear hn
  induction d generalizing n with
  | zero => exact hN
  | succ d ih => exact hs n (by omega) (ih (n + 1) (by rw [show n + 1 + d = n + (d + 1) by omega]; exact hN) (fun m hm => hs m (by omega)))
