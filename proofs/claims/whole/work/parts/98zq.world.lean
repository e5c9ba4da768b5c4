/-! constructor: World -/
def wsX8_init_r1 : List Cond := [Cond.methodLink RX8 3 objectInit, Cond.instanceMethod objectInit, Cond.code objectInit ⟨#[0xb1]⟩ 1 none, Cond.classLink RX8 9 RX6, Cond.fieldLink RX8 11 "TagReaders$World" "tags" "[LTagReaders$Tag;", Cond.classLink RX8 17 RX3, Cond.fieldLink RX8 19 "TagReaders$World" "readers" "[LTagReaders$Reader;", Cond.classLink RX8 23 RX1, Cond.instantiable RX1 2, Cond.initialized RX1, Cond.fieldLink RX8 26 "TagReaders$World" "journal" "LTagReaders$Journal;", Cond.arrayClass .int, Cond.fieldLink RX8 30 "TagReaders$World" "counts" "[I", Cond.fieldLink RX8 34 "TagReaders$World" "shortTicks" "I", Cond.fieldLink RX8 38 "TagReaders$World" "longTicks" "I", Cond.fieldLink RX8 41 "TagReaders$World" "chances" "LTagReaders$Chances;", Cond.instantiable RX6 10, Cond.initialized RX6, Cond.instantiable RX3 18, Cond.initialized RX3, Cond.instanceMethod yX1_init, Cond.code yX1_init cX1_init 1 none, Cond.methodLink RX1 3 objectInit, Cond.fieldLink RX1 11 "TagReaders$Journal" "cells" "[I"]
def wsX8_init_r2 : List Cond := [Cond.instanceMethod yX6_init, Cond.code yX6_init cX6_init 1 none, Cond.methodLink RX6 3 objectInit, Cond.fieldLink RX6 9 "TagReaders$Tag" "busy" "I", Cond.fieldLink RX6 15 "TagReaders$Tag" "slot" "I", Cond.methodLink RX8 46 yX3_init, Cond.instanceMethod yX3_init, Cond.code yX3_init cX3_init 1 none, Cond.methodLink RX3 3 objectInit, Cond.fieldLink RX3 9 "TagReaders$Reader" "qf" "I", Cond.fieldLink RX3 15 "TagReaders$Reader" "step" "I", Cond.classLink RX3 18 RX7, Cond.instantiable RX7 3, Cond.initialized RX7, Cond.fieldLink RX3 21 "TagReaders$Reader" "all" "LTagReaders$Tally;", Cond.fieldLink RX3 25 "TagReaders$Reader" "frame" "LTagReaders$Tally;", Cond.fieldLink RX3 28 "TagReaders$Reader" "reads" "[I", Cond.classLink RX3 32 RX2, Cond.instantiable RX2 2, Cond.initialized RX2, Cond.fieldLink RX3 35 "TagReaders$Reader" "row" "LTagReaders$Prefixes;", Cond.fieldLink RX3 39 "TagReaders$Reader" "asked" "LTagReaders$Prefixes;", Cond.fieldLink RX3 42 "TagReaders$Reader" "learnt" "LTagReaders$Prefixes;", Cond.instanceMethod yX7_init]
def wsX8_init_r3 : List Cond := [Cond.code yX7_init cX7_init 1 none, Cond.methodLink RX7 1 objectInit, Cond.instanceMethod yX2_init, Cond.code yX2_init cX2_init 1 none, Cond.methodLink RX2 5 objectInit, Cond.fieldLink RX2 11 "TagReaders$Prefixes" "items" "[I", Cond.methodLink RX3 45 yX2_add, Cond.instanceMethod yX2_add, Cond.selects RX2 yX2_add yX2_add, Cond.code yX2_add cX2_add 2 none, Cond.fieldLink RX2 23 "TagReaders$Prefixes" "size" "I"]
def wsX8_init : List Cond := .code yX8_init cX8_init 3 none :: ((wsX8_init_r1 ++ (wsX8_init_r2 ++ wsX8_init_r3)) ++ wsX80 ++ wsX10 ++ wsX60 ++ wsX30 ++ wsX70 ++ wsX20)
theorem ggX8_init_X1_init : GoodIn wsX8_init wsX1_init := goodIn_r _ [22, 23, 2, 3, 12, 24, 69, 70] (by decide +kernel) (by decide +kernel)
theorem gX8_init_X1_init_n25 : GoodIn wsX8_init (wsX1_init) := ggX8_init_X1_init
theorem ggX8_init_X6_init : GoodIn wsX8_init wsX6_init := goodIn_r _ [26, 27, 2, 3, 28, 29, 71, 72, 73, 74, 75, 76, 77, 78, 79, 80] (by decide +kernel) (by decide +kernel)
theorem gX8_init_X6_init_n45 : GoodIn wsX8_init (wsX6_init) := ggX8_init_X6_init
theorem ggX8_init_X3_init : GoodIn wsX8_init wsX3_init := goodIn_r _ [32, 33, 2, 3, 34, 35, 36, 37, 38, 39, 40, 12, 41, 42, 43, 44, 45, 46, 47, 48, 49, 50, 51, 52, 53, 54, 55, 56, 57, 58, 59, 81, 82, 83, 84, 85, 86, 87, 88, 89, 90, 91, 92, 93, 94, 95, 96, 97, 98, 99, 100, 101, 102, 103] (by decide +kernel) (by decide +kernel)
theorem gX8_init_X3_init : GoodIn wsX8_init (wsX3_init) := ggX8_init_X3_init
theorem dX8_init_0 : decode cX8_init 0 = .ok (.aload_n 0, 1) := by decide +kernel
theorem dX8_init_1 : decode cX8_init 1 = .ok (.invokespecial 3, 3) := by decide +kernel
theorem dX8_init_4 : decode cX8_init 4 = .ok (.aload_n 0, 1) := by decide +kernel
theorem dX8_init_5 : decode cX8_init 5 = .ok (.bipush 24, 2) := by decide +kernel
theorem dX8_init_7 : decode cX8_init 7 = .ok (.anewarray 9, 3) := by decide +kernel
theorem dX8_init_10 : decode cX8_init 10 = .ok (.putfield 11, 3) := by decide +kernel
theorem dX8_init_13 : decode cX8_init 13 = .ok (.aload_n 0, 1) := by decide +kernel
theorem dX8_init_14 : decode cX8_init 14 = .ok (.iconst 4, 1) := by decide +kernel
theorem dX8_init_15 : decode cX8_init 15 = .ok (.anewarray 17, 3) := by decide +kernel
theorem dX8_init_18 : decode cX8_init 18 = .ok (.putfield 19, 3) := by decide +kernel
theorem dX8_init_21 : decode cX8_init 21 = .ok (.aload_n 0, 1) := by decide +kernel
theorem dX8_init_22 : decode cX8_init 22 = .ok (.new 23, 3) := by decide +kernel
theorem dX8_init_25 : decode cX8_init 25 = .ok (.dup, 1) := by decide +kernel
theorem dX8_init_26 : decode cX8_init 26 = .ok (.invokespecial 25, 3) := by decide +kernel
theorem dX8_init_29 : decode cX8_init 29 = .ok (.putfield 26, 3) := by decide +kernel
theorem dX8_init_32 : decode cX8_init 32 = .ok (.aload_n 0, 1) := by decide +kernel
theorem dX8_init_33 : decode cX8_init 33 = .ok (.bipush 14, 2) := by decide +kernel
theorem dX8_init_35 : decode cX8_init 35 = .ok (.newarray .int, 2) := by decide +kernel
theorem dX8_init_37 : decode cX8_init 37 = .ok (.putfield 30, 3) := by decide +kernel
theorem dX8_init_40 : decode cX8_init 40 = .ok (.aload_n 0, 1) := by decide +kernel
theorem dX8_init_41 : decode cX8_init 41 = .ok (.bipush 20, 2) := by decide +kernel
theorem dX8_init_43 : decode cX8_init 43 = .ok (.putfield 34, 3) := by decide +kernel
theorem dX8_init_46 : decode cX8_init 46 = .ok (.aload_n 0, 1) := by decide +kernel
theorem dX8_init_47 : decode cX8_init 47 = .ok (.bipush 40, 2) := by decide +kernel
theorem dX8_init_49 : decode cX8_init 49 = .ok (.putfield 38, 3) := by decide +kernel
theorem dX8_init_52 : decode cX8_init 52 = .ok (.aload_n 0, 1) := by decide +kernel
theorem dX8_init_53 : decode cX8_init 53 = .ok (.aload_n 1, 1) := by decide +kernel
theorem dX8_init_54 : decode cX8_init 54 = .ok (.putfield 41, 3) := by decide +kernel
theorem dX8_init_57 : decode cX8_init 57 = .ok (.iconst 0, 1) := by decide +kernel
theorem dX8_init_58 : decode cX8_init 58 = .ok (.istore_n 2, 1) := by decide +kernel
theorem dX8_init_59 : decode cX8_init 59 = .ok (.iload_n 2, 1) := by decide +kernel
theorem dX8_init_60 : decode cX8_init 60 = .ok (.bipush 24, 2) := by decide +kernel
theorem dX8_init_62 : decode cX8_init 62 = .ok (.if_icmp .ge 22, 3) := by decide +kernel
theorem dX8_init_65 : decode cX8_init 65 = .ok (.aload_n 0, 1) := by decide +kernel
theorem dX8_init_66 : decode cX8_init 66 = .ok (.getfield 11, 3) := by decide +kernel
theorem dX8_init_69 : decode cX8_init 69 = .ok (.iload_n 2, 1) := by decide +kernel
theorem dX8_init_70 : decode cX8_init 70 = .ok (.new 9, 3) := by decide +kernel
theorem dX8_init_73 : decode cX8_init 73 = .ok (.dup, 1) := by decide +kernel
theorem dX8_init_74 : decode cX8_init 74 = .ok (.invokespecial 45, 3) := by decide +kernel
theorem dX8_init_77 : decode cX8_init 77 = .ok (.aastore, 1) := by decide +kernel
theorem dX8_init_78 : decode cX8_init 78 = .ok (.iinc 2 1, 3) := by decide +kernel
theorem dX8_init_81 : decode cX8_init 81 = .ok (.goto (-22), 3) := by decide +kernel
theorem dX8_init_84 : decode cX8_init 84 = .ok (.iconst 0, 1) := by decide +kernel
theorem dX8_init_85 : decode cX8_init 85 = .ok (.istore_n 2, 1) := by decide +kernel
theorem dX8_init_86 : decode cX8_init 86 = .ok (.iload_n 2, 1) := by decide +kernel
theorem dX8_init_87 : decode cX8_init 87 = .ok (.iconst 4, 1) := by decide +kernel
theorem dX8_init_88 : decode cX8_init 88 = .ok (.if_icmp .ge 22, 3) := by decide +kernel
theorem dX8_init_91 : decode cX8_init 91 = .ok (.aload_n 0, 1) := by decide +kernel
theorem dX8_init_92 : decode cX8_init 92 = .ok (.getfield 19, 3) := by decide +kernel
theorem dX8_init_95 : decode cX8_init 95 = .ok (.iload_n 2, 1) := by decide +kernel
theorem dX8_init_96 : decode cX8_init 96 = .ok (.new 17, 3) := by decide +kernel
theorem dX8_init_99 : decode cX8_init 99 = .ok (.dup, 1) := by decide +kernel
theorem dX8_init_100 : decode cX8_init 100 = .ok (.invokespecial 46, 3) := by decide +kernel
theorem dX8_init_103 : decode cX8_init 103 = .ok (.aastore, 1) := by decide +kernel
theorem dX8_init_104 : decode cX8_init 104 = .ok (.iinc 2 1, 3) := by decide +kernel
theorem dX8_init_107 : decode cX8_init 107 = .ok (.goto (-21), 3) := by decide +kernel
theorem dX8_init_110 : decode cX8_init 110 = .ok (.return_, 1) := by decide +kernel
def z_tgN : va_E := .inr (4, [.int 0, .int 0, .int 0, .int 0, .int (-1), .int (-1), .int 0, .int 0, .int 0, .int 0])
def z_rw (ad : Nat → Nat) (n : Nat) : Nat → Option Nat := fun j => if j < n then some (ad j) else none
def z_tgs (ad : Nat → Nat) (n : Nat) : va_W := (List.range n).map (fun j => (ad j, z_tgN))
theorem z_rwS {ad : Nat → Nat} {n q : Nat} (h : n < 24) : va_up (z_rw ad n) (nI n).toNatClampNeg (some q) = z_rw (fun j => if j = n then q else ad j) (n + 1) := by
  rw [nI_clamp (by omega)]
  funext j
  unfold va_up z_rw
  by_cases c : j = n
  · subst c
    simp
  · by_cases d : j < n
    · simp [c, d, Nat.lt_succ_of_lt d]
    · simp [c, d, show ¬ j < n + 1 by omega]
theorem vx_at {ws : va_W} {c : Nat × va_E} : (ws ++ [c])[ws.length]? = some c := by simp
theorem z_tgsS {ad : Nat → Nat} {n q : Nat} : z_tgs (fun j => if j = n then q else ad j) (n + 1) = z_tgs ad n ++ [(q, z_tgN)] := by
  unfold z_tgs
  rw [List.range_succ, List.map_append]
  congr 1
  · refine List.map_congr_left (fun j hj => ?_)
    have h1 := List.mem_range.mp hj
    show ((if j = n then q else ad j), z_tgN) = (ad j, z_tgN)
    rw [if_neg (by omega)]
  · simp

def z_rdc (g : Nat → Nat) (cI : ClassId) : va_W := [(g 0, .inr (3, [.int 0, .int 0, .int 32, .int 2, .int 0, .int 0, .int 0, .int 0, .int 0, .int 0, .int 0, .int 0, .ref (g 1), .ref (g 2), .ref (g 3), .ref (g 4), .ref (g 6), .ref (g 8)])), (g 1, .inr (5, [.int 0, .int 0, .int 0])), (g 2, .inr (5, [.int 0, .int 0, .int 0])), (g 3, .inl (cI, 24, .inl (fun _ => 0))), (g 4, .inr (2, [.ref (g 5), .int 0])), (g 5, .inl (cI, 512, .inl (fun _ => 0))), (g 6, .inr (2, [.ref (g 7), .int 0])), (g 7, .inl (cI, 512, .inl (fun _ => 0))), (g 8, .inr (2, [.ref (g 9), .int 1])), (g 9, .inl (cI, 512, .inl (fun _ => 0)))]
def z_rds (f : Nat → Nat → Nat) (cI : ClassId) : Nat → va_W
  | 0 => []
  | n + 1 => z_rds f cI n ++ z_rdc (f n) cI
theorem z_rdsC {f g : Nat → Nat → Nat} {cI : ClassId} : ∀ n, (∀ j, j < n → f j = g j) → z_rds f cI n = z_rds g cI n
  | 0, _ => rfl
  | n + 1, h => by rw [z_rds, z_rds, z_rdsC n (fun j hj => h j (by omega)), h n (by omega)]
theorem z_rdsS {f : Nat → Nat → Nat} {cI : ClassId} {n : Nat} {g : Nat → Nat} : z_rds (fun j => if j = n then g else f j) cI (n + 1) = z_rds f cI n ++ z_rdc g cI := by
  rw [z_rds, if_pos rfl, z_rdsC n (g := f) (fun j hj => if_neg (by omega))]
theorem z_rwR {f : Nat → Nat → Nat} {n q : Nat} {g : Nat → Nat} (h : n < 4) (hg : g 0 = q) : va_up (z_rw (fun j => f j 0) n) (nI n).toNatClampNeg (some q) = z_rw (fun j => (if j = n then g else f j) 0) (n + 1) := by
  rw [z_rwS (by omega)]
  congr 1
  funext j
  by_cases c : j = n
  · rw [if_pos c, if_pos c, hg]
  · rw [if_neg c, if_neg c]
theorem vx_at2 {ws w : va_W} {c : Nat × va_E} : (ws ++ c :: w)[ws.length]? = some c := by simp

def z_inw (D : va_G) (tys : List (ClassId × FieldType)) (U : State) : Prop := z_ini D tys U ∧ va_AO "TagReaders$Tag" U ∧ va_AO "TagReaders$Reader" U
theorem va_uniqO {D : va_G} {cl : List vw_C} {tys : List (ClassId × FieldType)} {cA cI : ClassId} {k : Nat} {C : String} {U : State} (h : va_K D cl (tys ++ [(cA, .object C)]) U) (hk : tys[k]? = some (cI, .object C)) : cA = cI := by
  have hl : k < tys.length := (List.getElem?_eq_some_iff.mp hk).1
  have h1 := (h.2 k (cI, .object C) (by rw [List.getElem?_append_left hl]; exact hk)).2
  have h2 := (h.2 tys.length (cA, .object C) (by rw [List.getElem?_append_right (Nat.le_refl _)]; simp)).2
  obtain ⟨-, -, -, -, -, h1'⟩ := h1
  obtain ⟨-, -, -, -, -, h2'⟩ := h2
  exact Option.some.inj (h2'.symm.trans h1')
set_option maxHeartbeats 8000000 in
set_option maxRecDepth 100000 in
theorem c_X8_init (l : Launch) (D : va_G) (tys : List (ClassId × FieldType)) (cI cT cR : ClassId) (kI kT kR : Nat) (hI : tys[kI]? = some (cI, .int)) (hT : tys[kT]? = some (cT, .object "TagReaders$Tag")) (hR : tys[kR]? = some (cR, .object "TagReaders$Reader")) (h0 ch sz : Nat) : Met l yX8_init wsX8_init ({ frames := 3, cells := 69, slots := 7111, locals := 128 }) (va_Pc [.ref h0, .ref ch] (fun U => U.heap.size = sz ∧ va_P D vwCl [(h0, .inr (6, [.null, .null, .null, .null, .null, .int 0, .int 0, .int 0, .int 0]))] U.heap ∧ z_inw D tys U ∧ va_D (fun _ => True) [(h0, .inr (6, [.null, .null, .null, .null, .null, .int 0, .int 0, .int 0, .int 0]))])) (va_Qv (fun _ : Int32 => True) (fun _ t => ∃ (qT qR qj ij qc : Nat) (ad : Nat → Nat) (f : Nat → Nat → Nat), va_P D vwCl (([(h0, .inr (6, [.ref ch, .ref qT, .ref qR, .ref qj, .ref qc, .int 0, .int 0, .int 20, .int 40])), (qT, .inl (cT, 24, .inr (.inr (.inr (.inr (z_rw ad 24)))))), (qR, .inl (cR, 4, .inr (.inr (.inr (.inr (z_rw (fun j => f j 0) 4)))))), (qj, .inr (1, [.ref ij, .int 0])), (ij, .inl (cI, 240, .inl (fun _ => 0))), (qc, .inl (cI, 14, .inl (fun _ => 0)))] : va_W) ++ z_tgs ad 24 ++ z_rds f cI 4) t.heap ∧ z_inw D tys t ∧ va_D (va_A [(h0, .inr (6, [.null, .null, .null, .null, .null, .int 0, .int 0, .int 0, .int 0]))] sz) (([(h0, .inr (6, [.ref ch, .ref qT, .ref qR, .ref qj, .ref qc, .int 0, .int 0, .int 20, .int 40])), (qT, .inl (cT, 24, .inr (.inr (.inr (.inr (z_rw ad 24)))))), (qR, .inl (cR, 4, .inr (.inr (.inr (.inr (z_rw (fun j => f j 0) 4)))))), (qj, .inr (1, [.ref ij, .int 0])), (ij, .inl (cI, 240, .inl (fun _ => 0))), (qc, .inl (cI, 14, .inl (fun _ => 0)))] : va_W) ++ z_tgs ad 24 ++ z_rds f cI 4)) (va_A [(h0, .inr (6, [.null, .null, .null, .null, .null, .int 0, .int 0, .int 0, .int 0]))] sz)) 69 7111 (va_A [(h0, .inr (6, [.null, .null, .null, .null, .null, .int 0, .int 0, .int 0, .int 0]))] sz) := by
  refine Met.ofW (cc := cX8_init) (maxL := 3) (ret := none) (by decide) rfl ?_
  intro p e s m args below meth c s₁ B hml hv
  obtain ⟨rfl, hsz, hP, hK, hD0⟩ := hv
  have hx := B.exec
  have hb := B.bytes
  have hr := B.returns
  have hts := atoms_spec (ws := wsX8_init) B.pre
  have hown : s.vm.findClass RX8 = some m.cls := findClass_of_methodNamed B.named
  have hlocks := B.notSynchronized
  have hin : meth.name = "<init>" := (name_of_methodNamed B.named B.method).1
  subst hsz
  have hD := hD0.self (sz := s.heap.size)
  generalize hAe : va_A ([(h0, .inr (6, [.null, .null, .null, .null, .null, .int 0, .int 0, .int 0, .int 0]))] : va_W) s.heap.size = A at hD ⊢
  have hA : ∀ q : Nat, s.heap.size ≤ q → A q := fun q h => by rw [← hAe]; exact Or.inr h
  have hS : va_S A s.heap s.heap [] := va_S.rf
  have hl := lv_entry ([.ref h0, .ref ch]) (n := 3) (Nat.le_of_ble_eq_true rfl)
  rw [lg_entry_eq]
  generalize (lg_sl ([.ref h0, .ref ch]) ++ List.replicate (3 - (lg_sl ([.ref h0, .ref ch])).length) Slot.unset).toArray = ls at hl ⊢
  have hl : lv_has ls 3 [(0, .ref h0), (1, .ref ch)] := hl
  refine lv_aload_n hx hb dX8_init_0 rfl (lv_at hl 0 rfl) ?_
  refine W.objInit hx hb hown (hts (.methodLink RX8 3 objectInit) (by decide +kernel)) (hts (.instanceMethod objectInit) (by decide +kernel)) (hts _ (by decide +kernel)) rfl (by rw [hml]; exact hl.1) rfl dX8_init_1 (Nat.le_of_ble_eq_true rfl) (Nat.le_of_ble_eq_true rfl) ?_
  refine W.eq (g2 := F0 m 4 ls []) rfl ?_
  refine lv_aload_n hx hb dX8_init_4 rfl (lv_at hl 0 rfl) ?_
  refine lv_bipush (v := 24) hx hb dX8_init_5 (by decide) ?_
  have hc1 : 0 + 1 ≤ 69 := by decide
  have hs1 : 0 + 24 ≤ 7111 := by decide
  refine va_newq (C := "TagReaders$Tag") hx hb hown (hts (.classLink RX8 9 RX6) (by decide +kernel)) hK.2.1 hK.1.1 hP hD hS hA (n := 24) (N' := 24) (by decide) (by decide) (by decide) hc1 hs1 dX8_init_7 (fun qT cA H hK2 hP hD hS => ?_)
  obtain rfl := (va_uniqO hK2 hT).symm
  have hP : va_P D vwCl [(h0, .inr (6, [.null, .null, .null, .null, .null, .int 0, .int 0, .int 0, .int 0])), (qT, .inl (cT, 24, .inr (.inr (.inr (.inr (fun _ => none))))))] H := hP
  have hD : va_D A [(h0, .inr (6, [.null, .null, .null, .null, .null, .int 0, .int 0, .int 0, .int 0])), (qT, .inl (cT, 24, .inr (.inr (.inr (.inr (fun _ => none))))))] := hD
  refine W.widen (k := 1) (n := 24) (by omega) (by omega) ?_
  refine va_putF (D := D) (ci := 6) (v := .ref qT) (ty := .array (.object "TagReaders$Tag")) (C := RX8) (T := TX8) (N := 9) hx hb hts (by decide +kernel) tyX8 tyX8_ok nmX8 hown hK.1.1 hP hD hS 0 rfl rfl 1 (by decide) (hts (.fieldLink RX8 11 "TagReaders$World" "tags" "[LTagReaders$Tag;") (by decide +kernel)) (fun _ h9 => h9) rfl hin rfl (by decide +kernel) rfl rfl (Nat.le_of_ble_eq_true rfl) dX8_init_10 (fun H locs hP hD hS => ?_)
  have hP : va_P D vwCl [(h0, .inr (6, [.null, .ref qT, .null, .null, .null, .int 0, .int 0, .int 0, .int 0])), (qT, .inl (cT, 24, .inr (.inr (.inr (.inr (fun _ => none))))))] H := hP
  have hD : va_D A [(h0, .inr (6, [.null, .ref qT, .null, .null, .null, .int 0, .int 0, .int 0, .int 0])), (qT, .inl (cT, 24, .inr (.inr (.inr (.inr (fun _ => none))))))] := hD
  refine lv_aload_n hx hb dX8_init_13 rfl (lv_at hl 0 rfl) ?_
  refine lv_iconst (v := 4) hx hb dX8_init_14 (by decide) ?_
  have hc1 : 1 + 1 ≤ 69 := by decide
  have hs1 : 24 + 4 ≤ 7111 := by decide
  refine va_newq (C := "TagReaders$Reader") hx hb hown (hts (.classLink RX8 17 RX3) (by decide +kernel)) hK.2.2 hK.1.1 hP hD hS hA (n := 4) (N' := 4) (by decide) (by decide) (by decide) hc1 hs1 dX8_init_15 (fun qR cA H hK2 hP hD hS => ?_)
  obtain rfl := (va_uniqO hK2 hR).symm
  have hP : va_P D vwCl [(h0, .inr (6, [.null, .ref qT, .null, .null, .null, .int 0, .int 0, .int 0, .int 0])), (qT, .inl (cT, 24, .inr (.inr (.inr (.inr (fun _ => none)))))), (qR, .inl (cR, 4, .inr (.inr (.inr (.inr (fun _ => none))))))] H := hP
  have hD : va_D A [(h0, .inr (6, [.null, .ref qT, .null, .null, .null, .int 0, .int 0, .int 0, .int 0])), (qT, .inl (cT, 24, .inr (.inr (.inr (.inr (fun _ => none)))))), (qR, .inl (cR, 4, .inr (.inr (.inr (.inr (fun _ => none))))))] := hD
  refine W.widen (k := 2) (n := 28) (by omega) (by omega) ?_
  refine va_putF (D := D) (ci := 6) (v := .ref qR) (ty := .array (.object "TagReaders$Reader")) (C := RX8) (T := TX8) (N := 9) hx hb hts (by decide +kernel) tyX8 tyX8_ok nmX8 hown hK.1.1 hP hD hS 0 rfl rfl 2 (by decide) (hts (.fieldLink RX8 19 "TagReaders$World" "readers" "[LTagReaders$Reader;") (by decide +kernel)) (fun _ h9 => h9) rfl hin rfl (by decide +kernel) rfl rfl (Nat.le_of_ble_eq_true rfl) dX8_init_18 (fun H locs hP hD hS => ?_)
  have hP : va_P D vwCl [(h0, .inr (6, [.null, .ref qT, .ref qR, .null, .null, .int 0, .int 0, .int 0, .int 0])), (qT, .inl (cT, 24, .inr (.inr (.inr (.inr (fun _ => none)))))), (qR, .inl (cR, 4, .inr (.inr (.inr (.inr (fun _ => none))))))] H := hP
  have hD : va_D A [(h0, .inr (6, [.null, .ref qT, .ref qR, .null, .null, .int 0, .int 0, .int 0, .int 0])), (qT, .inl (cT, 24, .inr (.inr (.inr (.inr (fun _ => none)))))), (qR, .inl (cR, 4, .inr (.inr (.inr (.inr (fun _ => none))))))] := hD
  refine lv_aload_n hx hb dX8_init_21 rfl (lv_at hl 0 rfl) ?_
  have hc1 : 2 + 1 ≤ 69 := by decide
  have hs1 : 28 + 2 ≤ 7111 := by decide
  refine va_new (ci := 1) (fs := [.null, .int 0]) (C := RX1) (T := TX1) (N := 2) hx hb hts (by decide +kernel) tyX1 tyX1_ok hown (hts (.classLink RX8 23 RX1) (by decide +kernel)) (hts (.instantiable RX1 2) (by decide +kernel)) (hts (.initialized RX1) (by decide +kernel)) hK.1.1 hP hD hS hA rfl (fun j hj => by rcases (show j = 0 ∨ j = 1 by omega) with rfl | rfl <;> rfl) hc1 hs1 dX8_init_22 (fun qj H hP hD hS => ?_)
  have hP : va_P D vwCl [(h0, .inr (6, [.null, .ref qT, .ref qR, .null, .null, .int 0, .int 0, .int 0, .int 0])), (qT, .inl (cT, 24, .inr (.inr (.inr (.inr (fun _ => none)))))), (qR, .inl (cR, 4, .inr (.inr (.inr (.inr (fun _ => none)))))), (qj, .inr (1, [.null, .int 0]))] H := hP
  have hD : va_D A [(h0, .inr (6, [.null, .ref qT, .ref qR, .null, .null, .int 0, .int 0, .int 0, .int 0])), (qT, .inl (cT, 24, .inr (.inr (.inr (.inr (fun _ => none)))))), (qR, .inl (cR, 4, .inr (.inr (.inr (.inr (fun _ => none)))))), (qj, .inr (1, [.null, .int 0]))] := hD
  refine W.widen (k := 3) (n := 30) (by omega) (by omega) ?_
  refine lv_dup hx hb dX8_init_25 rfl ?_
  have hPc := hP.sub (ws' := [(qj, .inr (1, [.null, .int 0]))]) [3] rfl
  have hDc := hD.sub (ws' := [(qj, .inr (1, [.null, .int 0]))]) [3] (by decide) rfl
  have hFc := va_free (wc := [(qj, .inr (1, [.null, .int 0]))]) hD hS hA [3] rfl
  have hkc : 3 + 1 ≤ 69 := by decide
  have hks : 30 + 240 ≤ 7111 := by decide
  refine va_callv (va_runIN (As := []) (rest := [.ref qj, .ref h0]) ⟨hx, hb, hml, hown, hts⟩ (c_X1_init l D tys cI kI hI qj H.size) ⟨va_cnB 0 hts gX8_init_X1_init_n25 rfl rfl rfl (hK.1.2 _ (List.mem_of_getElem? (i := 0) rfl)) (hts (.initialized RX1) (by decide +kernel)) ⟨by decide, by decide, by decide +kernel⟩ ⟨Nat.le_of_ble_eq_true rfl, Nat.le_of_ble_eq_true rfl⟩, rfl, hts (.instanceMethod yX1_init) (by decide +kernel)⟩ ⟨fun a U g mk q => by obtain ⟨q0, q1, qP, qK, qD⟩ := q; exact ⟨q0, q1, qP, va_K.moved (u := U) (U := U.calling g mk a) (Vm.Alike.refl U.vm) qK, qD⟩, fun U hU hW => ⟨rfl, by rw [hU], by rw [hU]; exact hPc, va_K.moved hW.alike hK.1.1, hDc.weaken (fun _ _ _ _ => trivial)⟩⟩ rfl rfl hl.1 rfl (lv_room (Nat.le_of_ble_eq_true rfl)) dX8_init_26 ⟨hkc, hks⟩) hS (fun q _ h => hFc q h) hFc (fun u t H1 locs ht hvm hw hB hz1 hk1 hS => ?_)
  obtain ⟨ij, rfl⟩ : ∃ z, z = u := ⟨_, rfl⟩
  obtain ⟨hP1, hK1, hD1⟩ := hB
  rw [ht] at hP1
  obtain ⟨hP, hD⟩ := va_join (wr := [(h0, .inr (6, [.null, .ref qT, .ref qR, .null, .null, .int 0, .int 0, .int 0, .int 0])), (qT, .inl (cT, 24, .inr (.inr (.inr (.inr (fun _ => none)))))), (qR, .inl (cR, 4, .inr (.inr (.inr (.inr (fun _ => none))))))]) (w1 := [(qj, .inr (1, [.ref ij, .int 0])), (ij, .inl (cI, 240, .inl (fun _ => 0)))]) hP hD [3] [0, 1, 2] rfl rfl (by decide) (by decide) hk1 hFc hP1 hD1
  generalize H1 = H at hP hS ⊢
  have hP : va_P D vwCl [(h0, .inr (6, [.null, .ref qT, .ref qR, .null, .null, .int 0, .int 0, .int 0, .int 0])), (qT, .inl (cT, 24, .inr (.inr (.inr (.inr (fun _ => none)))))), (qR, .inl (cR, 4, .inr (.inr (.inr (.inr (fun _ => none)))))), (qj, .inr (1, [.ref ij, .int 0])), (ij, .inl (cI, 240, .inl (fun _ => 0)))] H := hP
  have hD : va_D A [(h0, .inr (6, [.null, .ref qT, .ref qR, .null, .null, .int 0, .int 0, .int 0, .int 0])), (qT, .inl (cT, 24, .inr (.inr (.inr (.inr (fun _ => none)))))), (qR, .inl (cR, 4, .inr (.inr (.inr (.inr (fun _ => none)))))), (qj, .inr (1, [.ref ij, .int 0])), (ij, .inl (cI, 240, .inl (fun _ => 0)))] := hD
  refine W.widen (k := 4) (n := 270) (by omega) (by omega) ?_
  refine va_putF (D := D) (ci := 6) (v := .ref qj) (ty := .object "TagReaders$Journal") (C := RX8) (T := TX8) (N := 9) hx hb hts (by decide +kernel) tyX8 tyX8_ok nmX8 hown hK.1.1 hP hD hS 0 rfl rfl 3 (by decide) (hts (.fieldLink RX8 26 "TagReaders$World" "journal" "LTagReaders$Journal;") (by decide +kernel)) (fun _ h9 => h9) rfl hin rfl (by decide +kernel) rfl rfl (Nat.le_of_ble_eq_true rfl) dX8_init_29 (fun H locs hP hD hS => ?_)
  have hP : va_P D vwCl [(h0, .inr (6, [.null, .ref qT, .ref qR, .ref qj, .null, .int 0, .int 0, .int 0, .int 0])), (qT, .inl (cT, 24, .inr (.inr (.inr (.inr (fun _ => none)))))), (qR, .inl (cR, 4, .inr (.inr (.inr (.inr (fun _ => none)))))), (qj, .inr (1, [.ref ij, .int 0])), (ij, .inl (cI, 240, .inl (fun _ => 0)))] H := hP
  have hD : va_D A [(h0, .inr (6, [.null, .ref qT, .ref qR, .ref qj, .null, .int 0, .int 0, .int 0, .int 0])), (qT, .inl (cT, 24, .inr (.inr (.inr (.inr (fun _ => none)))))), (qR, .inl (cR, 4, .inr (.inr (.inr (.inr (fun _ => none)))))), (qj, .inr (1, [.ref ij, .int 0])), (ij, .inl (cI, 240, .inl (fun _ => 0)))] := hD
  refine lv_aload_n hx hb dX8_init_32 rfl (lv_at hl 0 rfl) ?_
  refine lv_bipush (v := 14) hx hb dX8_init_33 (by decide) ?_
  have hc1 : 4 + 1 ≤ 69 := by decide
  have hs1 : 270 + 14 ≤ 7111 := by decide
  refine va_newa (atype := .int) hx hb (hts (.arrayClass .int) (by decide +kernel)) rfl hK.1.1 hP hD hS hA (n := 14) (N' := 14) (a0 := (14, .inl (fun _ => 0))) (fun cA => rfl) (by decide) (by decide) (by decide) hc1 hs1 dX8_init_35 (fun qc cA H hK2 hP hD hS => ?_)
  obtain rfl := (va_uniq hK2 hI).symm
  have hP : va_P D vwCl [(h0, .inr (6, [.null, .ref qT, .ref qR, .ref qj, .null, .int 0, .int 0, .int 0, .int 0])), (qT, .inl (cT, 24, .inr (.inr (.inr (.inr (fun _ => none)))))), (qR, .inl (cR, 4, .inr (.inr (.inr (.inr (fun _ => none)))))), (qj, .inr (1, [.ref ij, .int 0])), (ij, .inl (cI, 240, .inl (fun _ => 0))), (qc, .inl (cI, 14, .inl (fun _ => 0)))] H := hP
  have hD : va_D A [(h0, .inr (6, [.null, .ref qT, .ref qR, .ref qj, .null, .int 0, .int 0, .int 0, .int 0])), (qT, .inl (cT, 24, .inr (.inr (.inr (.inr (fun _ => none)))))), (qR, .inl (cR, 4, .inr (.inr (.inr (.inr (fun _ => none)))))), (qj, .inr (1, [.ref ij, .int 0])), (ij, .inl (cI, 240, .inl (fun _ => 0))), (qc, .inl (cI, 14, .inl (fun _ => 0)))] := hD
  refine W.widen (k := 5) (n := 284) (by omega) (by omega) ?_
  refine va_putF (D := D) (ci := 6) (v := .ref qc) (ty := .array .int) (C := RX8) (T := TX8) (N := 9) hx hb hts (by decide +kernel) tyX8 tyX8_ok nmX8 hown hK.1.1 hP hD hS 0 rfl rfl 4 (by decide) (hts (.fieldLink RX8 30 "TagReaders$World" "counts" "[I") (by decide +kernel)) (fun _ h9 => h9) rfl hin rfl (by decide +kernel) rfl rfl (Nat.le_of_ble_eq_true rfl) dX8_init_37 (fun H locs hP hD hS => ?_)
  have hP : va_P D vwCl [(h0, .inr (6, [.null, .ref qT, .ref qR, .ref qj, .ref qc, .int 0, .int 0, .int 0, .int 0])), (qT, .inl (cT, 24, .inr (.inr (.inr (.inr (fun _ => none)))))), (qR, .inl (cR, 4, .inr (.inr (.inr (.inr (fun _ => none)))))), (qj, .inr (1, [.ref ij, .int 0])), (ij, .inl (cI, 240, .inl (fun _ => 0))), (qc, .inl (cI, 14, .inl (fun _ => 0)))] H := hP
  have hD : va_D A [(h0, .inr (6, [.null, .ref qT, .ref qR, .ref qj, .ref qc, .int 0, .int 0, .int 0, .int 0])), (qT, .inl (cT, 24, .inr (.inr (.inr (.inr (fun _ => none)))))), (qR, .inl (cR, 4, .inr (.inr (.inr (.inr (fun _ => none)))))), (qj, .inr (1, [.ref ij, .int 0])), (ij, .inl (cI, 240, .inl (fun _ => 0))), (qc, .inl (cI, 14, .inl (fun _ => 0)))] := hD
  refine lv_aload_n hx hb dX8_init_40 rfl (lv_at hl 0 rfl) ?_
  refine lv_bipush (v := 20) hx hb dX8_init_41 (by decide) ?_
  refine va_put (D := D) (ci := 6) (v := .int 20) (ty := .int) (C := RX8) (T := TX8) (N := 9) hx hb hts (by decide +kernel) tyX8 tyX8_ok nmX8 hown hK.1.1 hP hD hS 0 rfl rfl 7 (by decide) (hts (.fieldLink RX8 34 "TagReaders$World" "shortTicks" "I") (by decide +kernel)) (fun _ h9 => h9) rfl (by decide +kernel) rfl rfl (Nat.le_of_ble_eq_true rfl) dX8_init_43 (fun H locs hP hD hS => ?_)
  have hP : va_P D vwCl [(h0, .inr (6, [.null, .ref qT, .ref qR, .ref qj, .ref qc, .int 0, .int 0, .int 20, .int 0])), (qT, .inl (cT, 24, .inr (.inr (.inr (.inr (fun _ => none)))))), (qR, .inl (cR, 4, .inr (.inr (.inr (.inr (fun _ => none)))))), (qj, .inr (1, [.ref ij, .int 0])), (ij, .inl (cI, 240, .inl (fun _ => 0))), (qc, .inl (cI, 14, .inl (fun _ => 0)))] H := hP
  have hD : va_D A [(h0, .inr (6, [.null, .ref qT, .ref qR, .ref qj, .ref qc, .int 0, .int 0, .int 20, .int 0])), (qT, .inl (cT, 24, .inr (.inr (.inr (.inr (fun _ => none)))))), (qR, .inl (cR, 4, .inr (.inr (.inr (.inr (fun _ => none)))))), (qj, .inr (1, [.ref ij, .int 0])), (ij, .inl (cI, 240, .inl (fun _ => 0))), (qc, .inl (cI, 14, .inl (fun _ => 0)))] := hD
  refine lv_aload_n hx hb dX8_init_46 rfl (lv_at hl 0 rfl) ?_
  refine lv_bipush (v := 40) hx hb dX8_init_47 (by decide) ?_
  refine va_put (D := D) (ci := 6) (v := .int 40) (ty := .int) (C := RX8) (T := TX8) (N := 9) hx hb hts (by decide +kernel) tyX8 tyX8_ok nmX8 hown hK.1.1 hP hD hS 0 rfl rfl 8 (by decide) (hts (.fieldLink RX8 38 "TagReaders$World" "longTicks" "I") (by decide +kernel)) (fun _ h9 => h9) rfl (by decide +kernel) rfl rfl (Nat.le_of_ble_eq_true rfl) dX8_init_49 (fun H locs hP hD hS => ?_)
  have hP : va_P D vwCl [(h0, .inr (6, [.null, .ref qT, .ref qR, .ref qj, .ref qc, .int 0, .int 0, .int 20, .int 40])), (qT, .inl (cT, 24, .inr (.inr (.inr (.inr (fun _ => none)))))), (qR, .inl (cR, 4, .inr (.inr (.inr (.inr (fun _ => none)))))), (qj, .inr (1, [.ref ij, .int 0])), (ij, .inl (cI, 240, .inl (fun _ => 0))), (qc, .inl (cI, 14, .inl (fun _ => 0)))] H := hP
  have hD : va_D A [(h0, .inr (6, [.null, .ref qT, .ref qR, .ref qj, .ref qc, .int 0, .int 0, .int 20, .int 40])), (qT, .inl (cT, 24, .inr (.inr (.inr (.inr (fun _ => none)))))), (qR, .inl (cR, 4, .inr (.inr (.inr (.inr (fun _ => none)))))), (qj, .inr (1, [.ref ij, .int 0])), (ij, .inl (cI, 240, .inl (fun _ => 0))), (qc, .inl (cI, 14, .inl (fun _ => 0)))] := hD
  refine lv_aload_n hx hb dX8_init_52 rfl (lv_at hl 0 rfl) ?_
  refine lv_aload_n hx hb dX8_init_53 rfl (lv_at hl 1 rfl) ?_
  refine va_putF (D := D) (ci := 6) (v := .ref ch) (ty := .object "TagReaders$Chances") (C := RX8) (T := TX8) (N := 9) hx hb hts (by decide +kernel) tyX8 tyX8_ok nmX8 hown hK.1.1 hP hD hS 0 rfl rfl 0 (by decide) (hts (.fieldLink RX8 41 "TagReaders$World" "chances" "LTagReaders$Chances;") (by decide +kernel)) (fun _ h9 => h9) rfl hin rfl (by decide +kernel) rfl rfl (Nat.le_of_ble_eq_true rfl) dX8_init_54 (fun H locs hP hD hS => ?_)
  have hP : va_P D vwCl [(h0, .inr (6, [.ref ch, .ref qT, .ref qR, .ref qj, .ref qc, .int 0, .int 0, .int 20, .int 40])), (qT, .inl (cT, 24, .inr (.inr (.inr (.inr (fun _ => none)))))), (qR, .inl (cR, 4, .inr (.inr (.inr (.inr (fun _ => none)))))), (qj, .inr (1, [.ref ij, .int 0])), (ij, .inl (cI, 240, .inl (fun _ => 0))), (qc, .inl (cI, 14, .inl (fun _ => 0)))] H := hP
  have hD : va_D A [(h0, .inr (6, [.ref ch, .ref qT, .ref qR, .ref qj, .ref qc, .int 0, .int 0, .int 20, .int 40])), (qT, .inl (cT, 24, .inr (.inr (.inr (.inr (fun _ => none)))))), (qR, .inl (cR, 4, .inr (.inr (.inr (.inr (fun _ => none)))))), (qj, .inr (1, [.ref ij, .int 0])), (ij, .inl (cI, 240, .inl (fun _ => 0))), (qc, .inl (cI, 14, .inl (fun _ => 0)))] := hD
  have loop2 : ∀ k n, n + k = 4 → ∀ (ad : Nat → Nat) (f : Nat → Nat → Nat) (H : Heap) (locs : List Loc) (ls : Array Slot), lv_has ls 3 [(2, .int (nI n)), (0, .ref h0), (1, .ref ch)] → va_P D vwCl (([(h0, .inr (6, [.ref ch, .ref qT, .ref qR, .ref qj, .ref qc, .int 0, .int 0, .int 20, .int 40])), (qT, .inl (cT, 24, .inr (.inr (.inr (.inr (z_rw ad 24)))))), (qR, .inl (cR, 4, .inr (.inr (.inr (.inr (z_rw (fun j => f j 0) n)))))), (qj, .inr (1, [.ref ij, .int 0])), (ij, .inl (cI, 240, .inl (fun _ => 0))), (qc, .inl (cI, 14, .inl (fun _ => 0)))] : va_W) ++ z_tgs ad 24 ++ z_rds f cI n) H → va_D A (([(h0, .inr (6, [.ref ch, .ref qT, .ref qR, .ref qj, .ref qc, .int 0, .int 0, .int 20, .int 40])), (qT, .inl (cT, 24, .inr (.inr (.inr (.inr (z_rw ad 24)))))), (qR, .inl (cR, 4, .inr (.inr (.inr (.inr (z_rw (fun j => f j 0) n)))))), (qj, .inr (1, [.ref ij, .int 0])), (ij, .inl (cI, 240, .inl (fun _ => 0))), (qc, .inl (cI, 14, .inl (fun _ => 0)))] : va_W) ++ z_tgs ad 24 ++ z_rds f cI n) → va_S A s.heap H locs → W p l e (headSpec wsX8_init { frames := 3, cells := 69, slots := 7111, locals := 128 }).room s m #[Value.ref h0, Value.ref ch] below meth c H locs (29 + 10 * n) (524 + 1590 * n) (MQ below (va_Qv (fun _ : Int32 => True) (fun _ t => ∃ (qT qR qj ij qc : Nat) (ad : Nat → Nat) (f : Nat → Nat → Nat), va_P D vwCl (([(h0, .inr (6, [.ref ch, .ref qT, .ref qR, .ref qj, .ref qc, .int 0, .int 0, .int 20, .int 40])), (qT, .inl (cT, 24, .inr (.inr (.inr (.inr (z_rw ad 24)))))), (qR, .inl (cR, 4, .inr (.inr (.inr (.inr (z_rw (fun j => f j 0) 4)))))), (qj, .inr (1, [.ref ij, .int 0])), (ij, .inl (cI, 240, .inl (fun _ => 0))), (qc, .inl (cI, 14, .inl (fun _ => 0)))] : va_W) ++ z_tgs ad 24 ++ z_rds f cI 4) t.heap ∧ z_inw D tys t ∧ va_D (A) (([(h0, .inr (6, [.ref ch, .ref qT, .ref qR, .ref qj, .ref qc, .int 0, .int 0, .int 20, .int 40])), (qT, .inl (cT, 24, .inr (.inr (.inr (.inr (z_rw ad 24)))))), (qR, .inl (cR, 4, .inr (.inr (.inr (.inr (z_rw (fun j => f j 0) 4)))))), (qj, .inr (1, [.ref ij, .int 0])), (ij, .inl (cI, 240, .inl (fun _ => 0))), (qc, .inl (cI, 14, .inl (fun _ => 0)))] : va_W) ++ z_tgs ad 24 ++ z_rds f cI 4)) A) #[Value.ref h0, Value.ref ch] s 69 7111 A) (F0 m 86 ls []) := by
    intro k
    induction k with
    | zero =>
      intro n hn ad f H locs ls hl hP hD hS
      obtain rfl : n = 4 := by omega
      refine lv_iload_n hx hb dX8_init_86 rfl (lv_at hl 0 rfl) ?_
      refine lv_iconst (v := 4) hx hb dX8_init_87 (by decide) ?_
      refine lv_icmp_ge (tgt := 110) hx hb dX8_init_88 (by decide) (fun _ => ?_) (fun z => absurd (show (4 : Int32) ≤ nI 4 by decide) z)
      refine W.widen (k := 69) (n := 7111) (by omega) (by omega) ?_
      exact W.vret hx hb hr (fun t ht hW => ⟨⟨0, rfl, trivial, qT, qR, qj, ij, qc, ad, f, by rw [ht]; exact hP, ⟨z_iniW hK.1 hW, va_AO.moved hW.alike hK.2.1, va_AO.moved hW.alike hK.2.2⟩, hD⟩, hS.F ht⟩) hS.2.2 dX8_init_110
    | succ k ih =>
      intro n hn ad f H locs ls hl hP hD hS
      have n4 : n < 4 := by omega
      refine lv_iload_n hx hb dX8_init_86 rfl (lv_at hl 0 rfl) ?_
      refine lv_iconst (v := 4) hx hb dX8_init_87 (by decide) ?_
      refine lv_icmp_ge (tgt := 110) hx hb dX8_init_88 (by decide) (fun z => absurd z (Int32.not_le.mpr (show nI n < nI 4 from nI_lt n4 (by decide)))) (fun _ => ?_)
      refine lv_aload_n hx hb dX8_init_91 rfl (lv_at hl 1 rfl) ?_
      refine va_get (v := .ref qR) (D := D) (ci := 6) (C := RX8) (T := TX8) (N := 9) hx hb hts (by decide +kernel) hown hK.1.1 hP 0 rfl rfl 2 (by decide) (hts (.fieldLink RX8 19 "TagReaders$World" "readers" "[LTagReaders$Reader;") (by decide +kernel)) (fun _ h9 => h9) rfl dX8_init_92 ?_
      refine lv_iload_n hx hb dX8_init_95 rfl (lv_at hl 0 rfl) ?_
      have hc1 : 29 + 10 * n + 1 ≤ 69 := by omega
      have hs1 : 524 + 1590 * n + 18 ≤ 7111 := by omega
      refine va_new (ci := 3) (fs := [.int 0, .int 0, .int 0, .int 0, .int 0, .int 0, .int 0, .int 0, .int 0, .int 0, .int 0, .int 0, .null, .null, .null, .null, .null, .null]) (C := RX3) (T := TX3) (N := 18) hx hb hts (by decide +kernel) tyX3 tyX3_ok hown (hts (.classLink RX8 17 RX3) (by decide +kernel)) (hts (.instantiable RX3 18) (by decide +kernel)) (hts (.initialized RX3) (by decide +kernel)) hK.1.1 hP hD hS hA rfl (fun j hj => by rcases (show j = 0 ∨ j = 1 ∨ j = 2 ∨ j = 3 ∨ j = 4 ∨ j = 5 ∨ j = 6 ∨ j = 7 ∨ j = 8 ∨ j = 9 ∨ j = 10 ∨ j = 11 ∨ j = 12 ∨ j = 13 ∨ j = 14 ∨ j = 15 ∨ j = 16 ∨ j = 17 by omega) with rfl | rfl | rfl | rfl | rfl | rfl | rfl | rfl | rfl | rfl | rfl | rfl | rfl | rfl | rfl | rfl | rfl | rfl <;> rfl) hc1 hs1 dX8_init_96 (fun q H hP hD hS => ?_)
      refine lv_dup hx hb dX8_init_99 rfl ?_
      generalize hWS : ([(h0, .inr (6, [.ref ch, .ref qT, .ref qR, .ref qj, .ref qc, .int 0, .int 0, .int 20, .int 40])), (qT, .inl (cT, 24, .inr (.inr (.inr (.inr (z_rw ad 24)))))), (qR, .inl (cR, 4, .inr (.inr (.inr (.inr (z_rw (fun j => f j 0) n)))))), (qj, .inr (1, [.ref ij, .int 0])), (ij, .inl (cI, 240, .inl (fun _ => 0))), (qc, .inl (cI, 14, .inl (fun _ => 0)))] : va_W) ++ z_tgs ad 24 ++ z_rds f cI n = WS at hP hD
      have hPc := vx_lastP hP
      have hDc := vx_lastD hD
      have hFc := va_free (wc := [(q, (.inr (3, [.int 0, .int 0, .int 0, .int 0, .int 0, .int 0, .int 0, .int 0, .int 0, .int 0, .int 0, .int 0, .null, .null, .null, .null, .null, .null]) : va_E))]) hD hS hA [WS.length] vx_lastC
      have hkc : 29 + 10 * n + 1 + 9 ≤ 69 := by omega
      have hks : 524 + 1590 * n + 18 + 1572 ≤ 7111 := by omega
      refine va_callv (va_runI (As := []) (rest := [.ref q, .int (nI n), .ref qR]) ⟨hx, hb, hml, hown, hts⟩ (c_X3_init l D tys cI kI hI q H.size) (cwI 0 hts gX8_init_X3_init rfl rfl rfl (hts (.initialized RX3) (by decide +kernel)) (hts (.methodLink RX8 46 yX3_init) (by decide +kernel)) (hts (.instanceMethod yX3_init) (by decide +kernel)) rfl (by decide +kernel) ⟨Nat.le_of_ble_eq_true rfl, Nat.le_of_ble_eq_true rfl⟩) ⟨fun a U g mk q => by obtain ⟨q0, q1, qP, qK, qD⟩ := q; exact ⟨q0, q1, qP, ⟨va_K.moved (u := U) (U := U.calling g mk a) (Vm.Alike.refl U.vm) qK.1, fun q hq => va_Nw.same (u := U) (U := U.calling g mk a) rfl rfl (qK.2 q hq)⟩, qD⟩, fun U hU hW => ⟨rfl, by rw [hU], by rw [hU]; exact hPc, z_iniW hK.1 hW, hDc.weaken (fun _ _ _ _ => trivial)⟩⟩ rfl rfl hl.1 rfl (lv_room (Nat.le_of_ble_eq_true rfl)) dX8_init_100 ⟨hkc, hks⟩) hS (fun q _ h => hFc q h) hFc (fun u t H1 locs ht hvm hw hB hz1 hk1 hS => ?_)
      obtain ⟨g1, g2, g3, g4, g5, g6, g7, g8, g9, hP1, hK1, hD1⟩ := hB
      rw [ht] at hP1
      generalize hg : (fun k => ([q, g1, g2, g3, g4, g5, g6, g7, g8, g9] : List Nat).getD k 0) = g
      have hP1 : va_P D vwCl (z_rdc g cI) H1 := by rw [← hg]; exact hP1
      have hD1 : va_D (va_A [(q, (.inr (3, [.int 0, .int 0, .int 0, .int 0, .int 0, .int 0, .int 0, .int 0, .int 0, .int 0, .int 0, .int 0, .null, .null, .null, .null, .null, .null]) : va_E))] H.size) (z_rdc g cI) := by rw [← hg]; exact hD1
      obtain ⟨hP, hD⟩ := vx_last hP hD hk1 hFc hP1 hD1
      subst hWS
      generalize H1 = H at hP hS ⊢
      have g0 : g 0 = q := by rw [← hg]; rfl
      refine va_astq (q0 := 2) (t0 := kR) (qk := (([(h0, .inr (6, [.ref ch, .ref qT, .ref qR, .ref qj, .ref qc, .int 0, .int 0, .int 20, .int 40])), (qT, .inl (cT, 24, .inr (.inr (.inr (.inr (z_rw ad 24)))))), (qR, .inl (cR, 4, .inr (.inr (.inr (.inr (z_rw (fun j => f j 0) n)))))), (qj, .inr (1, [.ref ij, .int 0])), (ij, .inl (cI, 240, .inl (fun _ => 0))), (qc, .inl (cI, 14, .inl (fun _ => 0)))] : va_W) ++ z_tgs ad 24 ++ z_rds f cI n).length) (ci := 3) (r := (RX3, TX3, 18)) (v := q) hx hb hK.1.1 hP hD hS rfl hR (by rw [← g0]; exact vx_at2) rfl (vp_in_nI n4 (by decide)) dX8_init_103 (fun H locs hP hD hS => ?_)
      rw [z_rwR (g := g) n4 g0] at hP hD
      have hP : va_P D vwCl (([(h0, .inr (6, [.ref ch, .ref qT, .ref qR, .ref qj, .ref qc, .int 0, .int 0, .int 20, .int 40])), (qT, .inl (cT, 24, .inr (.inr (.inr (.inr (z_rw ad 24)))))), (qR, .inl (cR, 4, .inr (.inr (.inr (.inr (z_rw (fun j => (if j = n then g else f j) 0) (n + 1))))))), (qj, .inr (1, [.ref ij, .int 0])), (ij, .inl (cI, 240, .inl (fun _ => 0))), (qc, .inl (cI, 14, .inl (fun _ => 0)))] : va_W) ++ z_tgs ad 24 ++ z_rds f cI n ++ z_rdc g cI) H := hP
      have hD : va_D A (([(h0, .inr (6, [.ref ch, .ref qT, .ref qR, .ref qj, .ref qc, .int 0, .int 0, .int 20, .int 40])), (qT, .inl (cT, 24, .inr (.inr (.inr (.inr (z_rw ad 24)))))), (qR, .inl (cR, 4, .inr (.inr (.inr (.inr (z_rw (fun j => (if j = n then g else f j) 0) (n + 1))))))), (qj, .inr (1, [.ref ij, .int 0])), (ij, .inl (cI, 240, .inl (fun _ => 0))), (qc, .inl (cI, 14, .inl (fun _ => 0)))] : va_W) ++ z_tgs ad 24 ++ z_rds f cI n ++ z_rdc g cI) := hD
      rw [List.append_assoc, ← z_rdsS] at hP hD
      refine lv_iinc (v := nI (n + 1)) (lv' := [(2, .int (nI (n + 1))), (0, .ref h0), (1, .ref ch)]) hx hb dX8_init_104 hl (k := 0) rfl (by rw [← nI_1]; rfl) (by decide) rfl (fun ls hl => ?_)
      refine lv_goto (tgt := 86) hx hb dX8_init_107 (by decide) ?_
      have gg := ih (n + 1) (by omega) ad _ H locs ls hl hP hD hS
      refine W.widen (k := 29 + 10 * (n + 1)) (n := 524 + 1590 * (n + 1)) (by omega) (by omega) ?_
      exact gg
  have loop1 : ∀ k n, n + k = 24 → ∀ (ad : Nat → Nat) (H : Heap) (locs : List Loc) (ls : Array Slot), lv_has ls 3 [(2, .int (nI n)), (0, .ref h0), (1, .ref ch)] → va_P D vwCl (([(h0, .inr (6, [.ref ch, .ref qT, .ref qR, .ref qj, .ref qc, .int 0, .int 0, .int 20, .int 40])), (qT, .inl (cT, 24, .inr (.inr (.inr (.inr (z_rw ad n)))))), (qR, .inl (cR, 4, .inr (.inr (.inr (.inr (fun _ => none)))))), (qj, .inr (1, [.ref ij, .int 0])), (ij, .inl (cI, 240, .inl (fun _ => 0))), (qc, .inl (cI, 14, .inl (fun _ => 0)))] : va_W) ++ z_tgs ad n) H → va_D A (([(h0, .inr (6, [.ref ch, .ref qT, .ref qR, .ref qj, .ref qc, .int 0, .int 0, .int 20, .int 40])), (qT, .inl (cT, 24, .inr (.inr (.inr (.inr (z_rw ad n)))))), (qR, .inl (cR, 4, .inr (.inr (.inr (.inr (fun _ => none)))))), (qj, .inr (1, [.ref ij, .int 0])), (ij, .inl (cI, 240, .inl (fun _ => 0))), (qc, .inl (cI, 14, .inl (fun _ => 0)))] : va_W) ++ z_tgs ad n) → va_S A s.heap H locs → W p l e (headSpec wsX8_init { frames := 3, cells := 69, slots := 7111, locals := 128 }).room s m #[Value.ref h0, Value.ref ch] below meth c H locs (5 + n) (284 + 10 * n) (MQ below (va_Qv (fun _ : Int32 => True) (fun _ t => ∃ (qT qR qj ij qc : Nat) (ad : Nat → Nat) (f : Nat → Nat → Nat), va_P D vwCl (([(h0, .inr (6, [.ref ch, .ref qT, .ref qR, .ref qj, .ref qc, .int 0, .int 0, .int 20, .int 40])), (qT, .inl (cT, 24, .inr (.inr (.inr (.inr (z_rw ad 24)))))), (qR, .inl (cR, 4, .inr (.inr (.inr (.inr (z_rw (fun j => f j 0) 4)))))), (qj, .inr (1, [.ref ij, .int 0])), (ij, .inl (cI, 240, .inl (fun _ => 0))), (qc, .inl (cI, 14, .inl (fun _ => 0)))] : va_W) ++ z_tgs ad 24 ++ z_rds f cI 4) t.heap ∧ z_inw D tys t ∧ va_D (A) (([(h0, .inr (6, [.ref ch, .ref qT, .ref qR, .ref qj, .ref qc, .int 0, .int 0, .int 20, .int 40])), (qT, .inl (cT, 24, .inr (.inr (.inr (.inr (z_rw ad 24)))))), (qR, .inl (cR, 4, .inr (.inr (.inr (.inr (z_rw (fun j => f j 0) 4)))))), (qj, .inr (1, [.ref ij, .int 0])), (ij, .inl (cI, 240, .inl (fun _ => 0))), (qc, .inl (cI, 14, .inl (fun _ => 0)))] : va_W) ++ z_tgs ad 24 ++ z_rds f cI 4)) A) #[Value.ref h0, Value.ref ch] s 69 7111 A) (F0 m 59 ls []) := by
    intro k
    induction k with
    | zero =>
      intro n hn ad H locs ls hl hP hD hS
      obtain rfl : n = 24 := by omega
      refine lv_iload_n hx hb dX8_init_59 rfl (lv_at hl 0 rfl) ?_
      refine lv_bipush (v := 24) hx hb dX8_init_60 (by decide) ?_
      refine lv_icmp_ge (tgt := 84) hx hb dX8_init_62 (by decide) (fun _ => ?_) (fun z => absurd (show (24 : Int32) ≤ nI 24 by decide) z)
      refine lv_iconst (v := 0) hx hb dX8_init_84 (by decide) ?_
      refine lv_istore_n (lv' := [(2, .int (nI 0)), (0, .ref h0), (1, .ref ch)]) hx hb dX8_init_85 rfl hl (by decide) rfl (fun ls hl => ?_)
      have gg := loop2 4 0 (by omega) ad (fun _ _ => 0) H locs ls hl (by rw [show z_rds (fun _ _ => 0) cI 0 = [] from rfl, List.append_nil]; exact hP) (by rw [show z_rds (fun _ _ => 0) cI 0 = [] from rfl, List.append_nil]; exact hD) hS
      exact gg
    | succ k ih =>
      intro n hn ad H locs ls hl hP hD hS
      have n24 : n < 24 := by omega
      refine lv_iload_n hx hb dX8_init_59 rfl (lv_at hl 0 rfl) ?_
      refine lv_bipush (v := 24) hx hb dX8_init_60 (by decide) ?_
      refine lv_icmp_ge (tgt := 84) hx hb dX8_init_62 (by decide) (fun z => absurd z (Int32.not_le.mpr (show nI n < nI 24 from nI_lt n24 (by decide)))) (fun _ => ?_)
      refine lv_aload_n hx hb dX8_init_65 rfl (lv_at hl 1 rfl) ?_
      refine va_get (v := .ref qT) (D := D) (ci := 6) (C := RX8) (T := TX8) (N := 9) hx hb hts (by decide +kernel) hown hK.1.1 hP 0 rfl rfl 1 (by decide) (hts (.fieldLink RX8 11 "TagReaders$World" "tags" "[LTagReaders$Tag;") (by decide +kernel)) (fun _ h9 => h9) rfl dX8_init_66 ?_
      refine lv_iload_n hx hb dX8_init_69 rfl (lv_at hl 0 rfl) ?_
      have hc1 : 5 + n + 1 ≤ 69 := by omega
      have hs1 : 284 + 10 * n + 10 ≤ 7111 := by omega
      refine va_new (ci := 4) (fs := [.int 0, .int 0, .int 0, .int 0, .int 0, .int 0, .int 0, .int 0, .int 0, .int 0]) (C := RX6) (T := TX6) (N := 10) hx hb hts (by decide +kernel) tyX6 tyX6_ok hown (hts (.classLink RX8 9 RX6) (by decide +kernel)) (hts (.instantiable RX6 10) (by decide +kernel)) (hts (.initialized RX6) (by decide +kernel)) hK.1.1 hP hD hS hA rfl (fun j hj => by rcases (show j = 0 ∨ j = 1 ∨ j = 2 ∨ j = 3 ∨ j = 4 ∨ j = 5 ∨ j = 6 ∨ j = 7 ∨ j = 8 ∨ j = 9 by omega) with rfl | rfl | rfl | rfl | rfl | rfl | rfl | rfl | rfl | rfl <;> rfl) hc1 hs1 dX8_init_70 (fun q H hP hD hS => ?_)
      refine lv_dup hx hb dX8_init_73 rfl ?_
      generalize hWS : ([(h0, .inr (6, [.ref ch, .ref qT, .ref qR, .ref qj, .ref qc, .int 0, .int 0, .int 20, .int 40])), (qT, .inl (cT, 24, .inr (.inr (.inr (.inr (z_rw ad n)))))), (qR, .inl (cR, 4, .inr (.inr (.inr (.inr (fun _ => none)))))), (qj, .inr (1, [.ref ij, .int 0])), (ij, .inl (cI, 240, .inl (fun _ => 0))), (qc, .inl (cI, 14, .inl (fun _ => 0)))] : va_W) ++ z_tgs ad n = WS at hP hD
      have hPc := vx_lastP hP
      have hDc := vx_lastD hD
      have hFc := va_free (wc := [(q, (.inr (4, [.int 0, .int 0, .int 0, .int 0, .int 0, .int 0, .int 0, .int 0, .int 0, .int 0]) : va_E))]) hD hS hA [WS.length] vx_lastC
      have hkc : 5 + n + 1 + 0 ≤ 69 := by omega
      have hks : 284 + 10 * n + 10 + 0 ≤ 7111 := by omega
      refine va_callv (va_runIN (As := []) (rest := [.ref q, .int (nI n), .ref qT]) ⟨hx, hb, hml, hown, hts⟩ (c_X6_init l D tys q H.size) ⟨va_cnB 0 hts gX8_init_X6_init_n45 rfl rfl rfl (hK.1.2 _ (List.mem_of_getElem? (i := 1) rfl)) (hts (.initialized RX6) (by decide +kernel)) ⟨by decide, by decide, by decide +kernel⟩ ⟨Nat.le_of_ble_eq_true rfl, Nat.le_of_ble_eq_true rfl⟩, rfl, hts (.instanceMethod yX6_init) (by decide +kernel)⟩ ⟨fun a U g mk q => by obtain ⟨q0, q1, qP, qK, qD⟩ := q; exact ⟨q0, q1, qP, va_K.moved (u := U) (U := U.calling g mk a) (Vm.Alike.refl U.vm) qK, qD⟩, fun U hU hW => ⟨rfl, by rw [hU], by rw [hU]; exact hPc, va_K.moved hW.alike hK.1.1, hDc.weaken (fun _ _ _ _ => trivial)⟩⟩ rfl rfl hl.1 rfl (lv_room (Nat.le_of_ble_eq_true rfl)) dX8_init_74 ⟨hkc, hks⟩) hS (fun q _ h => hFc q h) hFc (fun u t H1 locs ht hvm hw hB hz1 hk1 hS => ?_)
      obtain ⟨hP1, hK1, hD1⟩ := hB
      rw [ht] at hP1
      obtain ⟨hP, hD⟩ := vx_last hP hD hk1 hFc hP1 hD1
      subst hWS
      generalize H1 = H at hP hS ⊢
      have e4 : va_up (z_rw ad n) (nI n).toNatClampNeg (some q) = z_rw (fun j => if j = n then q else ad j) (n + 1) := z_rwS n24
      refine va_astq (q0 := 1) (t0 := kT) (qk := (([(h0, .inr (6, [.ref ch, .ref qT, .ref qR, .ref qj, .ref qc, .int 0, .int 0, .int 20, .int 40])), (qT, .inl (cT, 24, .inr (.inr (.inr (.inr (z_rw ad n)))))), (qR, .inl (cR, 4, .inr (.inr (.inr (.inr (fun _ => none)))))), (qj, .inr (1, [.ref ij, .int 0])), (ij, .inl (cI, 240, .inl (fun _ => 0))), (qc, .inl (cI, 14, .inl (fun _ => 0)))] : va_W) ++ z_tgs ad n).length) (ci := 4) (r := (RX6, TX6, 10)) hx hb hK.1.1 hP hD hS rfl hT vx_at rfl (vp_in_nI n24 (by decide)) dX8_init_77 (fun H locs hP hD hS => ?_)
      rw [e4] at hP hD
      have e5 := z_tgsS (ad := ad) (n := n) (q := q)
      have hP : va_P D vwCl (([(h0, .inr (6, [.ref ch, .ref qT, .ref qR, .ref qj, .ref qc, .int 0, .int 0, .int 20, .int 40])), (qT, .inl (cT, 24, .inr (.inr (.inr (.inr (z_rw (fun j => if j = n then q else ad j) (n + 1))))))), (qR, .inl (cR, 4, .inr (.inr (.inr (.inr (fun _ => none)))))), (qj, .inr (1, [.ref ij, .int 0])), (ij, .inl (cI, 240, .inl (fun _ => 0))), (qc, .inl (cI, 14, .inl (fun _ => 0)))] : va_W) ++ (z_tgs ad n ++ [(q, z_tgN)])) H := hP
      have hD : va_D A (([(h0, .inr (6, [.ref ch, .ref qT, .ref qR, .ref qj, .ref qc, .int 0, .int 0, .int 20, .int 40])), (qT, .inl (cT, 24, .inr (.inr (.inr (.inr (z_rw (fun j => if j = n then q else ad j) (n + 1))))))), (qR, .inl (cR, 4, .inr (.inr (.inr (.inr (fun _ => none)))))), (qj, .inr (1, [.ref ij, .int 0])), (ij, .inl (cI, 240, .inl (fun _ => 0))), (qc, .inl (cI, 14, .inl (fun _ => 0)))] : va_W) ++ (z_tgs ad n ++ [(q, z_tgN)])) := hD
      rw [← e5] at hP hD
      refine lv_iinc (v := nI (n + 1)) (lv' := [(2, .int (nI (n + 1))), (0, .ref h0), (1, .ref ch)]) hx hb dX8_init_78 hl (k := 0) rfl (by rw [← nI_1]; rfl) (by decide) rfl (fun ls hl => ?_)
      refine lv_goto (tgt := 59) hx hb dX8_init_81 (by decide) ?_
      have g := ih (n + 1) (by omega) _ H locs ls hl hP hD hS
      refine W.widen (k := 5 + (n + 1)) (n := 284 + 10 * (n + 1)) (by omega) (by omega) ?_
      exact g
  refine lv_iconst (v := 0) hx hb dX8_init_57 (by decide) ?_
  refine lv_istore_n (lv' := [(2, .int (nI 0)), (0, .ref h0), (1, .ref ch)]) hx hb dX8_init_58 rfl hl (by decide) rfl (fun ls hl => ?_)
  have gg := loop1 24 0 (by omega) (fun _ => 0) H locs ls hl (by rw [show z_tgs (fun _ => 0) 0 = [] from rfl, List.append_nil]; exact hP) (by rw [show z_tgs (fun _ => 0) 0 = [] from rfl, List.append_nil]; exact hD) hS
  exact gg
