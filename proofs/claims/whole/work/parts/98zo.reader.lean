/-! constructor: Reader -/
theorem goodIn_r {big : List Cond} (ws : List Cond) (ps : List Nat) (hp : ws = ps.filterMap (fun i => big[i]?)) (h : ws.all goodWord = true) : GoodIn big ws := fun w hw => ⟨by
  rw [hp] at hw
  obtain ⟨i, -, hi⟩ := List.mem_filterMap.mp hw
  exact List.mem_of_getElem? hi, good_of_word (List.all_eq_true.mp h w hw)⟩
theorem goodIn_app {big a b : List Cond} (ha : GoodIn big a) (hb : GoodIn big b) : GoodIn big (a ++ b) := fun w hw => (List.mem_append.mp hw).elim (ha w) (hb w)
def wsX3_init_r1 : List Cond := [Cond.methodLink RX3 3 objectInit, Cond.instanceMethod objectInit, Cond.code objectInit ⟨#[0xb1]⟩ 1 none, Cond.fieldLink RX3 9 "TagReaders$Reader" "qf" "I", Cond.fieldLink RX3 15 "TagReaders$Reader" "step" "I", Cond.classLink RX3 18 RX7, Cond.instantiable RX7 3, Cond.initialized RX7, Cond.fieldLink RX3 21 "TagReaders$Reader" "all" "LTagReaders$Tally;", Cond.fieldLink RX3 25 "TagReaders$Reader" "frame" "LTagReaders$Tally;", Cond.arrayClass .int, Cond.fieldLink RX3 28 "TagReaders$Reader" "reads" "[I", Cond.classLink RX3 32 RX2, Cond.instantiable RX2 2, Cond.initialized RX2, Cond.fieldLink RX3 35 "TagReaders$Reader" "row" "LTagReaders$Prefixes;", Cond.fieldLink RX3 39 "TagReaders$Reader" "asked" "LTagReaders$Prefixes;", Cond.fieldLink RX3 42 "TagReaders$Reader" "learnt" "LTagReaders$Prefixes;", Cond.instanceMethod yX7_init, Cond.code yX7_init cX7_init 1 none, Cond.methodLink RX7 1 objectInit, Cond.instanceMethod yX2_init, Cond.code yX2_init cX2_init 1 none, Cond.methodLink RX2 5 objectInit]
def wsX3_init_r2 : List Cond := [Cond.fieldLink RX2 11 "TagReaders$Prefixes" "items" "[I", Cond.methodLink RX3 45 yX2_add, Cond.instanceMethod yX2_add, Cond.selects RX2 yX2_add yX2_add, Cond.code yX2_add cX2_add 2 none, Cond.fieldLink RX2 23 "TagReaders$Prefixes" "size" "I"]
def wsX3_init : List Cond := .code yX3_init cX3_init 1 none :: ((wsX3_init_r1 ++ wsX3_init_r2) ++ wsX30 ++ wsX70 ++ wsX20)
theorem ggX3_init_X7_init : GoodIn wsX3_init wsX7_init := goodIn_r _ [20, 21, 2, 3] (by decide +kernel) (by decide +kernel)
theorem gX3_init_X7_init_n20 : GoodIn wsX3_init (wsX7_init) := ggX3_init_X7_init
theorem ggX3_init_X2_init : GoodIn wsX3_init wsX2_init := goodIn_r _ [23, 24, 2, 3, 11, 25, 52, 53] (by decide +kernel) (by decide +kernel)
theorem gX3_init_X2_init_n34 : GoodIn wsX3_init (wsX2_init) := ggX3_init_X2_init
theorem ggX3_init_X2_add : GoodIn wsX3_init wsX2_add := goodIn_r _ [29, 30, 25, 52, 53] (by decide +kernel) (by decide +kernel)
theorem gX3_init_X2_add : GoodIn wsX3_init (wsV RX3 45 RX2 yX2_add wsX2_add) := goodIn_app (goodIn_of _ (by decide +kernel)) ggX3_init_X2_add
theorem dX3_init_0 : decode cX3_init 0 = .ok (.aload_n 0, 1) := by decide +kernel
theorem dX3_init_1 : decode cX3_init 1 = .ok (.invokespecial 3, 3) := by decide +kernel
theorem dX3_init_4 : decode cX3_init 4 = .ok (.aload_n 0, 1) := by decide +kernel
theorem dX3_init_5 : decode cX3_init 5 = .ok (.bipush 32, 2) := by decide +kernel
theorem dX3_init_7 : decode cX3_init 7 = .ok (.putfield 9, 3) := by decide +kernel
theorem dX3_init_10 : decode cX3_init 10 = .ok (.aload_n 0, 1) := by decide +kernel
theorem dX3_init_11 : decode cX3_init 11 = .ok (.iconst 2, 1) := by decide +kernel
theorem dX3_init_12 : decode cX3_init 12 = .ok (.putfield 15, 3) := by decide +kernel
theorem dX3_init_15 : decode cX3_init 15 = .ok (.aload_n 0, 1) := by decide +kernel
theorem dX3_init_16 : decode cX3_init 16 = .ok (.new 18, 3) := by decide +kernel
theorem dX3_init_19 : decode cX3_init 19 = .ok (.dup, 1) := by decide +kernel
theorem dX3_init_20 : decode cX3_init 20 = .ok (.invokespecial 20, 3) := by decide +kernel
theorem dX3_init_23 : decode cX3_init 23 = .ok (.putfield 21, 3) := by decide +kernel
theorem dX3_init_26 : decode cX3_init 26 = .ok (.aload_n 0, 1) := by decide +kernel
theorem dX3_init_27 : decode cX3_init 27 = .ok (.new 18, 3) := by decide +kernel
theorem dX3_init_30 : decode cX3_init 30 = .ok (.dup, 1) := by decide +kernel
theorem dX3_init_31 : decode cX3_init 31 = .ok (.invokespecial 20, 3) := by decide +kernel
theorem dX3_init_34 : decode cX3_init 34 = .ok (.putfield 25, 3) := by decide +kernel
theorem dX3_init_37 : decode cX3_init 37 = .ok (.aload_n 0, 1) := by decide +kernel
theorem dX3_init_38 : decode cX3_init 38 = .ok (.bipush 24, 2) := by decide +kernel
theorem dX3_init_40 : decode cX3_init 40 = .ok (.newarray .int, 2) := by decide +kernel
theorem dX3_init_42 : decode cX3_init 42 = .ok (.putfield 28, 3) := by decide +kernel
theorem dX3_init_45 : decode cX3_init 45 = .ok (.aload_n 0, 1) := by decide +kernel
theorem dX3_init_46 : decode cX3_init 46 = .ok (.new 32, 3) := by decide +kernel
theorem dX3_init_49 : decode cX3_init 49 = .ok (.dup, 1) := by decide +kernel
theorem dX3_init_50 : decode cX3_init 50 = .ok (.invokespecial 34, 3) := by decide +kernel
theorem dX3_init_53 : decode cX3_init 53 = .ok (.putfield 35, 3) := by decide +kernel
theorem dX3_init_56 : decode cX3_init 56 = .ok (.aload_n 0, 1) := by decide +kernel
theorem dX3_init_57 : decode cX3_init 57 = .ok (.new 32, 3) := by decide +kernel
theorem dX3_init_60 : decode cX3_init 60 = .ok (.dup, 1) := by decide +kernel
theorem dX3_init_61 : decode cX3_init 61 = .ok (.invokespecial 34, 3) := by decide +kernel
theorem dX3_init_64 : decode cX3_init 64 = .ok (.putfield 39, 3) := by decide +kernel
theorem dX3_init_67 : decode cX3_init 67 = .ok (.aload_n 0, 1) := by decide +kernel
theorem dX3_init_68 : decode cX3_init 68 = .ok (.new 32, 3) := by decide +kernel
theorem dX3_init_71 : decode cX3_init 71 = .ok (.dup, 1) := by decide +kernel
theorem dX3_init_72 : decode cX3_init 72 = .ok (.invokespecial 34, 3) := by decide +kernel
theorem dX3_init_75 : decode cX3_init 75 = .ok (.putfield 42, 3) := by decide +kernel
theorem dX3_init_78 : decode cX3_init 78 = .ok (.aload_n 0, 1) := by decide +kernel
theorem dX3_init_79 : decode cX3_init 79 = .ok (.getfield 42, 3) := by decide +kernel
theorem dX3_init_82 : decode cX3_init 82 = .ok (.iconst 0, 1) := by decide +kernel
theorem dX3_init_83 : decode cX3_init 83 = .ok (.invokevirtual 45, 3) := by decide +kernel
theorem dX3_init_86 : decode cX3_init 86 = .ok (.return_, 1) := by decide +kernel
def z_ini (D : va_G) (tys : List (ClassId × FieldType)) (U : State) : Prop := va_K D vwCl tys U ∧ ∀ q, q ∈ z_nws → va_Nw (.methodLinkNest q.1 q.2.1 q.2.2.1 q.2.2.2) U
theorem z_iniW {D : va_G} {tys : List (ClassId × FieldType)} {s U : State} (h : z_ini D tys s) (hW : s.WarmedH U.vm) : z_ini D tys U := ⟨va_K.moved hW.alike h.1, fun q hq => va_Nw.warmM hW (h.2 q hq)⟩
set_option maxHeartbeats 8000000 in
set_option maxRecDepth 100000 in
theorem c_X3_init (l : Launch) (D : va_G) (tys : List (ClassId × FieldType)) (cI : ClassId) (kI : Nat) (hI : tys[kI]? = some (cI, .int)) (h0 sz : Nat) : Met l yX3_init wsX3_init ({ frames := 2, cells := 9, slots := 1572, locals := 64 }) (va_Pc [.ref h0] (fun U => U.heap.size = sz ∧ va_P D vwCl [(h0, .inr (3, [.int 0, .int 0, .int 0, .int 0, .int 0, .int 0, .int 0, .int 0, .int 0, .int 0, .int 0, .int 0, .null, .null, .null, .null, .null, .null]))] U.heap ∧ z_ini D tys U ∧ va_D (fun _ => True) [(h0, .inr (3, [.int 0, .int 0, .int 0, .int 0, .int 0, .int 0, .int 0, .int 0, .int 0, .int 0, .int 0, .int 0, .null, .null, .null, .null, .null, .null]))])) (va_Qv (fun _ : Int32 => True) (fun _ t => ∃ qt12 qt13 qr qp15 i15 qp16 i16 qp17 i17 : Nat, va_P D vwCl [(h0, .inr (3, [.int 0, .int 0, .int 32, .int 2, .int 0, .int 0, .int 0, .int 0, .int 0, .int 0, .int 0, .int 0, .ref qt12, .ref qt13, .ref qr, .ref qp15, .ref qp16, .ref qp17])), (qt12, .inr (5, [.int 0, .int 0, .int 0])), (qt13, .inr (5, [.int 0, .int 0, .int 0])), (qr, .inl (cI, 24, .inl (fun _ => 0))), (qp15, .inr (2, [.ref i15, .int 0])), (i15, .inl (cI, 512, .inl (fun _ => 0))), (qp16, .inr (2, [.ref i16, .int 0])), (i16, .inl (cI, 512, .inl (fun _ => 0))), (qp17, .inr (2, [.ref i17, .int 1])), (i17, .inl (cI, 512, .inl (fun _ => 0)))] t.heap ∧ z_ini D tys t ∧ va_D (va_A [(h0, .inr (3, [.int 0, .int 0, .int 0, .int 0, .int 0, .int 0, .int 0, .int 0, .int 0, .int 0, .int 0, .int 0, .null, .null, .null, .null, .null, .null]))] sz) [(h0, .inr (3, [.int 0, .int 0, .int 32, .int 2, .int 0, .int 0, .int 0, .int 0, .int 0, .int 0, .int 0, .int 0, .ref qt12, .ref qt13, .ref qr, .ref qp15, .ref qp16, .ref qp17])), (qt12, .inr (5, [.int 0, .int 0, .int 0])), (qt13, .inr (5, [.int 0, .int 0, .int 0])), (qr, .inl (cI, 24, .inl (fun _ => 0))), (qp15, .inr (2, [.ref i15, .int 0])), (i15, .inl (cI, 512, .inl (fun _ => 0))), (qp16, .inr (2, [.ref i16, .int 0])), (i16, .inl (cI, 512, .inl (fun _ => 0))), (qp17, .inr (2, [.ref i17, .int 1])), (i17, .inl (cI, 512, .inl (fun _ => 0)))]) (va_A [(h0, .inr (3, [.int 0, .int 0, .int 0, .int 0, .int 0, .int 0, .int 0, .int 0, .int 0, .int 0, .int 0, .int 0, .null, .null, .null, .null, .null, .null]))] sz)) 9 1572 (va_A [(h0, .inr (3, [.int 0, .int 0, .int 0, .int 0, .int 0, .int 0, .int 0, .int 0, .int 0, .int 0, .int 0, .int 0, .null, .null, .null, .null, .null, .null]))] sz) := by
  refine Met.ofW (cc := cX3_init) (maxL := 1) (ret := none) (by decide) rfl ?_
  intro p e s m args below meth c s₁ B hml hv
  obtain ⟨rfl, hsz, hP, hK, hD0⟩ := hv
  have hx := B.exec
  have hb := B.bytes
  have hr := B.returns
  have hts := atoms_spec (ws := wsX3_init) B.pre
  have hown : s.vm.findClass RX3 = some m.cls := findClass_of_methodNamed B.named
  have hlocks := B.notSynchronized
  have hin : meth.name = "<init>" := (name_of_methodNamed B.named B.method).1
  subst hsz
  have hD := hD0.self (sz := s.heap.size)
  generalize hAe : va_A ([(h0, .inr (3, [.int 0, .int 0, .int 0, .int 0, .int 0, .int 0, .int 0, .int 0, .int 0, .int 0, .int 0, .int 0, .null, .null, .null, .null, .null, .null]))] : va_W) s.heap.size = A at hD ⊢
  have hA : ∀ q : Nat, s.heap.size ≤ q → A q := fun q h => by rw [← hAe]; exact Or.inr h
  have hS : va_S A s.heap s.heap [] := va_S.rf
  have hl := lv_entry ([.ref h0]) (n := 1) (Nat.le_of_ble_eq_true rfl)
  rw [lg_entry_eq]
  generalize (lg_sl ([.ref h0]) ++ List.replicate (1 - (lg_sl ([.ref h0])).length) Slot.unset).toArray = ls at hl ⊢
  have hl : lv_has ls 1 [(0, .ref h0)] := hl
  refine lv_aload_n hx hb dX3_init_0 rfl (lv_at hl 0 rfl) ?_
  refine W.objInit hx hb hown (hts (.methodLink RX3 3 objectInit) (by decide +kernel)) (hts (.instanceMethod objectInit) (by decide +kernel)) (hts _ (by decide +kernel)) rfl (by rw [hml]; exact hl.1) rfl dX3_init_1 (Nat.le_of_ble_eq_true rfl) (Nat.le_of_ble_eq_true rfl) ?_
  refine W.eq (g2 := F0 m 4 ls []) rfl ?_
  refine lv_aload_n hx hb dX3_init_4 rfl (lv_at hl 0 rfl) ?_
  refine lv_bipush (v := 32) hx hb dX3_init_5 (by decide) ?_
  refine va_put (D := D) (ci := 3) (v := .int 32) (ty := .int) (C := RX3) (T := TX3) (N := 18) hx hb hts (by decide +kernel) tyX3 tyX3_ok nmX3 hown hK.1 hP hD hS 0 rfl rfl 2 (by decide) (hts (.fieldLink RX3 9 "TagReaders$Reader" "qf" "I") (by decide +kernel)) (fun _ h9 => h9) rfl (by decide +kernel) rfl rfl (Nat.le_of_ble_eq_true rfl) dX3_init_7 (fun H locs hP hD hS => ?_)
  have hP : va_P D vwCl [(h0, .inr (3, [.int 0, .int 0, .int 32, .int 0, .int 0, .int 0, .int 0, .int 0, .int 0, .int 0, .int 0, .int 0, .null, .null, .null, .null, .null, .null]))] H := hP
  have hD : va_D A [(h0, .inr (3, [.int 0, .int 0, .int 32, .int 0, .int 0, .int 0, .int 0, .int 0, .int 0, .int 0, .int 0, .int 0, .null, .null, .null, .null, .null, .null]))] := hD
  refine lv_aload_n hx hb dX3_init_10 rfl (lv_at hl 0 rfl) ?_
  refine lv_iconst (v := 2) hx hb dX3_init_11 (by decide) ?_
  refine va_put (D := D) (ci := 3) (v := .int 2) (ty := .int) (C := RX3) (T := TX3) (N := 18) hx hb hts (by decide +kernel) tyX3 tyX3_ok nmX3 hown hK.1 hP hD hS 0 rfl rfl 3 (by decide) (hts (.fieldLink RX3 15 "TagReaders$Reader" "step" "I") (by decide +kernel)) (fun _ h9 => h9) rfl (by decide +kernel) rfl rfl (Nat.le_of_ble_eq_true rfl) dX3_init_12 (fun H locs hP hD hS => ?_)
  have hP : va_P D vwCl [(h0, .inr (3, [.int 0, .int 0, .int 32, .int 2, .int 0, .int 0, .int 0, .int 0, .int 0, .int 0, .int 0, .int 0, .null, .null, .null, .null, .null, .null]))] H := hP
  have hD : va_D A [(h0, .inr (3, [.int 0, .int 0, .int 32, .int 2, .int 0, .int 0, .int 0, .int 0, .int 0, .int 0, .int 0, .int 0, .null, .null, .null, .null, .null, .null]))] := hD
  refine lv_aload_n hx hb dX3_init_15 rfl (lv_at hl 0 rfl) ?_
  have hc1 : 0 + 1 ≤ 9 := by decide
  have hs1 : 0 + 3 ≤ 1572 := by decide
  refine va_new (ci := 5) (fs := [.int 0, .int 0, .int 0]) (C := RX7) (T := TX7) (N := 3) hx hb hts (by decide +kernel) tyX7 tyX7_ok hown (hts (.classLink RX3 18 RX7) (by decide +kernel)) (hts (.instantiable RX7 3) (by decide +kernel)) (hts (.initialized RX7) (by decide +kernel)) hK.1 hP hD hS hA rfl (fun j hj => by rcases (show j = 0 ∨ j = 1 ∨ j = 2 by omega) with rfl | rfl | rfl <;> rfl) hc1 hs1 dX3_init_16 (fun qt12 H hP hD hS => ?_)
  have hP : va_P D vwCl [(h0, .inr (3, [.int 0, .int 0, .int 32, .int 2, .int 0, .int 0, .int 0, .int 0, .int 0, .int 0, .int 0, .int 0, .null, .null, .null, .null, .null, .null])), (qt12, .inr (5, [.int 0, .int 0, .int 0]))] H := hP
  have hD : va_D A [(h0, .inr (3, [.int 0, .int 0, .int 32, .int 2, .int 0, .int 0, .int 0, .int 0, .int 0, .int 0, .int 0, .int 0, .null, .null, .null, .null, .null, .null])), (qt12, .inr (5, [.int 0, .int 0, .int 0]))] := hD
  refine W.widen (k := 1) (n := 3) (by omega) (by omega) ?_
  refine lv_dup hx hb dX3_init_19 rfl ?_
  have hPc := hP.sub (ws' := [(qt12, .inr (5, [.int 0, .int 0, .int 0]))]) [1] rfl
  have hDc := hD.sub (ws' := [(qt12, .inr (5, [.int 0, .int 0, .int 0]))]) [1] (by decide) rfl
  have hFc := va_free (wc := [(qt12, .inr (5, [.int 0, .int 0, .int 0]))]) hD hS hA [1] rfl
  have hkc : 1 + 0 ≤ 9 := by decide
  have hks : 3 + 0 ≤ 1572 := by decide
  refine va_callv (va_runIN (As := []) (rest := [.ref qt12, .ref h0]) ⟨hx, hb, hml, hown, hts⟩ (c_X7_init l D tys qt12 H.size) ⟨va_cnB 0 hts gX3_init_X7_init_n20 rfl rfl rfl (hK.2 _ (List.mem_of_getElem? (i := 2) rfl)) (hts (.initialized RX7) (by decide +kernel)) ⟨by decide, by decide, by decide +kernel⟩ ⟨Nat.le_of_ble_eq_true rfl, Nat.le_of_ble_eq_true rfl⟩, rfl, hts (.instanceMethod yX7_init) (by decide +kernel)⟩ ⟨fun a U g mk q => by obtain ⟨q0, q1, qP, qK, qD⟩ := q; exact ⟨q0, q1, qP, va_K.moved (u := U) (U := U.calling g mk a) (Vm.Alike.refl U.vm) qK, qD⟩, fun U hU hW => ⟨rfl, by rw [hU], by rw [hU]; exact hPc, va_K.moved hW.alike hK.1, hDc.weaken (fun _ _ _ _ => trivial)⟩⟩ rfl rfl hl.1 rfl (lv_room (Nat.le_of_ble_eq_true rfl)) dX3_init_20 ⟨hkc, hks⟩) hS (fun q _ h => hFc q h) hFc (fun u t H1 locs ht hvm hw hB hz1 hk1 hS => ?_)
  obtain ⟨u12, rfl⟩ : ∃ z, z = u := ⟨_, rfl⟩
  obtain ⟨hP1, hK1, hD1⟩ := hB
  rw [ht] at hP1
  obtain ⟨hP, hD⟩ := va_join (wr := [(h0, .inr (3, [.int 0, .int 0, .int 32, .int 2, .int 0, .int 0, .int 0, .int 0, .int 0, .int 0, .int 0, .int 0, .null, .null, .null, .null, .null, .null]))]) (w1 := [(qt12, .inr (5, [.int 0, .int 0, .int 0]))]) hP hD [1] [0] rfl rfl (by decide) (by decide) hk1 hFc hP1 hD1
  generalize H1 = H at hP hS ⊢
  have hP : va_P D vwCl [(h0, .inr (3, [.int 0, .int 0, .int 32, .int 2, .int 0, .int 0, .int 0, .int 0, .int 0, .int 0, .int 0, .int 0, .null, .null, .null, .null, .null, .null])), (qt12, .inr (5, [.int 0, .int 0, .int 0]))] H := hP
  have hD : va_D A [(h0, .inr (3, [.int 0, .int 0, .int 32, .int 2, .int 0, .int 0, .int 0, .int 0, .int 0, .int 0, .int 0, .int 0, .null, .null, .null, .null, .null, .null])), (qt12, .inr (5, [.int 0, .int 0, .int 0]))] := hD
  refine W.widen (k := 1) (n := 3) (by omega) (by omega) ?_
  refine va_putF (D := D) (ci := 3) (v := .ref qt12) (ty := .object "TagReaders$Tally") (C := RX3) (T := TX3) (N := 18) hx hb hts (by decide +kernel) tyX3 tyX3_ok nmX3 hown hK.1 hP hD hS 0 rfl rfl 12 (by decide) (hts (.fieldLink RX3 21 "TagReaders$Reader" "all" "LTagReaders$Tally;") (by decide +kernel)) (fun _ h9 => h9) rfl hin rfl (by decide +kernel) rfl rfl (Nat.le_of_ble_eq_true rfl) dX3_init_23 (fun H locs hP hD hS => ?_)
  have hP : va_P D vwCl [(h0, .inr (3, [.int 0, .int 0, .int 32, .int 2, .int 0, .int 0, .int 0, .int 0, .int 0, .int 0, .int 0, .int 0, .ref qt12, .null, .null, .null, .null, .null])), (qt12, .inr (5, [.int 0, .int 0, .int 0]))] H := hP
  have hD : va_D A [(h0, .inr (3, [.int 0, .int 0, .int 32, .int 2, .int 0, .int 0, .int 0, .int 0, .int 0, .int 0, .int 0, .int 0, .ref qt12, .null, .null, .null, .null, .null])), (qt12, .inr (5, [.int 0, .int 0, .int 0]))] := hD
  refine lv_aload_n hx hb dX3_init_26 rfl (lv_at hl 0 rfl) ?_
  have hc1 : 1 + 1 ≤ 9 := by decide
  have hs1 : 3 + 3 ≤ 1572 := by decide
  refine va_new (ci := 5) (fs := [.int 0, .int 0, .int 0]) (C := RX7) (T := TX7) (N := 3) hx hb hts (by decide +kernel) tyX7 tyX7_ok hown (hts (.classLink RX3 18 RX7) (by decide +kernel)) (hts (.instantiable RX7 3) (by decide +kernel)) (hts (.initialized RX7) (by decide +kernel)) hK.1 hP hD hS hA rfl (fun j hj => by rcases (show j = 0 ∨ j = 1 ∨ j = 2 by omega) with rfl | rfl | rfl <;> rfl) hc1 hs1 dX3_init_27 (fun qt13 H hP hD hS => ?_)
  have hP : va_P D vwCl [(h0, .inr (3, [.int 0, .int 0, .int 32, .int 2, .int 0, .int 0, .int 0, .int 0, .int 0, .int 0, .int 0, .int 0, .ref qt12, .null, .null, .null, .null, .null])), (qt12, .inr (5, [.int 0, .int 0, .int 0])), (qt13, .inr (5, [.int 0, .int 0, .int 0]))] H := hP
  have hD : va_D A [(h0, .inr (3, [.int 0, .int 0, .int 32, .int 2, .int 0, .int 0, .int 0, .int 0, .int 0, .int 0, .int 0, .int 0, .ref qt12, .null, .null, .null, .null, .null])), (qt12, .inr (5, [.int 0, .int 0, .int 0])), (qt13, .inr (5, [.int 0, .int 0, .int 0]))] := hD
  refine W.widen (k := 2) (n := 6) (by omega) (by omega) ?_
  refine lv_dup hx hb dX3_init_30 rfl ?_
  have hPc := hP.sub (ws' := [(qt13, .inr (5, [.int 0, .int 0, .int 0]))]) [2] rfl
  have hDc := hD.sub (ws' := [(qt13, .inr (5, [.int 0, .int 0, .int 0]))]) [2] (by decide) rfl
  have hFc := va_free (wc := [(qt13, .inr (5, [.int 0, .int 0, .int 0]))]) hD hS hA [2] rfl
  have hkc : 2 + 0 ≤ 9 := by decide
  have hks : 6 + 0 ≤ 1572 := by decide
  refine va_callv (va_runIN (As := []) (rest := [.ref qt13, .ref h0]) ⟨hx, hb, hml, hown, hts⟩ (c_X7_init l D tys qt13 H.size) ⟨va_cnB 0 hts gX3_init_X7_init_n20 rfl rfl rfl (hK.2 _ (List.mem_of_getElem? (i := 2) rfl)) (hts (.initialized RX7) (by decide +kernel)) ⟨by decide, by decide, by decide +kernel⟩ ⟨Nat.le_of_ble_eq_true rfl, Nat.le_of_ble_eq_true rfl⟩, rfl, hts (.instanceMethod yX7_init) (by decide +kernel)⟩ ⟨fun a U g mk q => by obtain ⟨q0, q1, qP, qK, qD⟩ := q; exact ⟨q0, q1, qP, va_K.moved (u := U) (U := U.calling g mk a) (Vm.Alike.refl U.vm) qK, qD⟩, fun U hU hW => ⟨rfl, by rw [hU], by rw [hU]; exact hPc, va_K.moved hW.alike hK.1, hDc.weaken (fun _ _ _ _ => trivial)⟩⟩ rfl rfl hl.1 rfl (lv_room (Nat.le_of_ble_eq_true rfl)) dX3_init_31 ⟨hkc, hks⟩) hS (fun q _ h => hFc q h) hFc (fun u t H1 locs ht hvm hw hB hz1 hk1 hS => ?_)
  obtain ⟨u13, rfl⟩ : ∃ z, z = u := ⟨_, rfl⟩
  obtain ⟨hP1, hK1, hD1⟩ := hB
  rw [ht] at hP1
  obtain ⟨hP, hD⟩ := va_join (wr := [(h0, .inr (3, [.int 0, .int 0, .int 32, .int 2, .int 0, .int 0, .int 0, .int 0, .int 0, .int 0, .int 0, .int 0, .ref qt12, .null, .null, .null, .null, .null])), (qt12, .inr (5, [.int 0, .int 0, .int 0]))]) (w1 := [(qt13, .inr (5, [.int 0, .int 0, .int 0]))]) hP hD [2] [0, 1] rfl rfl (by decide) (by decide) hk1 hFc hP1 hD1
  generalize H1 = H at hP hS ⊢
  have hP : va_P D vwCl [(h0, .inr (3, [.int 0, .int 0, .int 32, .int 2, .int 0, .int 0, .int 0, .int 0, .int 0, .int 0, .int 0, .int 0, .ref qt12, .null, .null, .null, .null, .null])), (qt12, .inr (5, [.int 0, .int 0, .int 0])), (qt13, .inr (5, [.int 0, .int 0, .int 0]))] H := hP
  have hD : va_D A [(h0, .inr (3, [.int 0, .int 0, .int 32, .int 2, .int 0, .int 0, .int 0, .int 0, .int 0, .int 0, .int 0, .int 0, .ref qt12, .null, .null, .null, .null, .null])), (qt12, .inr (5, [.int 0, .int 0, .int 0])), (qt13, .inr (5, [.int 0, .int 0, .int 0]))] := hD
  refine W.widen (k := 2) (n := 6) (by omega) (by omega) ?_
  refine va_putF (D := D) (ci := 3) (v := .ref qt13) (ty := .object "TagReaders$Tally") (C := RX3) (T := TX3) (N := 18) hx hb hts (by decide +kernel) tyX3 tyX3_ok nmX3 hown hK.1 hP hD hS 0 rfl rfl 13 (by decide) (hts (.fieldLink RX3 25 "TagReaders$Reader" "frame" "LTagReaders$Tally;") (by decide +kernel)) (fun _ h9 => h9) rfl hin rfl (by decide +kernel) rfl rfl (Nat.le_of_ble_eq_true rfl) dX3_init_34 (fun H locs hP hD hS => ?_)
  have hP : va_P D vwCl [(h0, .inr (3, [.int 0, .int 0, .int 32, .int 2, .int 0, .int 0, .int 0, .int 0, .int 0, .int 0, .int 0, .int 0, .ref qt12, .ref qt13, .null, .null, .null, .null])), (qt12, .inr (5, [.int 0, .int 0, .int 0])), (qt13, .inr (5, [.int 0, .int 0, .int 0]))] H := hP
  have hD : va_D A [(h0, .inr (3, [.int 0, .int 0, .int 32, .int 2, .int 0, .int 0, .int 0, .int 0, .int 0, .int 0, .int 0, .int 0, .ref qt12, .ref qt13, .null, .null, .null, .null])), (qt12, .inr (5, [.int 0, .int 0, .int 0])), (qt13, .inr (5, [.int 0, .int 0, .int 0]))] := hD
  refine lv_aload_n hx hb dX3_init_37 rfl (lv_at hl 0 rfl) ?_
  refine lv_bipush (v := 24) hx hb dX3_init_38 (by decide) ?_
  have hc1 : 2 + 1 ≤ 9 := by decide
  have hs1 : 6 + 24 ≤ 1572 := by decide
  refine va_newa (atype := .int) hx hb (hts (.arrayClass .int) (by decide +kernel)) rfl hK.1 hP hD hS hA (n := 24) (N' := 24) (a0 := (24, .inl (fun _ => 0))) (fun cA => rfl) (by decide) (by decide) (by decide) hc1 hs1 dX3_init_40 (fun qr cA H hK2 hP hD hS => ?_)
  have hcA := va_uniq hK2 hI
  subst hcA
  have hP : va_P D vwCl [(h0, .inr (3, [.int 0, .int 0, .int 32, .int 2, .int 0, .int 0, .int 0, .int 0, .int 0, .int 0, .int 0, .int 0, .ref qt12, .ref qt13, .null, .null, .null, .null])), (qt12, .inr (5, [.int 0, .int 0, .int 0])), (qt13, .inr (5, [.int 0, .int 0, .int 0])), (qr, .inl (cA, 24, .inl (fun _ => 0)))] H := hP
  have hD : va_D A [(h0, .inr (3, [.int 0, .int 0, .int 32, .int 2, .int 0, .int 0, .int 0, .int 0, .int 0, .int 0, .int 0, .int 0, .ref qt12, .ref qt13, .null, .null, .null, .null])), (qt12, .inr (5, [.int 0, .int 0, .int 0])), (qt13, .inr (5, [.int 0, .int 0, .int 0])), (qr, .inl (cA, 24, .inl (fun _ => 0)))] := hD
  refine W.widen (k := 3) (n := 30) (by omega) (by omega) ?_
  refine va_putF (D := D) (ci := 3) (v := .ref qr) (ty := .array .int) (C := RX3) (T := TX3) (N := 18) hx hb hts (by decide +kernel) tyX3 tyX3_ok nmX3 hown hK.1 hP hD hS 0 rfl rfl 14 (by decide) (hts (.fieldLink RX3 28 "TagReaders$Reader" "reads" "[I") (by decide +kernel)) (fun _ h9 => h9) rfl hin rfl (by decide +kernel) rfl rfl (Nat.le_of_ble_eq_true rfl) dX3_init_42 (fun H locs hP hD hS => ?_)
  have hP : va_P D vwCl [(h0, .inr (3, [.int 0, .int 0, .int 32, .int 2, .int 0, .int 0, .int 0, .int 0, .int 0, .int 0, .int 0, .int 0, .ref qt12, .ref qt13, .ref qr, .null, .null, .null])), (qt12, .inr (5, [.int 0, .int 0, .int 0])), (qt13, .inr (5, [.int 0, .int 0, .int 0])), (qr, .inl (cA, 24, .inl (fun _ => 0)))] H := hP
  have hD : va_D A [(h0, .inr (3, [.int 0, .int 0, .int 32, .int 2, .int 0, .int 0, .int 0, .int 0, .int 0, .int 0, .int 0, .int 0, .ref qt12, .ref qt13, .ref qr, .null, .null, .null])), (qt12, .inr (5, [.int 0, .int 0, .int 0])), (qt13, .inr (5, [.int 0, .int 0, .int 0])), (qr, .inl (cA, 24, .inl (fun _ => 0)))] := hD
  refine lv_aload_n hx hb dX3_init_45 rfl (lv_at hl 0 rfl) ?_
  have hc1 : 3 + 1 ≤ 9 := by decide
  have hs1 : 30 + 2 ≤ 1572 := by decide
  refine va_new (ci := 2) (fs := [.null, .int 0]) (C := RX2) (T := TX2) (N := 2) hx hb hts (by decide +kernel) tyX2 tyX2_ok hown (hts (.classLink RX3 32 RX2) (by decide +kernel)) (hts (.instantiable RX2 2) (by decide +kernel)) (hts (.initialized RX2) (by decide +kernel)) hK.1 hP hD hS hA rfl (fun j hj => by rcases (show j = 0 ∨ j = 1 by omega) with rfl | rfl <;> rfl) hc1 hs1 dX3_init_46 (fun qp15 H hP hD hS => ?_)
  have hP : va_P D vwCl [(h0, .inr (3, [.int 0, .int 0, .int 32, .int 2, .int 0, .int 0, .int 0, .int 0, .int 0, .int 0, .int 0, .int 0, .ref qt12, .ref qt13, .ref qr, .null, .null, .null])), (qt12, .inr (5, [.int 0, .int 0, .int 0])), (qt13, .inr (5, [.int 0, .int 0, .int 0])), (qr, .inl (cA, 24, .inl (fun _ => 0))), (qp15, .inr (2, [.null, .int 0]))] H := hP
  have hD : va_D A [(h0, .inr (3, [.int 0, .int 0, .int 32, .int 2, .int 0, .int 0, .int 0, .int 0, .int 0, .int 0, .int 0, .int 0, .ref qt12, .ref qt13, .ref qr, .null, .null, .null])), (qt12, .inr (5, [.int 0, .int 0, .int 0])), (qt13, .inr (5, [.int 0, .int 0, .int 0])), (qr, .inl (cA, 24, .inl (fun _ => 0))), (qp15, .inr (2, [.null, .int 0]))] := hD
  refine W.widen (k := 4) (n := 32) (by omega) (by omega) ?_
  refine lv_dup hx hb dX3_init_49 rfl ?_
  have hPc := hP.sub (ws' := [(qp15, .inr (2, [.null, .int 0]))]) [4] rfl
  have hDc := hD.sub (ws' := [(qp15, .inr (2, [.null, .int 0]))]) [4] (by decide) rfl
  have hFc := va_free (wc := [(qp15, .inr (2, [.null, .int 0]))]) hD hS hA [4] rfl
  have hkc : 4 + 1 ≤ 9 := by decide
  have hks : 32 + 512 ≤ 1572 := by decide
  refine va_callv (va_runIN (As := []) (rest := [.ref qp15, .ref h0]) ⟨hx, hb, hml, hown, hts⟩ (c_X2_init l D tys cA kI hI qp15 H.size) ⟨va_cnB 0 hts gX3_init_X2_init_n34 rfl rfl rfl (hK.2 _ (List.mem_of_getElem? (i := 3) rfl)) (hts (.initialized RX2) (by decide +kernel)) ⟨by decide, by decide, by decide +kernel⟩ ⟨Nat.le_of_ble_eq_true rfl, Nat.le_of_ble_eq_true rfl⟩, rfl, hts (.instanceMethod yX2_init) (by decide +kernel)⟩ ⟨fun a U g mk q => by obtain ⟨q0, q1, qP, qK, qD⟩ := q; exact ⟨q0, q1, qP, va_K.moved (u := U) (U := U.calling g mk a) (Vm.Alike.refl U.vm) qK, qD⟩, fun U hU hW => ⟨rfl, by rw [hU], by rw [hU]; exact hPc, va_K.moved hW.alike hK.1, hDc.weaken (fun _ _ _ _ => trivial)⟩⟩ rfl rfl hl.1 rfl (lv_room (Nat.le_of_ble_eq_true rfl)) dX3_init_50 ⟨hkc, hks⟩) hS (fun q _ h => hFc q h) hFc (fun u t H1 locs ht hvm hw hB hz1 hk1 hS => ?_)
  obtain ⟨i15, rfl⟩ : ∃ z, z = u := ⟨_, rfl⟩
  obtain ⟨hP1, hK1, hD1⟩ := hB
  rw [ht] at hP1
  obtain ⟨hP, hD⟩ := va_join (wr := [(h0, .inr (3, [.int 0, .int 0, .int 32, .int 2, .int 0, .int 0, .int 0, .int 0, .int 0, .int 0, .int 0, .int 0, .ref qt12, .ref qt13, .ref qr, .null, .null, .null])), (qt12, .inr (5, [.int 0, .int 0, .int 0])), (qt13, .inr (5, [.int 0, .int 0, .int 0])), (qr, .inl (cA, 24, .inl (fun _ => 0)))]) (w1 := [(qp15, .inr (2, [.ref i15, .int 0])), (i15, .inl (cA, 512, .inl (fun _ => 0)))]) hP hD [4] [0, 1, 2, 3] rfl rfl (by decide) (by decide) hk1 hFc hP1 hD1
  generalize H1 = H at hP hS ⊢
  have hP : va_P D vwCl [(h0, .inr (3, [.int 0, .int 0, .int 32, .int 2, .int 0, .int 0, .int 0, .int 0, .int 0, .int 0, .int 0, .int 0, .ref qt12, .ref qt13, .ref qr, .null, .null, .null])), (qt12, .inr (5, [.int 0, .int 0, .int 0])), (qt13, .inr (5, [.int 0, .int 0, .int 0])), (qr, .inl (cA, 24, .inl (fun _ => 0))), (qp15, .inr (2, [.ref i15, .int 0])), (i15, .inl (cA, 512, .inl (fun _ => 0)))] H := hP
  have hD : va_D A [(h0, .inr (3, [.int 0, .int 0, .int 32, .int 2, .int 0, .int 0, .int 0, .int 0, .int 0, .int 0, .int 0, .int 0, .ref qt12, .ref qt13, .ref qr, .null, .null, .null])), (qt12, .inr (5, [.int 0, .int 0, .int 0])), (qt13, .inr (5, [.int 0, .int 0, .int 0])), (qr, .inl (cA, 24, .inl (fun _ => 0))), (qp15, .inr (2, [.ref i15, .int 0])), (i15, .inl (cA, 512, .inl (fun _ => 0)))] := hD
  refine W.widen (k := 5) (n := 544) (by omega) (by omega) ?_
  refine va_putF (D := D) (ci := 3) (v := .ref qp15) (ty := .object "TagReaders$Prefixes") (C := RX3) (T := TX3) (N := 18) hx hb hts (by decide +kernel) tyX3 tyX3_ok nmX3 hown hK.1 hP hD hS 0 rfl rfl 15 (by decide) (hts (.fieldLink RX3 35 "TagReaders$Reader" "row" "LTagReaders$Prefixes;") (by decide +kernel)) (fun _ h9 => h9) rfl hin rfl (by decide +kernel) rfl rfl (Nat.le_of_ble_eq_true rfl) dX3_init_53 (fun H locs hP hD hS => ?_)
  have hP : va_P D vwCl [(h0, .inr (3, [.int 0, .int 0, .int 32, .int 2, .int 0, .int 0, .int 0, .int 0, .int 0, .int 0, .int 0, .int 0, .ref qt12, .ref qt13, .ref qr, .ref qp15, .null, .null])), (qt12, .inr (5, [.int 0, .int 0, .int 0])), (qt13, .inr (5, [.int 0, .int 0, .int 0])), (qr, .inl (cA, 24, .inl (fun _ => 0))), (qp15, .inr (2, [.ref i15, .int 0])), (i15, .inl (cA, 512, .inl (fun _ => 0)))] H := hP
  have hD : va_D A [(h0, .inr (3, [.int 0, .int 0, .int 32, .int 2, .int 0, .int 0, .int 0, .int 0, .int 0, .int 0, .int 0, .int 0, .ref qt12, .ref qt13, .ref qr, .ref qp15, .null, .null])), (qt12, .inr (5, [.int 0, .int 0, .int 0])), (qt13, .inr (5, [.int 0, .int 0, .int 0])), (qr, .inl (cA, 24, .inl (fun _ => 0))), (qp15, .inr (2, [.ref i15, .int 0])), (i15, .inl (cA, 512, .inl (fun _ => 0)))] := hD
  refine lv_aload_n hx hb dX3_init_56 rfl (lv_at hl 0 rfl) ?_
  have hc1 : 5 + 1 ≤ 9 := by decide
  have hs1 : 544 + 2 ≤ 1572 := by decide
  refine va_new (ci := 2) (fs := [.null, .int 0]) (C := RX2) (T := TX2) (N := 2) hx hb hts (by decide +kernel) tyX2 tyX2_ok hown (hts (.classLink RX3 32 RX2) (by decide +kernel)) (hts (.instantiable RX2 2) (by decide +kernel)) (hts (.initialized RX2) (by decide +kernel)) hK.1 hP hD hS hA rfl (fun j hj => by rcases (show j = 0 ∨ j = 1 by omega) with rfl | rfl <;> rfl) hc1 hs1 dX3_init_57 (fun qp16 H hP hD hS => ?_)
  have hP : va_P D vwCl [(h0, .inr (3, [.int 0, .int 0, .int 32, .int 2, .int 0, .int 0, .int 0, .int 0, .int 0, .int 0, .int 0, .int 0, .ref qt12, .ref qt13, .ref qr, .ref qp15, .null, .null])), (qt12, .inr (5, [.int 0, .int 0, .int 0])), (qt13, .inr (5, [.int 0, .int 0, .int 0])), (qr, .inl (cA, 24, .inl (fun _ => 0))), (qp15, .inr (2, [.ref i15, .int 0])), (i15, .inl (cA, 512, .inl (fun _ => 0))), (qp16, .inr (2, [.null, .int 0]))] H := hP
  have hD : va_D A [(h0, .inr (3, [.int 0, .int 0, .int 32, .int 2, .int 0, .int 0, .int 0, .int 0, .int 0, .int 0, .int 0, .int 0, .ref qt12, .ref qt13, .ref qr, .ref qp15, .null, .null])), (qt12, .inr (5, [.int 0, .int 0, .int 0])), (qt13, .inr (5, [.int 0, .int 0, .int 0])), (qr, .inl (cA, 24, .inl (fun _ => 0))), (qp15, .inr (2, [.ref i15, .int 0])), (i15, .inl (cA, 512, .inl (fun _ => 0))), (qp16, .inr (2, [.null, .int 0]))] := hD
  refine W.widen (k := 6) (n := 546) (by omega) (by omega) ?_
  refine lv_dup hx hb dX3_init_60 rfl ?_
  have hPc := hP.sub (ws' := [(qp16, .inr (2, [.null, .int 0]))]) [6] rfl
  have hDc := hD.sub (ws' := [(qp16, .inr (2, [.null, .int 0]))]) [6] (by decide) rfl
  have hFc := va_free (wc := [(qp16, .inr (2, [.null, .int 0]))]) hD hS hA [6] rfl
  have hkc : 6 + 1 ≤ 9 := by decide
  have hks : 546 + 512 ≤ 1572 := by decide
  refine va_callv (va_runIN (As := []) (rest := [.ref qp16, .ref h0]) ⟨hx, hb, hml, hown, hts⟩ (c_X2_init l D tys cA kI hI qp16 H.size) ⟨va_cnB 0 hts gX3_init_X2_init_n34 rfl rfl rfl (hK.2 _ (List.mem_of_getElem? (i := 3) rfl)) (hts (.initialized RX2) (by decide +kernel)) ⟨by decide, by decide, by decide +kernel⟩ ⟨Nat.le_of_ble_eq_true rfl, Nat.le_of_ble_eq_true rfl⟩, rfl, hts (.instanceMethod yX2_init) (by decide +kernel)⟩ ⟨fun a U g mk q => by obtain ⟨q0, q1, qP, qK, qD⟩ := q; exact ⟨q0, q1, qP, va_K.moved (u := U) (U := U.calling g mk a) (Vm.Alike.refl U.vm) qK, qD⟩, fun U hU hW => ⟨rfl, by rw [hU], by rw [hU]; exact hPc, va_K.moved hW.alike hK.1, hDc.weaken (fun _ _ _ _ => trivial)⟩⟩ rfl rfl hl.1 rfl (lv_room (Nat.le_of_ble_eq_true rfl)) dX3_init_61 ⟨hkc, hks⟩) hS (fun q _ h => hFc q h) hFc (fun u t H1 locs ht hvm hw hB hz1 hk1 hS => ?_)
  obtain ⟨i16, rfl⟩ : ∃ z, z = u := ⟨_, rfl⟩
  obtain ⟨hP1, hK1, hD1⟩ := hB
  rw [ht] at hP1
  obtain ⟨hP, hD⟩ := va_join (wr := [(h0, .inr (3, [.int 0, .int 0, .int 32, .int 2, .int 0, .int 0, .int 0, .int 0, .int 0, .int 0, .int 0, .int 0, .ref qt12, .ref qt13, .ref qr, .ref qp15, .null, .null])), (qt12, .inr (5, [.int 0, .int 0, .int 0])), (qt13, .inr (5, [.int 0, .int 0, .int 0])), (qr, .inl (cA, 24, .inl (fun _ => 0))), (qp15, .inr (2, [.ref i15, .int 0])), (i15, .inl (cA, 512, .inl (fun _ => 0)))]) (w1 := [(qp16, .inr (2, [.ref i16, .int 0])), (i16, .inl (cA, 512, .inl (fun _ => 0)))]) hP hD [6] [0, 1, 2, 3, 4, 5] rfl rfl (by decide) (by decide) hk1 hFc hP1 hD1
  generalize H1 = H at hP hS ⊢
  have hP : va_P D vwCl [(h0, .inr (3, [.int 0, .int 0, .int 32, .int 2, .int 0, .int 0, .int 0, .int 0, .int 0, .int 0, .int 0, .int 0, .ref qt12, .ref qt13, .ref qr, .ref qp15, .null, .null])), (qt12, .inr (5, [.int 0, .int 0, .int 0])), (qt13, .inr (5, [.int 0, .int 0, .int 0])), (qr, .inl (cA, 24, .inl (fun _ => 0))), (qp15, .inr (2, [.ref i15, .int 0])), (i15, .inl (cA, 512, .inl (fun _ => 0))), (qp16, .inr (2, [.ref i16, .int 0])), (i16, .inl (cA, 512, .inl (fun _ => 0)))] H := hP
  have hD : va_D A [(h0, .inr (3, [.int 0, .int 0, .int 32, .int 2, .int 0, .int 0, .int 0, .int 0, .int 0, .int 0, .int 0, .int 0, .ref qt12, .ref qt13, .ref qr, .ref qp15, .null, .null])), (qt12, .inr (5, [.int 0, .int 0, .int 0])), (qt13, .inr (5, [.int 0, .int 0, .int 0])), (qr, .inl (cA, 24, .inl (fun _ => 0))), (qp15, .inr (2, [.ref i15, .int 0])), (i15, .inl (cA, 512, .inl (fun _ => 0))), (qp16, .inr (2, [.ref i16, .int 0])), (i16, .inl (cA, 512, .inl (fun _ => 0)))] := hD
  refine W.widen (k := 7) (n := 1058) (by omega) (by omega) ?_
  refine va_putF (D := D) (ci := 3) (v := .ref qp16) (ty := .object "TagReaders$Prefixes") (C := RX3) (T := TX3) (N := 18) hx hb hts (by decide +kernel) tyX3 tyX3_ok nmX3 hown hK.1 hP hD hS 0 rfl rfl 16 (by decide) (hts (.fieldLink RX3 39 "TagReaders$Reader" "asked" "LTagReaders$Prefixes;") (by decide +kernel)) (fun _ h9 => h9) rfl hin rfl (by decide +kernel) rfl rfl (Nat.le_of_ble_eq_true rfl) dX3_init_64 (fun H locs hP hD hS => ?_)
  have hP : va_P D vwCl [(h0, .inr (3, [.int 0, .int 0, .int 32, .int 2, .int 0, .int 0, .int 0, .int 0, .int 0, .int 0, .int 0, .int 0, .ref qt12, .ref qt13, .ref qr, .ref qp15, .ref qp16, .null])), (qt12, .inr (5, [.int 0, .int 0, .int 0])), (qt13, .inr (5, [.int 0, .int 0, .int 0])), (qr, .inl (cA, 24, .inl (fun _ => 0))), (qp15, .inr (2, [.ref i15, .int 0])), (i15, .inl (cA, 512, .inl (fun _ => 0))), (qp16, .inr (2, [.ref i16, .int 0])), (i16, .inl (cA, 512, .inl (fun _ => 0)))] H := hP
  have hD : va_D A [(h0, .inr (3, [.int 0, .int 0, .int 32, .int 2, .int 0, .int 0, .int 0, .int 0, .int 0, .int 0, .int 0, .int 0, .ref qt12, .ref qt13, .ref qr, .ref qp15, .ref qp16, .null])), (qt12, .inr (5, [.int 0, .int 0, .int 0])), (qt13, .inr (5, [.int 0, .int 0, .int 0])), (qr, .inl (cA, 24, .inl (fun _ => 0))), (qp15, .inr (2, [.ref i15, .int 0])), (i15, .inl (cA, 512, .inl (fun _ => 0))), (qp16, .inr (2, [.ref i16, .int 0])), (i16, .inl (cA, 512, .inl (fun _ => 0)))] := hD
  refine lv_aload_n hx hb dX3_init_67 rfl (lv_at hl 0 rfl) ?_
  have hc1 : 7 + 1 ≤ 9 := by decide
  have hs1 : 1058 + 2 ≤ 1572 := by decide
  refine va_new (ci := 2) (fs := [.null, .int 0]) (C := RX2) (T := TX2) (N := 2) hx hb hts (by decide +kernel) tyX2 tyX2_ok hown (hts (.classLink RX3 32 RX2) (by decide +kernel)) (hts (.instantiable RX2 2) (by decide +kernel)) (hts (.initialized RX2) (by decide +kernel)) hK.1 hP hD hS hA rfl (fun j hj => by rcases (show j = 0 ∨ j = 1 by omega) with rfl | rfl <;> rfl) hc1 hs1 dX3_init_68 (fun qp17 H hP hD hS => ?_)
  have hP : va_P D vwCl [(h0, .inr (3, [.int 0, .int 0, .int 32, .int 2, .int 0, .int 0, .int 0, .int 0, .int 0, .int 0, .int 0, .int 0, .ref qt12, .ref qt13, .ref qr, .ref qp15, .ref qp16, .null])), (qt12, .inr (5, [.int 0, .int 0, .int 0])), (qt13, .inr (5, [.int 0, .int 0, .int 0])), (qr, .inl (cA, 24, .inl (fun _ => 0))), (qp15, .inr (2, [.ref i15, .int 0])), (i15, .inl (cA, 512, .inl (fun _ => 0))), (qp16, .inr (2, [.ref i16, .int 0])), (i16, .inl (cA, 512, .inl (fun _ => 0))), (qp17, .inr (2, [.null, .int 0]))] H := hP
  have hD : va_D A [(h0, .inr (3, [.int 0, .int 0, .int 32, .int 2, .int 0, .int 0, .int 0, .int 0, .int 0, .int 0, .int 0, .int 0, .ref qt12, .ref qt13, .ref qr, .ref qp15, .ref qp16, .null])), (qt12, .inr (5, [.int 0, .int 0, .int 0])), (qt13, .inr (5, [.int 0, .int 0, .int 0])), (qr, .inl (cA, 24, .inl (fun _ => 0))), (qp15, .inr (2, [.ref i15, .int 0])), (i15, .inl (cA, 512, .inl (fun _ => 0))), (qp16, .inr (2, [.ref i16, .int 0])), (i16, .inl (cA, 512, .inl (fun _ => 0))), (qp17, .inr (2, [.null, .int 0]))] := hD
  refine W.widen (k := 8) (n := 1060) (by omega) (by omega) ?_
  refine lv_dup hx hb dX3_init_71 rfl ?_
  have hPc := hP.sub (ws' := [(qp17, .inr (2, [.null, .int 0]))]) [8] rfl
  have hDc := hD.sub (ws' := [(qp17, .inr (2, [.null, .int 0]))]) [8] (by decide) rfl
  have hFc := va_free (wc := [(qp17, .inr (2, [.null, .int 0]))]) hD hS hA [8] rfl
  have hkc : 8 + 1 ≤ 9 := by decide
  have hks : 1060 + 512 ≤ 1572 := by decide
  refine va_callv (va_runIN (As := []) (rest := [.ref qp17, .ref h0]) ⟨hx, hb, hml, hown, hts⟩ (c_X2_init l D tys cA kI hI qp17 H.size) ⟨va_cnB 0 hts gX3_init_X2_init_n34 rfl rfl rfl (hK.2 _ (List.mem_of_getElem? (i := 3) rfl)) (hts (.initialized RX2) (by decide +kernel)) ⟨by decide, by decide, by decide +kernel⟩ ⟨Nat.le_of_ble_eq_true rfl, Nat.le_of_ble_eq_true rfl⟩, rfl, hts (.instanceMethod yX2_init) (by decide +kernel)⟩ ⟨fun a U g mk q => by obtain ⟨q0, q1, qP, qK, qD⟩ := q; exact ⟨q0, q1, qP, va_K.moved (u := U) (U := U.calling g mk a) (Vm.Alike.refl U.vm) qK, qD⟩, fun U hU hW => ⟨rfl, by rw [hU], by rw [hU]; exact hPc, va_K.moved hW.alike hK.1, hDc.weaken (fun _ _ _ _ => trivial)⟩⟩ rfl rfl hl.1 rfl (lv_room (Nat.le_of_ble_eq_true rfl)) dX3_init_72 ⟨hkc, hks⟩) hS (fun q _ h => hFc q h) hFc (fun u t H1 locs ht hvm hw hB hz1 hk1 hS => ?_)
  obtain ⟨i17, rfl⟩ : ∃ z, z = u := ⟨_, rfl⟩
  obtain ⟨hP1, hK1, hD1⟩ := hB
  rw [ht] at hP1
  obtain ⟨hP, hD⟩ := va_join (wr := [(h0, .inr (3, [.int 0, .int 0, .int 32, .int 2, .int 0, .int 0, .int 0, .int 0, .int 0, .int 0, .int 0, .int 0, .ref qt12, .ref qt13, .ref qr, .ref qp15, .ref qp16, .null])), (qt12, .inr (5, [.int 0, .int 0, .int 0])), (qt13, .inr (5, [.int 0, .int 0, .int 0])), (qr, .inl (cA, 24, .inl (fun _ => 0))), (qp15, .inr (2, [.ref i15, .int 0])), (i15, .inl (cA, 512, .inl (fun _ => 0))), (qp16, .inr (2, [.ref i16, .int 0])), (i16, .inl (cA, 512, .inl (fun _ => 0)))]) (w1 := [(qp17, .inr (2, [.ref i17, .int 0])), (i17, .inl (cA, 512, .inl (fun _ => 0)))]) hP hD [8] [0, 1, 2, 3, 4, 5, 6, 7] rfl rfl (by decide) (by decide) hk1 hFc hP1 hD1
  generalize H1 = H at hP hS ⊢
  have hP : va_P D vwCl [(h0, .inr (3, [.int 0, .int 0, .int 32, .int 2, .int 0, .int 0, .int 0, .int 0, .int 0, .int 0, .int 0, .int 0, .ref qt12, .ref qt13, .ref qr, .ref qp15, .ref qp16, .null])), (qt12, .inr (5, [.int 0, .int 0, .int 0])), (qt13, .inr (5, [.int 0, .int 0, .int 0])), (qr, .inl (cA, 24, .inl (fun _ => 0))), (qp15, .inr (2, [.ref i15, .int 0])), (i15, .inl (cA, 512, .inl (fun _ => 0))), (qp16, .inr (2, [.ref i16, .int 0])), (i16, .inl (cA, 512, .inl (fun _ => 0))), (qp17, .inr (2, [.ref i17, .int 0])), (i17, .inl (cA, 512, .inl (fun _ => 0)))] H := hP
  have hD : va_D A [(h0, .inr (3, [.int 0, .int 0, .int 32, .int 2, .int 0, .int 0, .int 0, .int 0, .int 0, .int 0, .int 0, .int 0, .ref qt12, .ref qt13, .ref qr, .ref qp15, .ref qp16, .null])), (qt12, .inr (5, [.int 0, .int 0, .int 0])), (qt13, .inr (5, [.int 0, .int 0, .int 0])), (qr, .inl (cA, 24, .inl (fun _ => 0))), (qp15, .inr (2, [.ref i15, .int 0])), (i15, .inl (cA, 512, .inl (fun _ => 0))), (qp16, .inr (2, [.ref i16, .int 0])), (i16, .inl (cA, 512, .inl (fun _ => 0))), (qp17, .inr (2, [.ref i17, .int 0])), (i17, .inl (cA, 512, .inl (fun _ => 0)))] := hD
  refine W.widen (k := 9) (n := 1572) (by omega) (by omega) ?_
  refine va_putF (D := D) (ci := 3) (v := .ref qp17) (ty := .object "TagReaders$Prefixes") (C := RX3) (T := TX3) (N := 18) hx hb hts (by decide +kernel) tyX3 tyX3_ok nmX3 hown hK.1 hP hD hS 0 rfl rfl 17 (by decide) (hts (.fieldLink RX3 42 "TagReaders$Reader" "learnt" "LTagReaders$Prefixes;") (by decide +kernel)) (fun _ h9 => h9) rfl hin rfl (by decide +kernel) rfl rfl (Nat.le_of_ble_eq_true rfl) dX3_init_75 (fun H locs hP hD hS => ?_)
  have hP : va_P D vwCl [(h0, .inr (3, [.int 0, .int 0, .int 32, .int 2, .int 0, .int 0, .int 0, .int 0, .int 0, .int 0, .int 0, .int 0, .ref qt12, .ref qt13, .ref qr, .ref qp15, .ref qp16, .ref qp17])), (qt12, .inr (5, [.int 0, .int 0, .int 0])), (qt13, .inr (5, [.int 0, .int 0, .int 0])), (qr, .inl (cA, 24, .inl (fun _ => 0))), (qp15, .inr (2, [.ref i15, .int 0])), (i15, .inl (cA, 512, .inl (fun _ => 0))), (qp16, .inr (2, [.ref i16, .int 0])), (i16, .inl (cA, 512, .inl (fun _ => 0))), (qp17, .inr (2, [.ref i17, .int 0])), (i17, .inl (cA, 512, .inl (fun _ => 0)))] H := hP
  have hD : va_D A [(h0, .inr (3, [.int 0, .int 0, .int 32, .int 2, .int 0, .int 0, .int 0, .int 0, .int 0, .int 0, .int 0, .int 0, .ref qt12, .ref qt13, .ref qr, .ref qp15, .ref qp16, .ref qp17])), (qt12, .inr (5, [.int 0, .int 0, .int 0])), (qt13, .inr (5, [.int 0, .int 0, .int 0])), (qr, .inl (cA, 24, .inl (fun _ => 0))), (qp15, .inr (2, [.ref i15, .int 0])), (i15, .inl (cA, 512, .inl (fun _ => 0))), (qp16, .inr (2, [.ref i16, .int 0])), (i16, .inl (cA, 512, .inl (fun _ => 0))), (qp17, .inr (2, [.ref i17, .int 0])), (i17, .inl (cA, 512, .inl (fun _ => 0)))] := hD
  refine lv_aload_n hx hb dX3_init_78 rfl (lv_at hl 0 rfl) ?_
  refine va_get (v := .ref qp17) (D := D) (ci := 3) (C := RX3) (T := TX3) (N := 18) hx hb hts (by decide +kernel) hown hK.1 hP 0 rfl rfl 17 (by decide) (hts (.fieldLink RX3 42 "TagReaders$Reader" "learnt" "LTagReaders$Prefixes;") (by decide +kernel)) (fun _ h9 => h9) rfl dX3_init_79 ?_
  refine lv_iconst (v := 0) hx hb dX3_init_82 (by decide) ?_
  have hPc := hP.sub (ws' := [(qp17, .inr (2, [.ref i17, .int 0])), (i17, .inl (cA, 512, .inl (fun _ => 0)))]) [8, 9] rfl
  have hDc := hD.sub (ws' := [(qp17, .inr (2, [.ref i17, .int 0])), (i17, .inl (cA, 512, .inl (fun _ => 0)))]) [8, 9] (by decide) rfl
  have hFc := va_free (wc := [(qp17, .inr (2, [.ref i17, .int 0])), (i17, .inl (cA, 512, .inl (fun _ => 0)))]) hD hS hA [8, 9] rfl
  have hkc : 9 + 0 ≤ 9 := by decide
  have hks : 1572 + 0 ≤ 1572 := by decide
  refine va_callv (va_runV (As := [.int 0]) (rest := []) ⟨hx, hb, hml, hown, hts⟩ (c_X2_add0 l D tys cA kI hI qp17 i17 H.size) (cwV 1 hts gX3_init_X2_add rfl rfl rfl (by decide +kernel) ⟨Nat.le_of_ble_eq_true rfl, Nat.le_of_ble_eq_true rfl⟩) ⟨fun a U g mk q => by obtain ⟨q0, q1, qP, qK, qD⟩ := q; exact ⟨q0, q1, qP, va_K.moved (u := U) (U := U.calling g mk a) (Vm.Alike.refl U.vm) qK, qD⟩, va_recv hK.1 hPc (ci := 2) (q0 := 0) rfl rfl, fun U hU hW => ⟨rfl, by rw [hU], by rw [hU]; exact hPc, va_K.moved hW.alike hK.1, hDc.weaken (fun _ _ _ _ => trivial)⟩⟩ rfl rfl hl.1 rfl (lv_room (Nat.le_of_ble_eq_true rfl)) dX3_init_83 ⟨hkc, hks⟩) hS (fun q _ h => hFc q h) hFc (fun u t H1 locs ht hvm hw hB hz1 hk1 hS => ?_)
  obtain ⟨hP1, hK1, hD1⟩ := hB
  rw [ht] at hP1
  obtain ⟨hP, hD⟩ := va_join (wr := [(h0, .inr (3, [.int 0, .int 0, .int 32, .int 2, .int 0, .int 0, .int 0, .int 0, .int 0, .int 0, .int 0, .int 0, .ref qt12, .ref qt13, .ref qr, .ref qp15, .ref qp16, .ref qp17])), (qt12, .inr (5, [.int 0, .int 0, .int 0])), (qt13, .inr (5, [.int 0, .int 0, .int 0])), (qr, .inl (cA, 24, .inl (fun _ => 0))), (qp15, .inr (2, [.ref i15, .int 0])), (i15, .inl (cA, 512, .inl (fun _ => 0))), (qp16, .inr (2, [.ref i16, .int 0])), (i16, .inl (cA, 512, .inl (fun _ => 0)))]) (w1 := [(qp17, .inr (2, [.ref i17, .int 1])), (i17, .inl (cA, 512, .inl (fun _ => 0)))]) hP hD [8, 9] [0, 1, 2, 3, 4, 5, 6, 7] rfl rfl (by decide) (by decide) hk1 hFc hP1 hD1
  generalize H1 = H at hP hS ⊢
  have hP : va_P D vwCl [(h0, .inr (3, [.int 0, .int 0, .int 32, .int 2, .int 0, .int 0, .int 0, .int 0, .int 0, .int 0, .int 0, .int 0, .ref qt12, .ref qt13, .ref qr, .ref qp15, .ref qp16, .ref qp17])), (qt12, .inr (5, [.int 0, .int 0, .int 0])), (qt13, .inr (5, [.int 0, .int 0, .int 0])), (qr, .inl (cA, 24, .inl (fun _ => 0))), (qp15, .inr (2, [.ref i15, .int 0])), (i15, .inl (cA, 512, .inl (fun _ => 0))), (qp16, .inr (2, [.ref i16, .int 0])), (i16, .inl (cA, 512, .inl (fun _ => 0))), (qp17, .inr (2, [.ref i17, .int 1])), (i17, .inl (cA, 512, .inl (fun _ => 0)))] H := hP
  have hD : va_D A [(h0, .inr (3, [.int 0, .int 0, .int 32, .int 2, .int 0, .int 0, .int 0, .int 0, .int 0, .int 0, .int 0, .int 0, .ref qt12, .ref qt13, .ref qr, .ref qp15, .ref qp16, .ref qp17])), (qt12, .inr (5, [.int 0, .int 0, .int 0])), (qt13, .inr (5, [.int 0, .int 0, .int 0])), (qr, .inl (cA, 24, .inl (fun _ => 0))), (qp15, .inr (2, [.ref i15, .int 0])), (i15, .inl (cA, 512, .inl (fun _ => 0))), (qp16, .inr (2, [.ref i16, .int 0])), (i16, .inl (cA, 512, .inl (fun _ => 0))), (qp17, .inr (2, [.ref i17, .int 1])), (i17, .inl (cA, 512, .inl (fun _ => 0)))] := hD
  exact W.vret hx hb hr (fun t ht hW => ⟨⟨0, rfl, trivial, qt12, qt13, qr, qp15, i15, qp16, i16, qp17, i17, by rw [ht]; exact hP, z_iniW hK hW, hD⟩, hS.F ht⟩) hS.2.2 dX3_init_86
