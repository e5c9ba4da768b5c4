/-! constructor: TagReaders -/
theorem gz_wsX8_init_r1 : ∀ w ∈ wsX8_init_r1, w ∈ zw := List.forall_mem_cons.mpr ⟨qw_931, List.forall_mem_cons.mpr ⟨qw_910, List.forall_mem_cons.mpr ⟨qw_911, List.forall_mem_cons.mpr ⟨qw_932, List.forall_mem_cons.mpr ⟨qw_372, List.forall_mem_cons.mpr ⟨qw_933, List.forall_mem_cons.mpr ⟨qw_374, List.forall_mem_cons.mpr ⟨qw_934, List.forall_mem_cons.mpr ⟨qw_935, List.forall_mem_cons.mpr ⟨qw_378, List.forall_mem_cons.mpr ⟨qw_375, List.forall_mem_cons.mpr ⟨qw_921, List.forall_mem_cons.mpr ⟨qw_403, List.forall_mem_cons.mpr ⟨qw_385, List.forall_mem_cons.mpr ⟨qw_386, List.forall_mem_cons.mpr ⟨qw_936, List.forall_mem_cons.mpr ⟨qw_937, List.forall_mem_cons.mpr ⟨qw_203, List.forall_mem_cons.mpr ⟨qw_938, List.forall_mem_cons.mpr ⟨qw_103, List.forall_mem_cons.mpr ⟨qw_939, List.forall_mem_cons.mpr ⟨qw_940, List.forall_mem_cons.mpr ⟨qw_941, List.forall_mem_cons.mpr ⟨qw_35, fun _ h => absurd h List.not_mem_nil⟩⟩⟩⟩⟩⟩⟩⟩⟩⟩⟩⟩⟩⟩⟩⟩⟩⟩⟩⟩⟩⟩⟩⟩
theorem gz_wsX8_init_r2 : ∀ w ∈ wsX8_init_r2, w ∈ zw := List.forall_mem_cons.mpr ⟨qw_942, List.forall_mem_cons.mpr ⟨qw_943, List.forall_mem_cons.mpr ⟨qw_944, List.forall_mem_cons.mpr ⟨qw_360, List.forall_mem_cons.mpr ⟨qw_361, List.forall_mem_cons.mpr ⟨qw_945, List.forall_mem_cons.mpr ⟨qw_946, List.forall_mem_cons.mpr ⟨qw_947, List.forall_mem_cons.mpr ⟨qw_948, List.forall_mem_cons.mpr ⟨qw_76, List.forall_mem_cons.mpr ⟨qw_77, List.forall_mem_cons.mpr ⟨qw_949, List.forall_mem_cons.mpr ⟨qw_950, List.forall_mem_cons.mpr ⟨qw_86, List.forall_mem_cons.mpr ⟨qw_84, List.forall_mem_cons.mpr ⟨qw_93, List.forall_mem_cons.mpr ⟨qw_95, List.forall_mem_cons.mpr ⟨qw_951, List.forall_mem_cons.mpr ⟨qw_952, List.forall_mem_cons.mpr ⟨qw_42, List.forall_mem_cons.mpr ⟨qw_92, List.forall_mem_cons.mpr ⟨qw_90, List.forall_mem_cons.mpr ⟨qw_109, List.forall_mem_cons.mpr ⟨qw_953, fun _ h => absurd h List.not_mem_nil⟩⟩⟩⟩⟩⟩⟩⟩⟩⟩⟩⟩⟩⟩⟩⟩⟩⟩⟩⟩⟩⟩⟩⟩
theorem gz_wsX8_init_r3 : ∀ w ∈ wsX8_init_r3, w ∈ zw := List.forall_mem_cons.mpr ⟨qw_954, List.forall_mem_cons.mpr ⟨qw_955, List.forall_mem_cons.mpr ⟨qw_956, List.forall_mem_cons.mpr ⟨qw_957, List.forall_mem_cons.mpr ⟨qw_958, List.forall_mem_cons.mpr ⟨qw_49, List.forall_mem_cons.mpr ⟨qw_959, List.forall_mem_cons.mpr ⟨qw_62, List.forall_mem_cons.mpr ⟨qw_63, List.forall_mem_cons.mpr ⟨qw_60, List.forall_mem_cons.mpr ⟨qw_48, fun _ h => absurd h List.not_mem_nil⟩⟩⟩⟩⟩⟩⟩⟩⟩⟩⟩
theorem gz_wsX8_init : ∀ w ∈ wsX8_init, w ∈ zw := List.forall_mem_cons.mpr ⟨qw_930, List.forall_mem_append.mpr ⟨List.forall_mem_append.mpr ⟨List.forall_mem_append.mpr ⟨List.forall_mem_append.mpr ⟨List.forall_mem_append.mpr ⟨List.forall_mem_append.mpr ⟨List.forall_mem_append.mpr ⟨gz_wsX8_init_r1, List.forall_mem_append.mpr ⟨gz_wsX8_init_r2, gz_wsX8_init_r3⟩⟩, iw_X8⟩, iw_X1⟩, iw_X6⟩, iw_X3⟩, iw_X7⟩, iw_X2⟩⟩
theorem gz_X8 : GoodIn zw wsX8_init := gz_in gz_wsX8_init
theorem dX9_init_0 : decode cX9_init 0 = .ok (.aload_n 0, 1) := by decide +kernel
theorem dX9_init_1 : decode cX9_init 1 = .ok (.invokespecial 1, 3) := by decide +kernel
theorem dX9_init_4 : decode cX9_init 4 = .ok (.aload_n 0, 1) := by decide +kernel
theorem dX9_init_5 : decode cX9_init 5 = .ok (.new 7, 3) := by decide +kernel
theorem dX9_init_8 : decode cX9_init 8 = .ok (.dup, 1) := by decide +kernel
theorem dX9_init_9 : decode cX9_init 9 = .ok (.invokespecial 9, 3) := by decide +kernel
theorem dX9_init_12 : decode cX9_init 12 = .ok (.putfield 10, 3) := by decide +kernel
theorem dX9_init_15 : decode cX9_init 15 = .ok (.aload_n 0, 1) := by decide +kernel
theorem dX9_init_16 : decode cX9_init 16 = .ok (.new 16, 3) := by decide +kernel
theorem dX9_init_19 : decode cX9_init 19 = .ok (.dup, 1) := by decide +kernel
theorem dX9_init_20 : decode cX9_init 20 = .ok (.aload_n 0, 1) := by decide +kernel
theorem dX9_init_21 : decode cX9_init 21 = .ok (.getfield 10, 3) := by decide +kernel
theorem dX9_init_24 : decode cX9_init 24 = .ok (.invokespecial 18, 3) := by decide +kernel
theorem dX9_init_27 : decode cX9_init 27 = .ok (.putfield 21, 3) := by decide +kernel
theorem dX9_init_30 : decode cX9_init 30 = .ok (.return_, 1) := by decide +kernel
set_option maxHeartbeats 8000000 in
set_option maxRecDepth 100000 in
theorem c_X9_init (l : Launch) (E : zE) (h0 sz : Nat) : Met l yX9_init (Cond.code yX9_init cX9_init 1 none :: zw) ({ frames := 204, cells := 74, slots := 7578, locals := 13300 }) (va_Pc [.ref h0] (fun U => U.heap.size = sz ∧ va_P E.1 vwCl [(h0, .inr (7, [.null, .null, .null, .null]))] U.heap ∧ z_eA E (va_A [(h0, .inr (7, [.null, .null, .null, .null]))] sz) U ∧ va_D (fun _ => True) [(h0, .inr (7, [.null, .null, .null, .null]))])) (va_Qv (fun _ : Int32 => True) (fun _ t => ∃ (ch qa qb qe h1 qT qR qj ij qc : Nat) (ad : Nat → Nat) (f : Nat → Nat → Nat), va_P E.1 vwCl (([(h0, .inr (7, [.ref ch, .ref h1, .null, .null])), (ch, .inr (0, [.ref qa, .ref qb, .ref qe])), (qa, .inl (E.2.1 1, 221, .inr (.inl tW))), (qb, .inl (E.2.1 1, 221, .inr (.inl tC))), (qe, .inl (E.2.1 0, 13, .inl z_bs))] : va_W) ++ (([(h1, .inr (6, [.ref ch, .ref qT, .ref qR, .ref qj, .ref qc, .int 0, .int 0, .int 20, .int 40])), (qT, .inl (E.2.1 2, 24, .inr (.inr (.inr (.inr (z_rw ad 24)))))), (qR, .inl (E.2.1 3, 4, .inr (.inr (.inr (.inr (z_rw (fun j => f j 0) 4)))))), (qj, .inr (1, [.ref ij, .int 0])), (ij, .inl (E.2.1 0, 240, .inl (fun _ => 0))), (qc, .inl (E.2.1 0, 14, .inl (fun _ => 0)))] : va_W) ++ z_tgs ad 24 ++ z_rds f (E.2.1 0) 4)) t.heap ∧ va_D (va_A [(h0, .inr (7, [.null, .null, .null, .null]))] sz) (([(h0, .inr (7, [.ref ch, .ref h1, .null, .null])), (ch, .inr (0, [.ref qa, .ref qb, .ref qe])), (qa, .inl (E.2.1 1, 221, .inr (.inl tW))), (qb, .inl (E.2.1 1, 221, .inr (.inl tC))), (qe, .inl (E.2.1 0, 13, .inl z_bs))] : va_W) ++ (([(h1, .inr (6, [.ref ch, .ref qT, .ref qR, .ref qj, .ref qc, .int 0, .int 0, .int 20, .int 40])), (qT, .inl (E.2.1 2, 24, .inr (.inr (.inr (.inr (z_rw ad 24)))))), (qR, .inl (E.2.1 3, 4, .inr (.inr (.inr (.inr (z_rw (fun j => f j 0) 4)))))), (qj, .inr (1, [.ref ij, .int 0])), (ij, .inl (E.2.1 0, 240, .inl (fun _ => 0))), (qc, .inl (E.2.1 0, 14, .inl (fun _ => 0)))] : va_W) ++ z_tgs ad 24 ++ z_rds f (E.2.1 0) 4))) (va_A [(h0, .inr (7, [.null, .null, .null, .null]))] sz)) 74 7578 (va_A [(h0, .inr (7, [.null, .null, .null, .null]))] sz) := by
  refine Met.ofW (cc := cX9_init) (maxL := 1) (ret := none) (by decide) rfl ?_
  intro p e s m args below meth c s₁ B hml hv
  obtain ⟨rfl, hsz, hP, hV, hD0⟩ := hv
  have hx := B.exec
  have hb := B.bytes
  have hr := B.returns
  have hts := atoms_spec (ws := Cond.code yX9_init cX9_init 1 none :: zw) B.pre
  have htz := gz_tail hts
  have hown : s.vm.findClass RX9 = some m.cls := findClass_of_methodNamed B.named
  have hlocks := B.notSynchronized
  have hin : meth.name = "<init>" := (name_of_methodNamed B.named B.method).1
  subst hsz
  have hD := hD0.self (sz := s.heap.size)
  generalize hAe : va_A ([(h0, .inr (7, [.null, .null, .null, .null]))] : va_W) s.heap.size = A at hD hV ⊢
  have hA : ∀ q : Nat, s.heap.size ≤ q → A q := fun q h => by rw [← hAe]; exact Or.inr h
  have hS : va_S A s.heap s.heap [] := va_S.rf
  have hl := lv_entry ([.ref h0]) (n := 1) (Nat.le_of_ble_eq_true rfl)
  rw [lg_entry_eq]
  generalize (lg_sl ([.ref h0]) ++ List.replicate (1 - (lg_sl ([.ref h0])).length) Slot.unset).toArray = ls at hl ⊢
  have hl : lv_has ls 1 [(0, .ref h0)] := hl
  refine lv_aload_n hx hb dX9_init_0 rfl (lv_at hl 0 rfl) ?_
  refine W.objInit hx hb hown (htz (Cond.methodLink RX9 1 objectInit) qw_909) (htz (Cond.instanceMethod objectInit) qw_910) (htz (Cond.code objectInit ⟨#[0xb1]⟩ 1 none) qw_911) rfl (by rw [hml]; exact hl.1) rfl dX9_init_1 (Nat.le_of_ble_eq_true rfl) (Nat.le_of_ble_eq_true rfl) ?_
  refine W.eq (g2 := F0 m 4 ls []) rfl ?_
  refine lv_aload_n hx hb dX9_init_4 rfl (lv_at hl 0 rfl) ?_
  have hc1 : 0 + 1 ≤ 74 := by decide
  have hs1 : 0 + 3 ≤ 7578 := by decide
  refine va_new (ci := 0) (fs := [.null, .null, .null]) (C := RX0) (T := TX0) (N := 3) hx hb htz iw_X0 tyX0 tyX0_ok hown (htz (Cond.classLink RX9 7 RX0) qw_912) (htz (Cond.instantiable RX0 3) qw_913) (htz (Cond.initialized RX0) qw_1) hV.1 hP hD hS hA rfl (fun j hj => by rcases (show j = 0 ∨ j = 1 ∨ j = 2 by omega) with rfl | rfl | rfl <;> rfl) hc1 hs1 dX9_init_5 (fun ch H hP hD hS => ?_)
  have hP : va_P E.1 vwCl [(h0, .inr (7, [.null, .null, .null, .null])), (ch, .inr (0, [.null, .null, .null]))] H := hP
  have hD : va_D A [(h0, .inr (7, [.null, .null, .null, .null])), (ch, .inr (0, [.null, .null, .null]))] := hD
  refine W.widen (k := 1) (n := 3) (by omega) (by omega) ?_
  refine lv_dup hx hb dX9_init_8 rfl ?_
  have hPc := hP.sub (ws' := [(ch, .inr (0, [.null, .null, .null]))]) [1] rfl
  have hDc := hD.sub (ws' := [(ch, .inr (0, [.null, .null, .null]))]) [1] (by decide) rfl
  have hFc := va_free (wc := [(ch, .inr (0, [.null, .null, .null]))]) hD hS hA [1] rfl
  have hkc : 1 + 3 ≤ 74 := by decide
  have hks : 3 + 455 ≤ 7578 := by decide
  refine va_callv (va_runI (As := []) (rest := [.ref ch, .ref h0]) ⟨hx, hb, hml, hown, htz⟩ (c_X0_init l E ch H.size) (cwI 0 htz (zw_call qw_918) rfl rfl rfl (htz (Cond.initialized RX0) qw_1) (htz (Cond.methodLink RX9 9 yX0_init) qw_916) (htz (Cond.instanceMethod yX0_init) qw_917) rfl (by decide +kernel) ⟨Nat.le_of_ble_eq_true rfl, Nat.le_of_ble_eq_true rfl⟩) ⟨fun a U g mk q => by obtain ⟨q0, q1, qP, qK, qD⟩ := q; exact ⟨q0, q1, qP, z_eA_call qK, qD⟩, fun U hU hW => ⟨rfl, by rw [hU], by rw [hU]; exact hPc, z_eA_narrow (z_eA_move hV hS hU hW) hFc, hDc.weaken (fun _ _ _ _ => trivial)⟩⟩ rfl rfl hl.1 rfl (lv_room (Nat.le_of_ble_eq_true rfl)) dX9_init_9 ⟨hkc, hks⟩) hS (fun q _ h => hFc q h) hFc (fun u t H1 locs ht hvm hw hB hz1 hk1 hS => ?_)
  obtain ⟨qa, qb, qe⟩ := u
  obtain ⟨hP1, hD1⟩ := hB
  rw [ht] at hP1
  obtain ⟨hP, hD⟩ := va_join (wr := [(h0, .inr (7, [.null, .null, .null, .null]))]) (w1 := [(ch, .inr (0, [.ref qa, .ref qb, .ref qe])), (qa, .inl (E.2.1 1, 221, .inr (.inl tW))), (qb, .inl (E.2.1 1, 221, .inr (.inl tC))), (qe, .inl (E.2.1 0, 13, .inl z_bs))]) hP hD [1] [0] rfl rfl (by decide) (by decide) hk1 hFc hP1 hD1
  generalize H1 = H at hP hS ⊢
  have hP : va_P E.1 vwCl [(h0, .inr (7, [.null, .null, .null, .null])), (ch, .inr (0, [.ref qa, .ref qb, .ref qe])), (qa, .inl (E.2.1 1, 221, .inr (.inl tW))), (qb, .inl (E.2.1 1, 221, .inr (.inl tC))), (qe, .inl (E.2.1 0, 13, .inl z_bs))] H := hP
  have hD : va_D A [(h0, .inr (7, [.null, .null, .null, .null])), (ch, .inr (0, [.ref qa, .ref qb, .ref qe])), (qa, .inl (E.2.1 1, 221, .inr (.inl tW))), (qb, .inl (E.2.1 1, 221, .inr (.inl tC))), (qe, .inl (E.2.1 0, 13, .inl z_bs))] := hD
  refine W.widen (k := 4) (n := 458) (by omega) (by omega) ?_
  refine va_putF (D := E.1) (ci := 7) (v := .ref ch) (ty := .object "TagReaders$Chances") (C := RX9) (T := TX9) (N := 4) hx hb htz iw_X9 tyX9 tyX9_ok nmX9 hown hV.1 hP hD hS 0 rfl rfl 0 (by decide) (htz (Cond.fieldLink RX9 10 "TagReaders" "chances" "LTagReaders$Chances;") qw_566) (fun _ h9 => h9) rfl hin rfl (by decide +kernel) rfl rfl (Nat.le_of_ble_eq_true rfl) dX9_init_12 (fun H locs hP hD hS => ?_)
  have hP : va_P E.1 vwCl [(h0, .inr (7, [.ref ch, .null, .null, .null])), (ch, .inr (0, [.ref qa, .ref qb, .ref qe])), (qa, .inl (E.2.1 1, 221, .inr (.inl tW))), (qb, .inl (E.2.1 1, 221, .inr (.inl tC))), (qe, .inl (E.2.1 0, 13, .inl z_bs))] H := hP
  have hD : va_D A [(h0, .inr (7, [.ref ch, .null, .null, .null])), (ch, .inr (0, [.ref qa, .ref qb, .ref qe])), (qa, .inl (E.2.1 1, 221, .inr (.inl tW))), (qb, .inl (E.2.1 1, 221, .inr (.inl tC))), (qe, .inl (E.2.1 0, 13, .inl z_bs))] := hD
  refine lv_aload_n hx hb dX9_init_15 rfl (lv_at hl 0 rfl) ?_
  have hc1 : 4 + 1 ≤ 74 := by decide
  have hs1 : 458 + 9 ≤ 7578 := by decide
  refine va_new (ci := 6) (fs := [.null, .null, .null, .null, .null, .int 0, .int 0, .int 0, .int 0]) (C := RX8) (T := TX8) (N := 9) hx hb htz iw_X8 tyX8 tyX8_ok hown (htz (Cond.classLink RX9 16 RX8) qw_914) (htz (Cond.instantiable RX8 9) qw_915) (htz (Cond.initialized RX8) qw_124) hV.1 hP hD hS hA rfl (fun j hj => by rcases (show j = 0 ∨ j = 1 ∨ j = 2 ∨ j = 3 ∨ j = 4 ∨ j = 5 ∨ j = 6 ∨ j = 7 ∨ j = 8 by omega) with rfl | rfl | rfl | rfl | rfl | rfl | rfl | rfl | rfl <;> rfl) hc1 hs1 dX9_init_16 (fun h1 H hP hD hS => ?_)
  have hP : va_P E.1 vwCl [(h0, .inr (7, [.ref ch, .null, .null, .null])), (ch, .inr (0, [.ref qa, .ref qb, .ref qe])), (qa, .inl (E.2.1 1, 221, .inr (.inl tW))), (qb, .inl (E.2.1 1, 221, .inr (.inl tC))), (qe, .inl (E.2.1 0, 13, .inl z_bs)), (h1, .inr (6, [.null, .null, .null, .null, .null, .int 0, .int 0, .int 0, .int 0]))] H := hP
  have hD : va_D A [(h0, .inr (7, [.ref ch, .null, .null, .null])), (ch, .inr (0, [.ref qa, .ref qb, .ref qe])), (qa, .inl (E.2.1 1, 221, .inr (.inl tW))), (qb, .inl (E.2.1 1, 221, .inr (.inl tC))), (qe, .inl (E.2.1 0, 13, .inl z_bs)), (h1, .inr (6, [.null, .null, .null, .null, .null, .int 0, .int 0, .int 0, .int 0]))] := hD
  refine W.widen (k := 5) (n := 467) (by omega) (by omega) ?_
  refine lv_dup hx hb dX9_init_19 rfl ?_
  refine lv_aload_n hx hb dX9_init_20 rfl (lv_at hl 0 rfl) ?_
  refine va_get (v := .ref ch) (D := E.1) (ci := 7) (C := RX9) (T := TX9) (N := 4) hx hb htz iw_X9 hown hV.1 hP 0 rfl rfl 0 (by decide) (htz (Cond.fieldLink RX9 10 "TagReaders" "chances" "LTagReaders$Chances;") qw_566) (fun _ h9 => h9) rfl dX9_init_21 ?_
  have hPc := hP.sub (ws' := [(h1, .inr (6, [.null, .null, .null, .null, .null, .int 0, .int 0, .int 0, .int 0]))]) [5] rfl
  have hDc := hD.sub (ws' := [(h1, .inr (6, [.null, .null, .null, .null, .null, .int 0, .int 0, .int 0, .int 0]))]) [5] (by decide) rfl
  have hFc := va_free (wc := [(h1, .inr (6, [.null, .null, .null, .null, .null, .int 0, .int 0, .int 0, .int 0]))]) hD hS hA [5] rfl
  have hkc : 5 + 69 ≤ 74 := by decide
  have hks : 467 + 7111 ≤ 7578 := by decide
  refine va_callv (va_runI (As := [.ref ch]) (rest := [.ref h1, .ref h0]) ⟨hx, hb, hml, hown, htz⟩ (c_X8_init l E.1 (z_tys E) (E.2.1 0) (E.2.1 2) (E.2.1 3) 0 2 3 rfl rfl rfl h1 ch H.size) (cwI 1 htz gz_X8 rfl rfl rfl (htz (Cond.initialized RX8) qw_124) (htz (Cond.methodLink RX9 18 yX8_init) qw_928) (htz (Cond.instanceMethod yX8_init) qw_929) rfl (by decide +kernel) ⟨Nat.le_of_ble_eq_true rfl, Nat.le_of_ble_eq_true rfl⟩) ⟨fun a U g mk q => by obtain ⟨q0, q1, qP, qK, qD⟩ := q; exact ⟨q0, q1, qP, ⟨⟨va_K.moved (u := U) (U := U.calling g mk a) (Vm.Alike.refl U.vm) qK.1.1, fun q hq => va_Nw.same (u := U) (U := U.calling g mk a) rfl rfl (qK.1.2 q hq)⟩, va_AO.moved (u := U) (U := U.calling g mk a) (Vm.Alike.refl U.vm) qK.2.1, va_AO.moved (u := U) (U := U.calling g mk a) (Vm.Alike.refl U.vm) qK.2.2⟩, qD⟩, fun U hU hW => ⟨rfl, by rw [hU], by rw [hU]; exact hPc, z_eA_inw (z_eA_move hV hS hU hW), hDc.weaken (fun _ _ _ _ => trivial)⟩⟩ rfl rfl hl.1 rfl (lv_room (Nat.le_of_ble_eq_true rfl)) dX9_init_24 ⟨hkc, hks⟩) hS (fun q _ h => hFc q h) hFc (fun u t H1 locs ht hvm hw hB hz1 hk1 hS => ?_)
  obtain ⟨qT, qR, qj, ij, qc, ad, f, hP1, -, hD1⟩ := hB
  rw [ht] at hP1
  obtain ⟨hP, hD⟩ := va_join (wr := [(h0, .inr (7, [.ref ch, .null, .null, .null])), (ch, .inr (0, [.ref qa, .ref qb, .ref qe])), (qa, .inl (E.2.1 1, 221, .inr (.inl tW))), (qb, .inl (E.2.1 1, 221, .inr (.inl tC))), (qe, .inl (E.2.1 0, 13, .inl z_bs))]) (w1 := (([(h1, .inr (6, [.ref ch, .ref qT, .ref qR, .ref qj, .ref qc, .int 0, .int 0, .int 20, .int 40])), (qT, .inl (E.2.1 2, 24, .inr (.inr (.inr (.inr (z_rw ad 24)))))), (qR, .inl (E.2.1 3, 4, .inr (.inr (.inr (.inr (z_rw (fun j => f j 0) 4)))))), (qj, .inr (1, [.ref ij, .int 0])), (ij, .inl (E.2.1 0, 240, .inl (fun _ => 0))), (qc, .inl (E.2.1 0, 14, .inl (fun _ => 0)))] : va_W) ++ z_tgs ad 24 ++ z_rds f (E.2.1 0) 4)) hP hD [5] [0, 1, 2, 3, 4] rfl rfl (by decide) (by decide) hk1 hFc hP1 hD1
  generalize H1 = H at hP hS ⊢
  have hP : va_P E.1 vwCl (([(h0, .inr (7, [.ref ch, .null, .null, .null])), (ch, .inr (0, [.ref qa, .ref qb, .ref qe])), (qa, .inl (E.2.1 1, 221, .inr (.inl tW))), (qb, .inl (E.2.1 1, 221, .inr (.inl tC))), (qe, .inl (E.2.1 0, 13, .inl z_bs))] : va_W) ++ (([(h1, .inr (6, [.ref ch, .ref qT, .ref qR, .ref qj, .ref qc, .int 0, .int 0, .int 20, .int 40])), (qT, .inl (E.2.1 2, 24, .inr (.inr (.inr (.inr (z_rw ad 24)))))), (qR, .inl (E.2.1 3, 4, .inr (.inr (.inr (.inr (z_rw (fun j => f j 0) 4)))))), (qj, .inr (1, [.ref ij, .int 0])), (ij, .inl (E.2.1 0, 240, .inl (fun _ => 0))), (qc, .inl (E.2.1 0, 14, .inl (fun _ => 0)))] : va_W) ++ z_tgs ad 24 ++ z_rds f (E.2.1 0) 4)) H := hP
  have hD : va_D A (([(h0, .inr (7, [.ref ch, .null, .null, .null])), (ch, .inr (0, [.ref qa, .ref qb, .ref qe])), (qa, .inl (E.2.1 1, 221, .inr (.inl tW))), (qb, .inl (E.2.1 1, 221, .inr (.inl tC))), (qe, .inl (E.2.1 0, 13, .inl z_bs))] : va_W) ++ (([(h1, .inr (6, [.ref ch, .ref qT, .ref qR, .ref qj, .ref qc, .int 0, .int 0, .int 20, .int 40])), (qT, .inl (E.2.1 2, 24, .inr (.inr (.inr (.inr (z_rw ad 24)))))), (qR, .inl (E.2.1 3, 4, .inr (.inr (.inr (.inr (z_rw (fun j => f j 0) 4)))))), (qj, .inr (1, [.ref ij, .int 0])), (ij, .inl (E.2.1 0, 240, .inl (fun _ => 0))), (qc, .inl (E.2.1 0, 14, .inl (fun _ => 0)))] : va_W) ++ z_tgs ad 24 ++ z_rds f (E.2.1 0) 4)) := hD
  refine W.widen (k := 74) (n := 7578) (by omega) (by omega) ?_
  refine va_putF (D := E.1) (ci := 7) (v := .ref h1) (ty := .object "TagReaders$World") (C := RX9) (T := TX9) (N := 4) hx hb htz iw_X9 tyX9 tyX9_ok nmX9 hown hV.1 hP hD hS 0 rfl rfl 1 (by decide) (htz (Cond.fieldLink RX9 21 "TagReaders" "now" "LTagReaders$World;") qw_488) (fun _ h9 => h9) rfl hin rfl (by decide +kernel) rfl rfl (Nat.le_of_ble_eq_true rfl) dX9_init_27 (fun H locs hP hD hS => ?_)
  have hP : va_P E.1 vwCl (([(h0, .inr (7, [.ref ch, .ref h1, .null, .null])), (ch, .inr (0, [.ref qa, .ref qb, .ref qe])), (qa, .inl (E.2.1 1, 221, .inr (.inl tW))), (qb, .inl (E.2.1 1, 221, .inr (.inl tC))), (qe, .inl (E.2.1 0, 13, .inl z_bs))] : va_W) ++ (([(h1, .inr (6, [.ref ch, .ref qT, .ref qR, .ref qj, .ref qc, .int 0, .int 0, .int 20, .int 40])), (qT, .inl (E.2.1 2, 24, .inr (.inr (.inr (.inr (z_rw ad 24)))))), (qR, .inl (E.2.1 3, 4, .inr (.inr (.inr (.inr (z_rw (fun j => f j 0) 4)))))), (qj, .inr (1, [.ref ij, .int 0])), (ij, .inl (E.2.1 0, 240, .inl (fun _ => 0))), (qc, .inl (E.2.1 0, 14, .inl (fun _ => 0)))] : va_W) ++ z_tgs ad 24 ++ z_rds f (E.2.1 0) 4)) H := hP
  have hD : va_D A (([(h0, .inr (7, [.ref ch, .ref h1, .null, .null])), (ch, .inr (0, [.ref qa, .ref qb, .ref qe])), (qa, .inl (E.2.1 1, 221, .inr (.inl tW))), (qb, .inl (E.2.1 1, 221, .inr (.inl tC))), (qe, .inl (E.2.1 0, 13, .inl z_bs))] : va_W) ++ (([(h1, .inr (6, [.ref ch, .ref qT, .ref qR, .ref qj, .ref qc, .int 0, .int 0, .int 20, .int 40])), (qT, .inl (E.2.1 2, 24, .inr (.inr (.inr (.inr (z_rw ad 24)))))), (qR, .inl (E.2.1 3, 4, .inr (.inr (.inr (.inr (z_rw (fun j => f j 0) 4)))))), (qj, .inr (1, [.ref ij, .int 0])), (ij, .inl (E.2.1 0, 240, .inl (fun _ => 0))), (qc, .inl (E.2.1 0, 14, .inl (fun _ => 0)))] : va_W) ++ z_tgs ad 24 ++ z_rds f (E.2.1 0) 4)) := hD
  exact W.vret hx hb hr (fun t ht hW => ⟨⟨0, rfl, trivial, ch, qa, qb, qe, h1, qT, qR, qj, ij, qc, ad, f, by rw [ht]; exact hP, hD⟩, hS.F ht⟩) hS.2.2 dX9_init_30
