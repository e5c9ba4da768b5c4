/-! constructor: Chances -/
theorem dX0_init_0 : decode cX0_init 0 = .ok (.aload_n 0, 1) := by decide +kernel
theorem dX0_init_1 : decode cX0_init 1 = .ok (.invokespecial 5, 3) := by decide +kernel
theorem dX0_init_4 : decode cX0_init 4 = .ok (.aload_n 0, 1) := by decide +kernel
theorem dX0_init_5 : decode cX0_init 5 = .ok (.sipush 221, 3) := by decide +kernel
theorem dX0_init_8 : decode cX0_init 8 = .ok (.newarray .long, 2) := by decide +kernel
theorem dX0_init_10 : decode cX0_init 10 = .ok (.putfield 11, 3) := by decide +kernel
theorem dX0_init_13 : decode cX0_init 13 = .ok (.aload_n 0, 1) := by decide +kernel
theorem dX0_init_14 : decode cX0_init 14 = .ok (.sipush 221, 3) := by decide +kernel
theorem dX0_init_17 : decode cX0_init 17 = .ok (.newarray .long, 2) := by decide +kernel
theorem dX0_init_19 : decode cX0_init 19 = .ok (.putfield 15, 3) := by decide +kernel
theorem dX0_init_22 : decode cX0_init 22 = .ok (.aload_n 0, 1) := by decide +kernel
theorem dX0_init_23 : decode cX0_init 23 = .ok (.getfield 11, 3) := by decide +kernel
theorem dX0_init_26 : decode cX0_init 26 = .ok (.iconst 0, 1) := by decide +kernel
theorem dX0_init_27 : decode cX0_init 27 = .ok (.invokestatic 18, 3) := by decide +kernel
theorem dX0_init_30 : decode cX0_init 30 = .ok (.aload_n 0, 1) := by decide +kernel
theorem dX0_init_31 : decode cX0_init 31 = .ok (.getfield 15, 3) := by decide +kernel
theorem dX0_init_34 : decode cX0_init 34 = .ok (.iconst 2, 1) := by decide +kernel
theorem dX0_init_35 : decode cX0_init 35 = .ok (.invokestatic 18, 3) := by decide +kernel
theorem dX0_init_38 : decode cX0_init 38 = .ok (.return_, 1) := by decide +kernel
set_option maxHeartbeats 8000000 in
set_option maxRecDepth 100000 in
theorem c_X0_init (l : Launch) (E : zE) (h0 sz : Nat) : Met l yX0_init (Cond.code yX0_init cX0_init 1 none :: zw) ({ frames := 202, cells := 2, slots := 442, locals := 13100 }) (va_Pc [.ref h0] (fun U => U.heap.size = sz ∧ va_P E.1 vwCl [(h0, .inr (0, [.null, .null]))] U.heap ∧ z_eA E (va_A [(h0, .inr (0, [.null, .null]))] sz) U ∧ va_D (fun _ => True) [(h0, .inr (0, [.null, .null]))])) (va_Qv (fun _ : Nat × Nat => True) (fun q t => va_P E.1 vwCl [(h0, .inr (0, [.ref q.1, .ref q.2])), (q.1, .inl (E.2.1 1, 221, .inr (.inl tW))), (q.2, .inl (E.2.1 1, 221, .inr (.inl tC)))] t.heap ∧ va_D (va_A [(h0, .inr (0, [.null, .null]))] sz) [(h0, .inr (0, [.ref q.1, .ref q.2])), (q.1, .inl (E.2.1 1, 221, .inr (.inl tW))), (q.2, .inl (E.2.1 1, 221, .inr (.inl tC)))]) (va_A [(h0, .inr (0, [.null, .null]))] sz)) 2 442 (va_A [(h0, .inr (0, [.null, .null]))] sz) := by
  refine Met.ofW (cc := cX0_init) (maxL := 1) (ret := none) (by decide) rfl ?_
  intro p e s m args below meth c s₁ B hml hv
  obtain ⟨rfl, hsz, hP, hV, hD0⟩ := hv
  have hx := B.exec
  have hb := B.bytes
  have hr := B.returns
  have hts := atoms_spec (ws := Cond.code yX0_init cX0_init 1 none :: zw) B.pre
  have htz := gz_tail hts
  have hown : s.vm.findClass RX0 = some m.cls := findClass_of_methodNamed B.named
  have hlocks := B.notSynchronized
  have hin : meth.name = "<init>" := (name_of_methodNamed B.named B.method).1
  subst hsz
  have hD := hD0.self (sz := s.heap.size)
  generalize hAe : va_A ([(h0, .inr (0, [.null, .null]))] : va_W) s.heap.size = A at hD hV ⊢
  have hA : ∀ q : Nat, s.heap.size ≤ q → A q := fun q h => by rw [← hAe]; exact Or.inr h
  have hS : va_S A s.heap s.heap [] := va_S.rf
  have hl := lv_entry ([.ref h0]) (n := 1) (Nat.le_of_ble_eq_true rfl)
  rw [lg_entry_eq]
  generalize (lg_sl ([.ref h0]) ++ List.replicate (1 - (lg_sl ([.ref h0])).length) Slot.unset).toArray = ls at hl ⊢
  have hl : lv_has ls 1 [(0, .ref h0)] := hl
  refine lv_aload_n hx hb dX0_init_0 rfl (lv_at hl 0 rfl) ?_
  refine W.objInit hx hb hown (htz (Cond.methodLink RX0 5 objectInit) qw_918) (htz (Cond.instanceMethod objectInit) qw_909) (htz (Cond.code objectInit ⟨#[0xb1]⟩ 1 none) qw_910) rfl (by rw [hml]; exact hl.1) rfl dX0_init_1 (Nat.le_of_ble_eq_true rfl) (Nat.le_of_ble_eq_true rfl) ?_
  refine W.eq (g2 := F0 m 4 ls []) rfl ?_
  refine lv_aload_n hx hb dX0_init_4 rfl (lv_at hl 0 rfl) ?_
  refine lv_sipush (v := 221) hx hb dX0_init_5 (by decide) ?_
  have hc1 : 0 + 1 ≤ 2 := by decide
  have hs1 : 0 + 221 ≤ 442 := by decide
  refine va_newa (atype := .long) hx hb (htz (Cond.arrayClass .long) qw_919) rfl hV.1 hP hD hS hA (n := 221) (N' := 221) (a0 := (221, .inr (.inl (fun _ => 0)))) (fun cA => rfl) (by decide) (by decide) (by decide) hc1 hs1 dX0_init_8 (fun qa cA H hK2 hP hD hS => ?_)
  obtain rfl := (va_uniqJ (k := 1) (cI := E.2.1 1) hK2 rfl)
  have hP : va_P E.1 vwCl [(h0, .inr (0, [.null, .null])), (qa, .inl (E.2.1 1, 221, .inr (.inl (fun _ => 0))))] H := hP
  have hD : va_D A [(h0, .inr (0, [.null, .null])), (qa, .inl (E.2.1 1, 221, .inr (.inl (fun _ => 0))))] := hD
  refine W.widen (k := 1) (n := 221) (by omega) (by omega) ?_
  refine va_putF (D := E.1) (ci := 0) (v := .ref qa) (ty := .array .long) (C := RX0) (T := TX0) (N := 2) hx hb htz iw_X0 tyX0 tyX0_ok nmX0 hown hV.1 hP hD hS 0 rfl rfl 0 (by decide) (htz (Cond.fieldLink RX0 11 "TagReaders$Chances" "withoutSingles" "[J") qw_14) (fun _ h9 => h9) rfl hin rfl (by decide +kernel) rfl rfl (Nat.le_of_ble_eq_true rfl) dX0_init_10 (fun H locs hP hD hS => ?_)
  have hP : va_P E.1 vwCl [(h0, .inr (0, [.ref qa, .null])), (qa, .inl (E.2.1 1, 221, .inr (.inl (fun _ => 0))))] H := hP
  have hD : va_D A [(h0, .inr (0, [.ref qa, .null])), (qa, .inl (E.2.1 1, 221, .inr (.inl (fun _ => 0))))] := hD
  refine lv_aload_n hx hb dX0_init_13 rfl (lv_at hl 0 rfl) ?_
  refine lv_sipush (v := 221) hx hb dX0_init_14 (by decide) ?_
  have hc1 : 1 + 1 ≤ 2 := by decide
  have hs1 : 221 + 221 ≤ 442 := by decide
  refine va_newa (atype := .long) hx hb (htz (Cond.arrayClass .long) qw_919) rfl hV.1 hP hD hS hA (n := 221) (N' := 221) (a0 := (221, .inr (.inl (fun _ => 0)))) (fun cA => rfl) (by decide) (by decide) (by decide) hc1 hs1 dX0_init_17 (fun qb cA H hK2 hP hD hS => ?_)
  obtain rfl := (va_uniqJ (k := 1) (cI := E.2.1 1) hK2 rfl)
  have hP : va_P E.1 vwCl [(h0, .inr (0, [.ref qa, .null])), (qa, .inl (E.2.1 1, 221, .inr (.inl (fun _ => 0)))), (qb, .inl (E.2.1 1, 221, .inr (.inl (fun _ => 0))))] H := hP
  have hD : va_D A [(h0, .inr (0, [.ref qa, .null])), (qa, .inl (E.2.1 1, 221, .inr (.inl (fun _ => 0)))), (qb, .inl (E.2.1 1, 221, .inr (.inl (fun _ => 0))))] := hD
  refine W.widen (k := 2) (n := 442) (by omega) (by omega) ?_
  refine va_putF (D := E.1) (ci := 0) (v := .ref qb) (ty := .array .long) (C := RX0) (T := TX0) (N := 2) hx hb htz iw_X0 tyX0 tyX0_ok nmX0 hown hV.1 hP hD hS 0 rfl rfl 1 (by decide) (htz (Cond.fieldLink RX0 15 "TagReaders$Chances" "clashesAlone" "[J") qw_31) (fun _ h9 => h9) rfl hin rfl (by decide +kernel) rfl rfl (Nat.le_of_ble_eq_true rfl) dX0_init_19 (fun H locs hP hD hS => ?_)
  have hP : va_P E.1 vwCl [(h0, .inr (0, [.ref qa, .ref qb])), (qa, .inl (E.2.1 1, 221, .inr (.inl (fun _ => 0)))), (qb, .inl (E.2.1 1, 221, .inr (.inl (fun _ => 0))))] H := hP
  have hD : va_D A [(h0, .inr (0, [.ref qa, .ref qb])), (qa, .inl (E.2.1 1, 221, .inr (.inl (fun _ => 0)))), (qb, .inl (E.2.1 1, 221, .inr (.inl (fun _ => 0))))] := hD
  refine lv_aload_n hx hb dX0_init_22 rfl (lv_at hl 0 rfl) ?_
  refine va_get (v := .ref qa) (D := E.1) (ci := 0) (C := RX0) (T := TX0) (N := 2) hx hb htz iw_X0 hown hV.1 hP 0 rfl rfl 0 (by decide) (htz (Cond.fieldLink RX0 11 "TagReaders$Chances" "withoutSingles" "[J") qw_14) (fun _ h9 => h9) rfl dX0_init_23 ?_
  refine lv_iconst (v := 0) hx hb dX0_init_26 (by decide) ?_
  have hPc : va_P E.1 vwCl (z_ws ((E.1, E.2.1, (fun id => if id.1 = 50 then E.2.2.1 id else qa), [(45, 0, 0)]) : zE) ((fun _ _ _ _ => 0, fun _ _ => 0) : zMem)) H := hP.sub (ws' := [(qa, .inl (E.2.1 1, 221, .inr (.inl (fun _ => 0))))]) [1] rfl
  have hFc := va_free (wc := [(qa, .inl (E.2.1 1, 221, .inr (.inl (fun _ => 0))))]) hD hS hA [1] rfl
  have hFz : ∀ q2, z_A ((E.1, E.2.1, (fun id => if id.1 = 50 then E.2.2.1 id else qa), [(45, 0, 0)]) : zE) q2 → va_A [(qa, .inl (E.2.1 1, 221, .inr (.inl (fun _ => 0))))] H.size q2 := fun q2 h => by
    obtain ⟨id, hid, h2⟩ := h
    have h3 := List.mem_singleton.mp hid
    subst h3
    have h4 : q2 = qa := h2
    rw [h4]
    exact Or.inl ⟨0, _, rfl⟩
  refine z_cS (E := ((E.1, E.2.1, (fun id => if id.1 = 50 then E.2.2.1 id else qa), [(45, 0, 0)]) : zE)) (M := ((fun _ _ _ _ => 0, fun _ _ => 0) : zMem)) (M2 := m_fill ((fun _ _ _ _ => 0, fun _ _ => 0) : zMem) 45 0) (as := [.inr (.inr (45, 0, 0)), .inl (nI 0)]) (r := none) (k := 1) (n := 2) (rest := []) hx hb hml hown htz (fun h K hK => s_fill (h := h + 198) (.inl rfl) (.inl rfl) hK) qw_922 qw_1 ⟨by decide +kernel, by decide +kernel, by decide +kernel⟩ (Nat.le_of_ble_eq_true rfl) qw_920 qw_921 (z_okJ (.inl rfl)) (fun v hv => ?_) rfl hPc hS (fun q2 h => hFc q2 (hFz q2 h)) (z_eA_E hV rfl rfl (fun _ => rfl)) ⟨Nat.le_of_ble_eq_true rfl, Nat.le_of_ble_eq_true rfl⟩ ⟨Nat.le_of_ble_eq_true rfl, Nat.le_of_ble_eq_true rfl⟩ hl.1 (Nat.zero_le _) dX0_init_27 rfl (fun H1 locs _ hP1 hle hun hS => ?_)
  · rcases List.mem_cons.mp hv with e | e
    · rw [e]; exact Or.inr (Or.inr (Or.inr (List.mem_singleton.mpr rfl)))
    · rw [List.mem_singleton.mp e]; trivial
  have hP2 : va_P E.1 vwCl [(qa, .inl (E.2.1 1, 221, .inr (.inl tW)))] H1 := vx_rowJ (f := (m_fill ((fun _ _ _ _ => 0, fun _ _ => 0) : zMem) 45 0).2 45) hP1 (fill_W (fun _ _ => rfl)).1
  have hD2 : va_D (va_A [(qa, .inl (E.2.1 1, 221, .inr (.inl (fun _ => 0))))] H.size) [(qa, .inl (E.2.1 1, 221, .inr (.inl tW)))] := ⟨fun i j x y hi hj _ => by
    have h1 : i < 1 := (List.getElem?_eq_some_iff.mp hi).1
    have h2 : j < 1 := (List.getElem?_eq_some_iff.mp hj).1
    omega, fun k x hk => by
    have h1 : k < 1 := (List.getElem?_eq_some_iff.mp hk).1
    rw [show k = 0 by omega] at hk
    cases hk
    exact Or.inl ⟨0, _, rfl⟩⟩
  obtain ⟨hP, hD⟩ := va_join (wc := [(qa, .inl (E.2.1 1, 221, .inr (.inl (fun _ => 0))))]) (wr := [(h0, .inr (0, [.ref qa, .ref qb])), (qb, .inl (E.2.1 1, 221, .inr (.inl (fun _ => 0))))]) hP hD [1] [0, 2] rfl rfl (by decide) (by decide) (fun q2 h1 h2 => hun q2 h1 (fun h => h2 (hFz q2 h))) hFc hP2 hD2
  generalize H1 = H at hP hS ⊢
  have hP : va_P E.1 vwCl [(h0, .inr (0, [.ref qa, .ref qb])), (qb, .inl (E.2.1 1, 221, .inr (.inl (fun _ => 0)))), (qa, .inl (E.2.1 1, 221, .inr (.inl tW)))] H := hP
  have hD : va_D A [(h0, .inr (0, [.ref qa, .ref qb])), (qb, .inl (E.2.1 1, 221, .inr (.inl (fun _ => 0)))), (qa, .inl (E.2.1 1, 221, .inr (.inl tW)))] := hD
  refine W.eq (g2 := F0 m 30 ls []) rfl ?_
  refine lv_aload_n hx hb dX0_init_30 rfl (lv_at hl 0 rfl) ?_
  refine va_get (v := .ref qb) (D := E.1) (ci := 0) (C := RX0) (T := TX0) (N := 2) hx hb htz iw_X0 hown hV.1 hP 0 rfl rfl 1 (by decide) (htz (Cond.fieldLink RX0 15 "TagReaders$Chances" "clashesAlone" "[J") qw_31) (fun _ h9 => h9) rfl dX0_init_31 ?_
  refine lv_iconst (v := 2) hx hb dX0_init_34 (by decide) ?_
  have hPc : va_P E.1 vwCl (z_ws ((E.1, E.2.1, (fun id => if id.1 = 50 then E.2.2.1 id else qb), [(46, 0, 0)]) : zE) ((fun _ _ _ _ => 0, fun _ _ => 0) : zMem)) H := hP.sub (ws' := [(qb, .inl (E.2.1 1, 221, .inr (.inl (fun _ => 0))))]) [1] rfl
  have hFc := va_free (wc := [(qb, .inl (E.2.1 1, 221, .inr (.inl (fun _ => 0))))]) hD hS hA [1] rfl
  have hFz : ∀ q2, z_A ((E.1, E.2.1, (fun id => if id.1 = 50 then E.2.2.1 id else qb), [(46, 0, 0)]) : zE) q2 → va_A [(qb, .inl (E.2.1 1, 221, .inr (.inl (fun _ => 0))))] H.size q2 := fun q2 h => by
    obtain ⟨id, hid, h2⟩ := h
    have h3 := List.mem_singleton.mp hid
    subst h3
    have h4 : q2 = qb := h2
    rw [h4]
    exact Or.inl ⟨0, _, rfl⟩
  refine z_cS (E := ((E.1, E.2.1, (fun id => if id.1 = 50 then E.2.2.1 id else qb), [(46, 0, 0)]) : zE)) (M := ((fun _ _ _ _ => 0, fun _ _ => 0) : zMem)) (M2 := m_fill ((fun _ _ _ _ => 0, fun _ _ => 0) : zMem) 46 2) (as := [.inr (.inr (46, 0, 0)), .inl (nI 2)]) (r := none) (k := 1) (n := 2) (rest := []) hx hb hml hown htz (fun h K hK => s_fill (h := h + 198) (.inr rfl) (.inr rfl) hK) qw_922 qw_1 ⟨by decide +kernel, by decide +kernel, by decide +kernel⟩ (Nat.le_of_ble_eq_true rfl) qw_920 qw_921 (z_okJ (.inr rfl)) (fun v hv => ?_) rfl hPc hS (fun q2 h => hFc q2 (hFz q2 h)) (z_eA_E hV rfl rfl (fun _ => rfl)) ⟨Nat.le_of_ble_eq_true rfl, Nat.le_of_ble_eq_true rfl⟩ ⟨Nat.le_of_ble_eq_true rfl, Nat.le_of_ble_eq_true rfl⟩ hl.1 (Nat.zero_le _) dX0_init_35 rfl (fun H1 locs _ hP1 hle hun hS => ?_)
  · rcases List.mem_cons.mp hv with e | e
    · rw [e]; exact Or.inr (Or.inr (Or.inr (List.mem_singleton.mpr rfl)))
    · rw [List.mem_singleton.mp e]; trivial
  have hP2 : va_P E.1 vwCl [(qb, .inl (E.2.1 1, 221, .inr (.inl tC)))] H1 := vx_rowJ (f := (m_fill ((fun _ _ _ _ => 0, fun _ _ => 0) : zMem) 46 2).2 46) hP1 (fill_C (fun _ _ => rfl)).1
  have hD2 : va_D (va_A [(qb, .inl (E.2.1 1, 221, .inr (.inl (fun _ => 0))))] H.size) [(qb, .inl (E.2.1 1, 221, .inr (.inl tC)))] := ⟨fun i j x y hi hj _ => by
    have h1 : i < 1 := (List.getElem?_eq_some_iff.mp hi).1
    have h2 : j < 1 := (List.getElem?_eq_some_iff.mp hj).1
    omega, fun k x hk => by
    have h1 : k < 1 := (List.getElem?_eq_some_iff.mp hk).1
    rw [show k = 0 by omega] at hk
    cases hk
    exact Or.inl ⟨0, _, rfl⟩⟩
  obtain ⟨hP, hD⟩ := va_join (wc := [(qb, .inl (E.2.1 1, 221, .inr (.inl (fun _ => 0))))]) (wr := [(h0, .inr (0, [.ref qa, .ref qb])), (qa, .inl (E.2.1 1, 221, .inr (.inl tW)))]) hP hD [1] [0, 2] rfl rfl (by decide) (by decide) (fun q2 h1 h2 => hun q2 h1 (fun h => h2 (hFz q2 h))) hFc hP2 hD2
  generalize H1 = H at hP hS ⊢
  have hP : va_P E.1 vwCl [(h0, .inr (0, [.ref qa, .ref qb])), (qa, .inl (E.2.1 1, 221, .inr (.inl tW))), (qb, .inl (E.2.1 1, 221, .inr (.inl tC)))] H := hP
  have hD : va_D A [(h0, .inr (0, [.ref qa, .ref qb])), (qa, .inl (E.2.1 1, 221, .inr (.inl tW))), (qb, .inl (E.2.1 1, 221, .inr (.inl tC)))] := hD
  refine W.eq (g2 := F0 m 38 ls []) rfl ?_
  exact W.vret hx hb hr (fun t ht hW => ⟨⟨(qa, qb), rfl, trivial, by rw [ht]; exact hP, hD⟩, hS.F ht⟩) hS.2.2 dX0_init_38
