/-! image of the class -/
theorem dX9_image_0 : decode cX9_image 0 = .ok (.iload_n 1, 1) := by decide +kernel
theorem dX9_image_1 : decode cX9_image 1 = .ok (.ifCond .eq 38, 3) := by decide +kernel
theorem dX9_image_4 : decode cX9_image 4 = .ok (.aload_n 0, 1) := by decide +kernel
theorem dX9_image_5 : decode cX9_image 5 = .ok (.getfield 227, 3) := by decide +kernel
theorem dX9_image_8 : decode cX9_image 8 = .ok (.ifnonnull 18, 3) := by decide +kernel
theorem dX9_image_11 : decode cX9_image 11 = .ok (.aload_n 0, 1) := by decide +kernel
theorem dX9_image_12 : decode cX9_image 12 = .ok (.new 16, 3) := by decide +kernel
theorem dX9_image_15 : decode cX9_image 15 = .ok (.dup, 1) := by decide +kernel
theorem dX9_image_16 : decode cX9_image 16 = .ok (.aload_n 0, 1) := by decide +kernel
theorem dX9_image_17 : decode cX9_image 17 = .ok (.getfield 10, 3) := by decide +kernel
theorem dX9_image_20 : decode cX9_image 20 = .ok (.invokespecial 18, 3) := by decide +kernel
theorem dX9_image_23 : decode cX9_image 23 = .ok (.putfield 227, 3) := by decide +kernel
theorem dX9_image_26 : decode cX9_image 26 = .ok (.aload_n 0, 1) := by decide +kernel
theorem dX9_image_27 : decode cX9_image 27 = .ok (.getfield 227, 3) := by decide +kernel
theorem dX9_image_30 : decode cX9_image 30 = .ok (.aload_n 0, 1) := by decide +kernel
theorem dX9_image_31 : decode cX9_image 31 = .ok (.getfield 21, 3) := by decide +kernel
theorem dX9_image_34 : decode cX9_image 34 = .ok (.invokevirtual 173, 3) := by decide +kernel
theorem dX9_image_37 : decode cX9_image 37 = .ok (.iconst 1, 1) := by decide +kernel
theorem dX9_image_38 : decode cX9_image 38 = .ok (.ireturn, 1) := by decide +kernel
theorem dX9_image_39 : decode cX9_image 39 = .ok (.aload_n 0, 1) := by decide +kernel
theorem dX9_image_40 : decode cX9_image 40 = .ok (.getfield 227, 3) := by decide +kernel
theorem dX9_image_43 : decode cX9_image 43 = .ok (.ifnonnull 5, 3) := by decide +kernel
theorem dX9_image_46 : decode cX9_image 46 = .ok (.iconst 0, 1) := by decide +kernel
theorem dX9_image_47 : decode cX9_image 47 = .ok (.ireturn, 1) := by decide +kernel
theorem dX9_image_48 : decode cX9_image 48 = .ok (.aload_n 0, 1) := by decide +kernel
theorem dX9_image_49 : decode cX9_image 49 = .ok (.getfield 21, 3) := by decide +kernel
theorem dX9_image_52 : decode cX9_image 52 = .ok (.aload_n 0, 1) := by decide +kernel
theorem dX9_image_53 : decode cX9_image 53 = .ok (.getfield 227, 3) := by decide +kernel
theorem dX9_image_56 : decode cX9_image 56 = .ok (.invokevirtual 173, 3) := by decide +kernel
theorem dX9_image_59 : decode cX9_image 59 = .ok (.iconst 1, 1) := by decide +kernel
theorem dX9_image_60 : decode cX9_image 60 = .ok (.ireturn, 1) := by decide +kernel
set_option maxHeartbeats 1000000 in
set_option maxRecDepth 100000 in
theorem c_X9_image (l : Launch) (E : zE) (M : zMem) (b : Nat) (r : Int32) (sz : Nat) (hSB : SB M b) (hr01 : r = 0 ∨ r = 1) (hw : z_wld E (M.1 10 0 0 2) (M.1 10 0 0 3)) : Met l yX9_image (Cond.code yX9_image cX9_image 2 (some .boolean) :: zw) ({ frames := 205, cells := 70, slots := 7120, locals := 13400 }) (va_Pc [.ref (E.2.2.1 (10, 0, 0)), .int r] (z_9pre E M sz)) (va_Qi (z_9post 269 E b sz r) z_9B (z_9A E sz)) 70 7120 (z_9A E sz) := by
  have hw0 := hw
  refine Met.ofW (cc := cX9_image) (maxL := 2) (ret := some .boolean) (by decide) rfl ?_
  intro p e s m args below meth c s₁ B hml hv
  obtain ⟨rfl, hsz, hP, hV⟩ := hv
  have hx := B.exec
  have hb := B.bytes
  have hr := B.returns
  have hts := atoms_spec (ws := Cond.code yX9_image cX9_image 2 (some .boolean) :: zw) B.pre
  have htz := gz_tail hts
  have hown : s.vm.findClass RX9 = some m.cls := findClass_of_methodNamed B.named
  have hlocks := B.notSynchronized
  subst hsz
  obtain ⟨hE, hin10, hin11, h10, w1a, w1b, w2a, w2b⟩ := hw
  obtain ⟨hin1, hin9⟩ := w10_9 hE hin10
  have hAz0 : ∀ q, z_A E q → z_9A E s.heap.size q := fun q h => .inl h
  generalize hAe : z_9A E s.heap.size = A at hV hAz0 ⊢
  have hA : ∀ q : Nat, s.heap.size ≤ q → A q := fun q h => by rw [← hAe]; exact Or.inr h
  have hAz : ∀ q, z_A E q → A q := hAz0
  have hS : va_S A s.heap s.heap [] := va_S.rf
  have hl := lv_entry ([.ref (E.2.2.1 (10, 0, 0)), .int r]) (n := 2) (Nat.le_of_ble_eq_true rfl)
  rw [lg_entry_eq]
  generalize (lg_sl ([.ref (E.2.2.1 (10, 0, 0)), .int r]) ++ List.replicate (2 - (lg_sl ([.ref (E.2.2.1 (10, 0, 0)), .int r])).length) Slot.unset).toArray = ls at hl ⊢
  have hl : lv_has ls 2 [(0, .ref (E.2.2.1 (10, 0, 0))), (1, .int r)] := hl
  obtain ⟨T, c0, hT, hc0, hs⟩ := hSB.1
  have hk01 : M.1 10 0 0 2 = 0 ∨ M.1 10 0 0 2 = 1 := by
    rw [hSB.2.2.1]
    exact hSB.2.2.2.1.imp id (fun q => q.1)
  refine lv_iload_n hx hb dX9_image_0 rfl (lv_at hl 1 rfl) ?_
  by_cases hr0 : r = 0
  · refine lv_if_eq (tgt := 39) hx hb dX9_image_1 (by decide) (fun _ => ?_) (fun z => absurd hr0 z)
    subst hr0
    refine lv_aload_n hx hb dX9_image_39 rfl (lv_at hl 0 rfl) ?_
    rcases hk01 with z0 | z1
    · refine z_hget (E := E) (M := M) (id := (10, 0, 0)) (ci := 7) (k := 2) (idx := 227) (nm := "kept") (ds := "LTagReaders$World;") (fn := false) (T := TX9) (v := .null) hx hb hown htz hV rfl rfl (by decide) iw_X9 qw_1279 hin10 rfl (congrArg some (z_ptr0 z0)) hP dX9_image_40 rfl ?_
      refine lv_ifnonnullN hx hb dX9_image_43 ?_
      refine lv_iconst (v := 0) hx hb dX9_image_46 (by decide) ?_
      refine W.widen (k := 70) (n := 7120) (by omega) (by omega) ?_
      exact W.zret hx hb hr rfl (fun t ht hW => ⟨⟨0, (E, M), rfl, ⟨ext_rf, hw0, fun q h => .inl h, M, image_3 hSB z0, SB_M hSB (by omega), rfl, rfl⟩, by show va_P E.1 vwCl (z_ws E M) t.heap; rw [ht]; exact hP⟩, hS.F ht⟩) hS.2.2 dX9_image_47
    · have hin91 : (9, 1, 0) ∈ E.2.2.2 := w1b (by rw [z1]; decide)
      have pk : z_ptr (M.1 10 0 0 2) (E.2.2.1 (9, 1, 0)) = .ref (E.2.2.1 (9, 1, 0)) := by rw [z1]; exact z_ptr1
      refine z_hget (E := E) (M := M) (id := (10, 0, 0)) (ci := 7) (k := 2) (idx := 227) (nm := "kept") (ds := "LTagReaders$World;") (fn := false) (T := TX9) (v := .ref (E.2.2.1 (9, 1, 0))) hx hb hown htz hV rfl rfl (by decide) iw_X9 qw_1279 hin10 rfl (congrArg some pk) hP dX9_image_40 rfl ?_
      refine lv_ifnonnull (tgt := 48) hx hb dX9_image_43 (by decide) ?_
      refine lv_aload_n hx hb dX9_image_48 rfl (lv_at hl 0 rfl) ?_
      refine z_hget (E := E) (M := M) (id := (10, 0, 0)) (ci := 7) (k := 1) (idx := 21) (nm := "now") (ds := "LTagReaders$World;") (fn := true) (T := TX9) (v := .ref (E.2.2.1 (9, 0, 0))) hx hb hown htz hV rfl rfl (by decide) iw_X9 qw_488 hin10 rfl rfl hP dX9_image_49 rfl ?_
      refine lv_aload_n hx hb dX9_image_52 rfl (lv_at hl 0 rfl) ?_
      refine z_hget (E := E) (M := M) (id := (10, 0, 0)) (ci := 7) (k := 2) (idx := 227) (nm := "kept") (ds := "LTagReaders$World;") (fn := false) (T := TX9) (v := .ref (E.2.2.1 (9, 1, 0))) hx hb hown htz hV rfl rfl (by decide) iw_X9 qw_1279 hin10 rfl (congrArg some pk) hP dX9_image_53 rfl ?_
      obtain ⟨go, J3, zto, sb3, j3⟩ := image_2 hSB z1
      have x10 : ∀ d, (m_wCopy M 0 1).1 10 0 0 d = M.1 10 0 0 d := fun d => wc_off (by decide) (.inl rfl)
      refine z_cV (E := E) (M := M) (M2 := (m_wCopy M 0 1)) (id := (9, 0, 0)) (as := [.inr (.inr (9, 1, 0))]) (r := none) (k := 119) (n := 1) (rest := []) (ci := 6) (C := RX8) (T := TX8) (N := 9) hx hb hml hown htz (z_to80 go) qw_1158 qw_124 ⟨by decide +kernel, by decide +kernel, by decide +kernel⟩ (Nat.le_of_ble_eq_true rfl) qw_1155 qw_1156 qw_1157 hE hin9 (by decide) (fun v hv => by rw [List.mem_singleton.mp hv]; exact Or.inr (Or.inr (Or.inr hin91))) rfl rfl ⟨_, rfl⟩ hP hS hAz hV ⟨Nat.le_of_ble_eq_true rfl, Nat.le_of_ble_eq_true rfl⟩ ⟨Nat.le_of_ble_eq_true rfl, Nat.le_of_ble_eq_true rfl⟩ hl.1 (Nat.le_of_ble_eq_true rfl) dX9_image_56 rfl (fun H locs _ hP _ _ hS => ?_)
      refine W.eq (g2 := F0 m 59 ls []) rfl ?_
      refine lv_iconst (v := 1) hx hb dX9_image_59 (by decide) ?_
      refine W.widen (k := 70) (n := 7120) (by omega) (by omega) ?_
      exact W.zret hx hb hr rfl (fun t ht hW => ⟨⟨1, (E, m_wCopy M 0 1), rfl, ⟨ext_rf, by show z_wld E ((m_wCopy M 0 1).1 10 0 0 2) ((m_wCopy M 0 1).1 10 0 0 3); rw [x10, x10]; exact hw0, fun q h => .inl h, J3, zto, sb3, j3.1.trans (x10 2).symm, j3.2.trans (x10 3).symm⟩, by show va_P E.1 vwCl (z_ws E (m_wCopy M 0 1)) t.heap; rw [ht]; exact hP⟩, hS.F ht⟩) hS.2.2 dX9_image_60
  have hr1 : r = 1 := hr01.resolve_left hr0
  refine lv_if_eq (tgt := 39) hx hb dX9_image_1 (by decide) (fun z => absurd z hr0) (fun _ => ?_)
  have rest : ∀ (E2 : zE) (Jf : zMem) (H : Heap) (locs : List Loc), z_ext E E2 → z_wld E2 1 (M.1 10 0 0 3) → is_kp M Jf → (∀ q, z_A E2 q → A q) → va_P E2.1 vwCl (z_ws E2 Jf) H → va_S A s.heap H locs → W p l e (headSpec (Cond.code yX9_image cX9_image 2 (some .boolean) :: zw) { frames := 205, cells := 70, slots := 7120, locals := 13400 }).room s m #[Value.ref (E.2.2.1 (10, 0, 0)), Value.int r] below meth c H locs 70 7120 (MQ below (va_Qi (z_9post 269 E b s.heap.size r) z_9B A) #[Value.ref (E.2.2.1 (10, 0, 0)), Value.int r] s 70 7120 A) (F0 m 26 ls []) := by
    intro E2 Jf H locs hxt hwl hkp hAz hP hS
    obtain ⟨hE, hin10, hin11, h10, v1a, v1b, v2a, v2b⟩ := id hwl
    obtain ⟨hin1, hin9⟩ := w10_9 hE hin10
    have hin91 : (9, 1, 0) ∈ E2.2.2.2 := v1b (by decide)
    have hV := z_eA_E hV hxt.1 hxt.2.1 hxt.2.2.1
    have hx10 := hxt.2.2.2.1
    rw [← hx10] at hl
    obtain ⟨go, J3, zto, sb3, on1, l2, j32, j33⟩ := image_1 hSB (v := r) hr0 hkp
    have pk : z_ptr (Jf.1 10 0 0 2) (E2.2.2.1 (9, 1, 0)) = .ref (E2.2.2.1 (9, 1, 0)) := by rw [hkp.2.2]; exact z_ptr1
    refine lv_aload_n hx hb dX9_image_26 rfl (lv_at hl 0 rfl) ?_
    refine z_hget (E := E2) (M := Jf) (id := (10, 0, 0)) (ci := 7) (k := 2) (idx := 227) (nm := "kept") (ds := "LTagReaders$World;") (fn := false) (T := TX9) (v := .ref (E2.2.2.1 (9, 1, 0))) hx hb hown htz hV rfl rfl (by decide) iw_X9 qw_1279 hin10 rfl (congrArg some pk) hP dX9_image_27 rfl ?_
    refine lv_aload_n hx hb dX9_image_30 rfl (lv_at hl 0 rfl) ?_
    refine z_hget (E := E2) (M := Jf) (id := (10, 0, 0)) (ci := 7) (k := 1) (idx := 21) (nm := "now") (ds := "LTagReaders$World;") (fn := true) (T := TX9) (v := .ref (E2.2.2.1 (9, 0, 0))) hx hb hown htz hV rfl rfl (by decide) iw_X9 qw_488 hin10 rfl rfl hP dX9_image_31 rfl ?_
    refine z_cV (E := E2) (M := Jf) (M2 := (m_wCopy Jf 1 0)) (id := (9, 1, 0)) (as := [.inr (.inr (9, 0, 0))]) (r := none) (k := 119) (n := 1) (rest := []) (ci := 6) (C := RX8) (T := TX8) (N := 9) hx hb hml hown htz (z_to80 go) qw_1158 qw_124 ⟨by decide +kernel, by decide +kernel, by decide +kernel⟩ (Nat.le_of_ble_eq_true rfl) qw_1155 qw_1156 qw_1157 hE hin91 (by decide) (fun v hv => by rw [List.mem_singleton.mp hv]; exact Or.inr (Or.inr (Or.inr hin9))) rfl rfl ⟨_, rfl⟩ hP hS hAz hV ⟨Nat.le_of_ble_eq_true rfl, Nat.le_of_ble_eq_true rfl⟩ ⟨Nat.le_of_ble_eq_true rfl, Nat.le_of_ble_eq_true rfl⟩ hl.1 (Nat.le_of_ble_eq_true rfl) dX9_image_34 rfl (fun H locs _ hP _ _ hS => ?_)
    refine W.eq (g2 := F0 m 37 ls []) rfl ?_
    have x2 : (m_wCopy Jf 1 0).1 10 0 0 2 = 1 := (on1 10 0 0 2 (by decide)).trans hkp.2.2
    have x3 : (m_wCopy Jf 1 0).1 10 0 0 3 = M.1 10 0 0 3 := (on1 10 0 0 3 (by decide)).trans (hkp.1 10 0 0 3 (by decide) (by decide))
    refine lv_iconst (v := 1) hx hb dX9_image_37 (by decide) ?_
    exact W.zret hx hb hr rfl (fun t ht hW => ⟨⟨1, (E2, m_wCopy Jf 1 0), rfl, ⟨hxt, by show z_wld E2 ((m_wCopy Jf 1 0).1 10 0 0 2) ((m_wCopy Jf 1 0).1 10 0 0 3); rw [x2, x3]; exact hwl, fun q h => by rw [hAe]; exact hAz q h, J3, zto, sb3, j32.trans x2.symm, j33.trans x3.symm⟩, by show va_P E2.1 vwCl (z_ws E2 (m_wCopy Jf 1 0)) t.heap; rw [ht]; exact hP⟩, hS.F ht⟩) hS.2.2 dX9_image_38
  refine lv_aload_n hx hb dX9_image_4 rfl (lv_at hl 0 rfl) ?_
  rcases hk01 with z0 | z1
  · refine z_hget (E := E) (M := M) (id := (10, 0, 0)) (ci := 7) (k := 2) (idx := 227) (nm := "kept") (ds := "LTagReaders$World;") (fn := false) (T := TX9) (v := .null) hx hb hown htz hV rfl rfl (by decide) iw_X9 qw_1279 hin10 rfl (congrArg some (z_ptr0 z0)) hP dX9_image_5 rfl ?_
    refine lv_ifnonnullN hx hb dX9_image_8 ?_
    refine z_mkW1 (p0 := 11) hx hb hml hown htz hE hin10 h10 (w1a z0) z0 hP hAz hS hA hV ⟨Nat.le_of_ble_eq_true rfl, Nat.le_of_ble_eq_true rfl, Nat.le_of_ble_eq_true rfl, Nat.le_of_ble_eq_true rfl⟩ (lv_at hl 0 rfl) hl.1 dX9_image_11 dX9_image_12 dX9_image_15 dX9_image_16 dX9_image_17 dX9_image_20 dX9_image_23 (fun E2 H locs hxt hE2 hid hP hAz hS => ?_)
    refine rest E2 (z_up (z_Mw M 1) 10 0 0 2 1) H locs hxt (wld1 hw0 z0 hE2 hid) ⟨fun a bb cc d e1 e2 => ?_, rfl, ?_⟩ hAz hP hS
    · rw [z_up1, if_neg (by omega)]
      exact if_neg (fun q => e1 q.1)
    · rw [z_up1, if_pos ⟨rfl, rfl, rfl, rfl⟩]
  · have hin91 : (9, 1, 0) ∈ E.2.2.2 := w1b (by rw [z1]; decide)
    refine z_hget (E := E) (M := M) (id := (10, 0, 0)) (ci := 7) (k := 2) (idx := 227) (nm := "kept") (ds := "LTagReaders$World;") (fn := false) (T := TX9) (v := .ref (E.2.2.1 (9, 1, 0))) hx hb hown htz hV rfl rfl (by decide) iw_X9 qw_1279 hin10 rfl (congrArg some (show z_ptr (M.1 10 0 0 2) (E.2.2.1 (9, 1, 0)) = .ref (E.2.2.1 (9, 1, 0)) by rw [z1]; exact z_ptr1)) hP dX9_image_5 rfl ?_
    refine lv_ifnonnull (tgt := 26) hx hb dX9_image_8 (by decide) ?_
    refine W.widen (k := 70) (n := 7120) (by omega) (by omega) ?_
    exact rest E M _ _ ext_rf (by rw [← z1]; exact hw0) ⟨fun _ _ _ _ _ _ => rfl, rfl, z1⟩ hAz hP hS
