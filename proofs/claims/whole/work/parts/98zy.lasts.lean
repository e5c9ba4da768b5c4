/-! lasts of the class -/
theorem dX9_lasts_0 : decode cX9_lasts 0 = .ok (.aload_n 0, 1) := by decide +kernel
theorem dX9_lasts_1 : decode cX9_lasts 1 = .ok (.getfield 21, 3) := by decide +kernel
theorem dX9_lasts_4 : decode cX9_lasts 4 = .ok (.iload_n 1, 1) := by decide +kernel
theorem dX9_lasts_5 : decode cX9_lasts 5 = .ok (.invokevirtual 33, 3) := by decide +kernel
theorem dX9_lasts_8 : decode cX9_lasts 8 = .ok (.astore_n 2, 1) := by decide +kernel
theorem dX9_lasts_9 : decode cX9_lasts 9 = .ok (.aload_n 2, 1) := by decide +kernel
theorem dX9_lasts_10 : decode cX9_lasts 10 = .ok (.ifnull 10, 3) := by decide +kernel
theorem dX9_lasts_13 : decode cX9_lasts 13 = .ok (.aload_n 2, 1) := by decide +kernel
theorem dX9_lasts_14 : decode cX9_lasts 14 = .ok (.getfield 166, 3) := by decide +kernel
theorem dX9_lasts_17 : decode cX9_lasts 17 = .ok (.ifCond .ne 13, 3) := by decide +kernel
theorem dX9_lasts_20 : decode cX9_lasts 20 = .ok (.aload_n 2, 1) := by decide +kernel
theorem dX9_lasts_21 : decode cX9_lasts 21 = .ok (.ifnonnull 7, 3) := by decide +kernel
theorem dX9_lasts_24 : decode cX9_lasts 24 = .ok (.iconst (-1), 1) := by decide +kernel
theorem dX9_lasts_25 : decode cX9_lasts 25 = .ok (.goto 4, 3) := by decide +kernel
theorem dX9_lasts_28 : decode cX9_lasts 28 = .ok (.iconst 0, 1) := by decide +kernel
theorem dX9_lasts_29 : decode cX9_lasts 29 = .ok (.ireturn, 1) := by decide +kernel
theorem dX9_lasts_30 : decode cX9_lasts 30 = .ok (.aload_n 0, 1) := by decide +kernel
theorem dX9_lasts_31 : decode cX9_lasts 31 = .ok (.getfield 170, 3) := by decide +kernel
theorem dX9_lasts_34 : decode cX9_lasts 34 = .ok (.ifnonnull 18, 3) := by decide +kernel
theorem dX9_lasts_37 : decode cX9_lasts 37 = .ok (.aload_n 0, 1) := by decide +kernel
theorem dX9_lasts_38 : decode cX9_lasts 38 = .ok (.new 16, 3) := by decide +kernel
theorem dX9_lasts_41 : decode cX9_lasts 41 = .ok (.dup, 1) := by decide +kernel
theorem dX9_lasts_42 : decode cX9_lasts 42 = .ok (.aload_n 0, 1) := by decide +kernel
theorem dX9_lasts_43 : decode cX9_lasts 43 = .ok (.getfield 10, 3) := by decide +kernel
theorem dX9_lasts_46 : decode cX9_lasts 46 = .ok (.invokespecial 18, 3) := by decide +kernel
theorem dX9_lasts_49 : decode cX9_lasts 49 = .ok (.putfield 170, 3) := by decide +kernel
theorem dX9_lasts_52 : decode cX9_lasts 52 = .ok (.aload_n 0, 1) := by decide +kernel
theorem dX9_lasts_53 : decode cX9_lasts 53 = .ok (.getfield 170, 3) := by decide +kernel
theorem dX9_lasts_56 : decode cX9_lasts 56 = .ok (.aload_n 0, 1) := by decide +kernel
theorem dX9_lasts_57 : decode cX9_lasts 57 = .ok (.getfield 21, 3) := by decide +kernel
theorem dX9_lasts_60 : decode cX9_lasts 60 = .ok (.invokevirtual 173, 3) := by decide +kernel
theorem dX9_lasts_63 : decode cX9_lasts 63 = .ok (.iconst 1, 1) := by decide +kernel
theorem dX9_lasts_64 : decode cX9_lasts 64 = .ok (.iload_n 1, 1) := by decide +kernel
theorem dX9_lasts_65 : decode cX9_lasts 65 = .ok (.ishl, 1) := by decide +kernel
theorem dX9_lasts_66 : decode cX9_lasts 66 = .ok (.istore_n 3, 1) := by decide +kernel
theorem dX9_lasts_67 : decode cX9_lasts 67 = .ok (.iconst 1, 1) := by decide +kernel
theorem dX9_lasts_68 : decode cX9_lasts 68 = .ok (.istore 4, 2) := by decide +kernel
theorem dX9_lasts_70 : decode cX9_lasts 70 = .ok (.iload 4, 2) := by decide +kernel
theorem dX9_lasts_72 : decode cX9_lasts 72 = .ok (.sipush 500, 3) := by decide +kernel
theorem dX9_lasts_75 : decode cX9_lasts 75 = .ok (.if_icmp .gt 31, 3) := by decide +kernel
theorem dX9_lasts_78 : decode cX9_lasts 78 = .ok (.aload_n 0, 1) := by decide +kernel
theorem dX9_lasts_79 : decode cX9_lasts 79 = .ok (.getfield 170, 3) := by decide +kernel
theorem dX9_lasts_82 : decode cX9_lasts 82 = .ok (.invokevirtual 83, 3) := by decide +kernel
theorem dX9_lasts_85 : decode cX9_lasts 85 = .ok (.aload_n 0, 1) := by decide +kernel
theorem dX9_lasts_86 : decode cX9_lasts 86 = .ok (.getfield 170, 3) := by decide +kernel
theorem dX9_lasts_89 : decode cX9_lasts 89 = .ok (.invokevirtual 123, 3) := by decide +kernel
theorem dX9_lasts_92 : decode cX9_lasts 92 = .ok (.iload_n 3, 1) := by decide +kernel
theorem dX9_lasts_93 : decode cX9_lasts 93 = .ok (.iand, 1) := by decide +kernel
theorem dX9_lasts_94 : decode cX9_lasts 94 = .ok (.ifCond .ne 6, 3) := by decide +kernel
theorem dX9_lasts_97 : decode cX9_lasts 97 = .ok (.iload 4, 2) := by decide +kernel
theorem dX9_lasts_99 : decode cX9_lasts 99 = .ok (.ireturn, 1) := by decide +kernel
theorem dX9_lasts_100 : decode cX9_lasts 100 = .ok (.iinc 4 1, 3) := by decide +kernel
theorem dX9_lasts_103 : decode cX9_lasts 103 = .ok (.goto (-33), 3) := by decide +kernel
theorem dX9_lasts_106 : decode cX9_lasts 106 = .ok (.iconst (-1), 1) := by decide +kernel
theorem dX9_lasts_107 : decode cX9_lasts 107 = .ok (.ireturn, 1) := by decide +kernel
set_option maxHeartbeats 1000000 in
set_option maxRecDepth 100000 in
theorem c_X9_lasts (l : Launch) (E : zE) (M : zMem) (b : Nat) (r : Int32) (sz : Nat) (hSB : SB M b) (hbb : b < 2147000000) (hw : z_wld E (M.1 10 0 0 2) (M.1 10 0 0 3)) : Met l yX9_lasts (Cond.code yX9_lasts cX9_lasts 5 (some .int) :: zw) ({ frames := 205, cells := 70, slots := 7120, locals := 13400 }) (va_Pc [.ref (E.2.2.1 (10, 0, 0)), .int r] (z_9pre E M sz)) (va_Qi (z_9post 240 E b sz r) z_9B (z_9A E sz)) 70 7120 (z_9A E sz) := by
  have hw0 := hw
  refine Met.ofW (cc := cX9_lasts) (maxL := 5) (ret := some .int) (by decide) rfl ?_
  intro p e s m args below meth c s₁ B hml hv
  obtain ⟨rfl, hsz, hP, hV⟩ := hv
  have hx := B.exec
  have hb := B.bytes
  have hr := B.returns
  have hts := atoms_spec (ws := Cond.code yX9_lasts cX9_lasts 5 (some .int) :: zw) B.pre
  have htz := gz_tail hts
  have hown : s.vm.findClass RX9 = some m.cls := findClass_of_methodNamed B.named
  have hlocks := B.notSynchronized
  subst hsz
  obtain ⟨hE, hin10, hin11, h10, w1a, w1b, w2a, w2b⟩ := hw
  obtain ⟨hin1, hin9⟩ := w10_9 hE hin10
  have hAz0 : ∀ q, z_A E q → z_9A E s.heap.size q := fun q h => .inl h
  generalize hAe : z_9A E s.heap.size = A at hV hAz0 ⊢
  have hA : ∀ q : Nat, s.heap.size ≤ q → A q := fun q h => by rw [← hAe]; exact Or.inr h
  have hAz : ∀ q, z_A E q → A q := hAz0
  have hS : va_S A s.heap s.heap [] := va_S.rf
  have hl := lv_entry ([.ref (E.2.2.1 (10, 0, 0)), .int r]) (n := 5) (Nat.le_of_ble_eq_true rfl)
  rw [lg_entry_eq]
  generalize (lg_sl ([.ref (E.2.2.1 (10, 0, 0)), .int r]) ++ List.replicate (5 - (lg_sl ([.ref (E.2.2.1 (10, 0, 0)), .int r])).length) Slot.unset).toArray = ls at hl ⊢
  have hl : lv_has ls 5 [(0, .ref (E.2.2.1 (10, 0, 0))), (1, .int r)] := hl
  refine lv_aload_n hx hb dX9_lasts_0 rfl (lv_at hl 0 rfl) ?_
  refine z_hget (E := E) (M := M) (id := (10, 0, 0)) (ci := 7) (k := 1) (idx := 21) (nm := "now") (ds := "LTagReaders$World;") (fn := true) (T := TX9) (v := .ref (E.2.2.1 (9, 0, 0))) hx hb hown htz hV rfl rfl (by decide) iw_X9 qw_488 hin10 rfl rfl hP dX9_lasts_1 rfl ?_
  refine lv_iload_n hx hb dX9_lasts_4 rfl (lv_at hl 1 rfl) ?_
  by_cases hr4 : r < 0 ∨ r ≥ 4
  · refine z_cV (E := E) (M := M) (M2 := M) (id := (9, 0, 0)) (as := [.inl r]) (r := some (.inr (.inr (0, 0, 0)))) (k := 92) (n := 1) (rest := []) (ci := 6) (C := RX8) (T := TX8) (N := 9) hx hb hml hown htz (fun h K hK => s_readerAt (h := h + 199) (by unfold r_readerAt; rw [if_pos hr4]; exact hK)) qw_123 qw_124 ⟨by decide +kernel, by decide +kernel, by decide +kernel⟩ (Nat.le_of_ble_eq_true rfl) qw_494 qw_126 qw_127 hE hin9 (by decide) (fun v hv => by rw [List.mem_singleton.mp hv]; trivial) rfl rfl ⟨_, rfl⟩ hP hS hAz hV ⟨Nat.le_of_ble_eq_true rfl, Nat.le_of_ble_eq_true rfl⟩ ⟨Nat.le_of_ble_eq_true rfl, Nat.le_of_ble_eq_true rfl⟩ hl.1 (Nat.le_of_ble_eq_true rfl) dX9_lasts_5 rfl (fun H locs _ hP _ _ hS => ?_)
    refine W.eq (g2 := F0 m 8 ls [.null]) rfl ?_
    refine lv_astore_nN (lv' := [(2, .null), (0, .ref (E.2.2.1 (10, 0, 0))), (1, .int r)]) hx hb dX9_lasts_8 rfl hl (by decide) rfl (fun ls hl => ?_)
    refine lv_aload_nN hx hb dX9_lasts_9 rfl (lv_at hl 0 rfl) ?_
    refine lv_ifnullN (tgt := 20) hx hb dX9_lasts_10 (by decide) ?_
    refine lv_aload_nN hx hb dX9_lasts_20 rfl (lv_at hl 0 rfl) ?_
    refine lv_ifnonnullN hx hb dX9_lasts_21 ?_
    refine lv_iconst (v := -1) hx hb dX9_lasts_24 (by decide) ?_
    refine lv_goto (tgt := 29) hx hb dX9_lasts_25 (by decide) ?_
    refine W.widen (k := 70) (n := 7120) (by omega) (by omega) ?_
    exact W.iret hx hb hr (fun t ht hW => ⟨⟨-1, (E, M), rfl, ⟨ext_rf, hw0, fun q h => .inl h, M, fun h K hK => s_mLasts0 (h := h + 197) (Classical.byContradiction (fun z => (isIn_rd.mp z) hr4)) hK, SB_M hSB (by omega), rfl, rfl⟩, by show va_P E.1 vwCl (z_ws E M) t.heap; rw [ht]; exact hP⟩, hS.F ht⟩) hS.2.2 dX9_lasts_29
  obtain ⟨j, hj, rfl, hjn, hji⟩ := rd_of hr4
  obtain ⟨T, c0, hT, hc0, hs⟩ := hSB.1
  have h9j := hs.2.2.2.2.2.2.2.2 j hj
  have htk : M.1 4 0 j 1 = M.1 24 0 0 (278 + j) := h9j.1.1 1 (by omega)
  have htk2 := h9j.2.1.2.1
  have hin4 : (4, 0, j) ∈ E.2.2.2 := hE.2.1 _ (hE.2.1 _ hin9 (31, 0, 0) (List.mem_cons_of_mem _ (List.mem_cons_of_mem _ List.mem_cons_self))) _ (List.mem_map.mpr ⟨j, List.mem_range.mpr hj, rfl⟩)
  refine z_cV (E := E) (M := M) (M2 := M) (id := (9, 0, 0)) (as := [.inl (nI j)]) (r := some (.inr (.inr (4, 0, j)))) (k := 92) (n := 1) (rest := []) (ci := 6) (C := RX8) (T := TX8) (N := 9) hx hb hml hown htz (fun h K hK => s_readerAt (h := h + 199) (by unfold r_readerAt; rw [if_neg hr4, hjn]; exact hK)) qw_123 qw_124 ⟨by decide +kernel, by decide +kernel, by decide +kernel⟩ (Nat.le_of_ble_eq_true rfl) qw_494 qw_126 qw_127 hE hin9 (by decide) (fun v hv => by rw [List.mem_singleton.mp hv]; trivial) rfl rfl ⟨_, rfl⟩ hP hS hAz hV ⟨Nat.le_of_ble_eq_true rfl, Nat.le_of_ble_eq_true rfl⟩ ⟨Nat.le_of_ble_eq_true rfl, Nat.le_of_ble_eq_true rfl⟩ hl.1 (Nat.le_of_ble_eq_true rfl) dX9_lasts_5 rfl (fun H locs _ hP _ _ hS => ?_)
  refine W.eq (g2 := F0 m 8 ls [.ref (E.2.2.1 (4, 0, j))]) rfl ?_
  refine lv_astore_n (lv' := [(2, .ref (E.2.2.1 (4, 0, j))), (0, .ref (E.2.2.1 (10, 0, 0))), (1, .int (nI j))]) hx hb dX9_lasts_8 rfl hl (by decide) rfl (fun ls hl => ?_)
  refine lv_aload_n hx hb dX9_lasts_9 rfl (lv_at hl 0 rfl) ?_
  refine lv_ifnull hx hb dX9_lasts_10 ?_
  refine lv_aload_n hx hb dX9_lasts_13 rfl (lv_at hl 0 rfl) ?_
  refine z_hget (E := E) (M := M) (id := (4, 0, j)) (ci := 3) (k := 1) (idx := 166) (nm := "taking") (ds := "Z") (fn := false) (T := TX3) (v := .int (M.1 4 0 j 1)) hx hb hown htz hV rfl rfl (by decide) iw_X3 qw_1153 hin4 rfl rfl hP dX9_lasts_14 rfl ?_
  rcases htk2 with t0 | t1
  · refine lv_if_ne (tgt := 30) hx hb dX9_lasts_17 (by decide) (fun z => absurd (htk.trans t0) z) (fun _ => ?_)
    refine lv_aload_n hx hb dX9_lasts_20 rfl (lv_at hl 0 rfl) ?_
    refine lv_ifnonnull (tgt := 28) hx hb dX9_lasts_21 (by decide) ?_
    refine lv_iconst (v := 0) hx hb dX9_lasts_28 (by decide) ?_
    refine W.widen (k := 70) (n := 7120) (by omega) (by omega) ?_
    exact W.iret hx hb hr (fun t ht hW => ⟨⟨0, (E, M), rfl, ⟨ext_rf, hw0, fun q h => .inl h, M, fun h K hK => s_mLasts1 (h := h + 197) hj t0 hK, SB_M hSB (by omega), rfl, rfl⟩, by show va_P E.1 vwCl (z_ws E M) t.heap; rw [ht]; exact hP⟩, hS.F ht⟩) hS.2.2 dX9_lasts_29
  have htk1 : M.1 4 0 j 1 = 1 := htk.trans t1
  refine lv_if_ne (tgt := 30) hx hb dX9_lasts_17 (by decide) (fun _ => ?_) (fun z => absurd (htk1.symm.trans z) (by decide))
  have hl : lv_has ls 5 [(0, .ref (E.2.2.1 (10, 0, 0))), (1, .int (nI j))] := lv_sub hl [1, 2] rfl
  have rest : ∀ (E2 : zE) (Jf : zMem) (H : Heap) (locs : List Loc), z_ext E E2 → z_wld E2 (M.1 10 0 0 2) 1 → is_th M Jf → (∀ q, z_A E2 q → A q) → va_P E2.1 vwCl (z_ws E2 Jf) H → va_S A s.heap H locs → W p l e (headSpec (Cond.code yX9_lasts cX9_lasts 5 (some .int) :: zw) { frames := 205, cells := 70, slots := 7120, locals := 13400 }).room s m #[Value.ref (E.2.2.1 (10, 0, 0)), Value.int (nI j)] below meth c H locs 70 7120 (MQ below (va_Qi (z_9post 240 E b s.heap.size (nI j)) z_9B A) #[Value.ref (E.2.2.1 (10, 0, 0)), Value.int (nI j)] s 70 7120 A) (F0 m 52 ls []) := by
    intro E2 Jf H locs hxt hwl hth hAz hP hS
    obtain ⟨hE, hin10, hin11, h10, v1a, v1b, v2a, v2b⟩ := id hwl
    obtain ⟨hin1, hin9⟩ := w10_9 hE hin10
    have hin92 : (9, 2, 0) ∈ E2.2.2.2 := v2b (by decide)
    have hV := z_eA_E hV hxt.1 hxt.2.1 hxt.2.2.1
    have hx10 := hxt.2.2.2.1
    rw [← hx10] at hl
    obtain ⟨N, v, J3, n1, n2, ps, n3, n4, zto, sb3, on2, l2, j33, j32, p3⟩ := lasts_two hSB hbb hj t1 hth
    have hsf : SimZ z_F z_F Jf 0 M T c0 b := Sim_W hs (W_eqA (fun a cc d e => hth.1 a 0 cc d (by omega) (by omega))) (fun _ => rfl) (Nat.le_refl _)
    have go := wc_go hsf (w := 2) (by decide)
    have pf2 : ∀ (X : zMem), X.1 10 0 0 3 = 1 → z_ptr (X.1 10 0 0 3) (E2.2.2.1 (9, 2, 0)) = .ref (E2.2.2.1 (9, 2, 0)) := fun X h => by rw [h]; exact z_ptr1
    have x2 : (m_pw 2 N (m_wCopy Jf 2 0)).1 10 0 0 2 = M.1 10 0 0 2 := (on2 10 0 0 2 (by decide)).trans (hth.1 10 0 0 2 (by decide) (by decide))
    refine lv_aload_n hx hb dX9_lasts_52 rfl (lv_at hl 0 rfl) ?_
    refine z_hget (E := E2) (M := Jf) (id := (10, 0, 0)) (ci := 7) (k := 3) (idx := 170) (nm := "thought") (ds := "LTagReaders$World;") (fn := false) (T := TX9) (v := .ref (E2.2.2.1 (9, 2, 0))) hx hb hown htz hV rfl rfl (by decide) iw_X9 qw_1154 hin10 rfl (congrArg some (pf2 Jf hth.2.2)) hP dX9_lasts_53 rfl ?_
    refine lv_aload_n hx hb dX9_lasts_56 rfl (lv_at hl 0 rfl) ?_
    refine z_hget (E := E2) (M := Jf) (id := (10, 0, 0)) (ci := 7) (k := 1) (idx := 21) (nm := "now") (ds := "LTagReaders$World;") (fn := true) (T := TX9) (v := .ref (E2.2.2.1 (9, 0, 0))) hx hb hown htz hV rfl rfl (by decide) iw_X9 qw_488 hin10 rfl rfl hP dX9_lasts_57 rfl ?_
    refine z_cV (E := E2) (M := Jf) (M2 := (m_wCopy Jf 2 0)) (id := (9, 2, 0)) (as := [.inr (.inr (9, 0, 0))]) (r := none) (k := 119) (n := 1) (rest := []) (ci := 6) (C := RX8) (T := TX8) (N := 9) hx hb hml hown htz (z_to80 go) qw_1158 qw_124 ⟨by decide +kernel, by decide +kernel, by decide +kernel⟩ (Nat.le_of_ble_eq_true rfl) qw_1155 qw_1156 qw_1157 hE hin92 (by decide) (fun v hv => by rw [List.mem_singleton.mp hv]; exact Or.inr (Or.inr (Or.inr hin9))) rfl rfl ⟨_, rfl⟩ hP hS hAz hV ⟨Nat.le_of_ble_eq_true rfl, Nat.le_of_ble_eq_true rfl⟩ ⟨Nat.le_of_ble_eq_true rfl, Nat.le_of_ble_eq_true rfl⟩ hl.1 (Nat.le_of_ble_eq_true rfl) dX9_lasts_60 rfl (fun H locs _ hP _ _ hS => ?_)
    refine W.eq (g2 := F0 m 63 ls []) rfl ?_
    generalize m_wCopy Jf 2 0 = J1 at *
    refine lv_iconst (v := 1) hx hb dX9_lasts_63 (by decide) ?_
    refine lv_iload_n hx hb dX9_lasts_64 rfl (lv_at hl 1 rfl) ?_
    refine lv_ishl hx hb dX9_lasts_65 ?_
    refine lv_istore_n (lv' := [(3, .int (1 <<< (nI j &&& 31))), (0, .ref (E2.2.2.1 (10, 0, 0))), (1, .int (nI j))]) hx hb dX9_lasts_66 rfl hl (by decide) rfl (fun ls hl => ?_)
    refine lv_iconst (v := 1) hx hb dX9_lasts_67 (by decide) ?_
    refine lv_istore (lv' := [(4, .int (nI (0 + 1))), (3, .int (1 <<< (nI j &&& 31))), (0, .ref (E2.2.2.1 (10, 0, 0))), (1, .int (nI j))]) hx hb dX9_lasts_68 hl (by decide) rfl (fun ls hl => ?_)
    have x3 : (m_pw 2 N J1).1 10 0 0 3 = 1 := p3 N (Nat.le_refl _)
    have hfin : ∀ (H : Heap) (locs : List Loc) (ls : Array Slot), va_P E2.1 vwCl (z_ws E2 (m_pw 2 N J1)) H → va_S A s.heap H locs → ∀ pc, decode cX9_lasts pc = .ok (.ireturn, 1) → W p l e (headSpec (Cond.code yX9_lasts cX9_lasts 5 (some .int) :: zw) { frames := 205, cells := 70, slots := 7120, locals := 13400 }).room s m #[Value.ref (E.2.2.1 (10, 0, 0)), Value.int (nI j)] below meth c H locs 70 7120 (MQ below (va_Qi (z_9post 240 E b s.heap.size (nI j)) z_9B A) #[Value.ref (E.2.2.1 (10, 0, 0)), Value.int (nI j)] s 70 7120 A) (F0 m pc ls [.int v]) := by
      intro H locs ls hP hS pc hd
      exact W.iret hx hb hr (fun t ht hW => ⟨⟨v, (E2, m_pw 2 N J1), rfl, ⟨hxt, by show z_wld E2 ((m_pw 2 N J1).1 10 0 0 2) ((m_pw 2 N J1).1 10 0 0 3); rw [x2, x3]; exact hwl, fun q h => by rw [hAe]; exact hAz q h, J3, zto, sb3, j32.trans x2.symm, j33.trans x3.symm⟩, by show va_P E2.1 vwCl (z_ws E2 (m_pw 2 N J1)) t.heap; rw [ht]; exact hP⟩, hS.F ht⟩) hS.2.2 hd
    have loop : ∀ d i, i + d = N → 1 ≤ d → ∀ (H : Heap) (locs : List Loc) (ls : Array Slot), lv_has ls 5 [(4, .int (nI (i + 1))), (3, .int (1 <<< (nI j &&& 31))), (0, .ref (E2.2.2.1 (10, 0, 0))), (1, .int (nI j))] → va_P E2.1 vwCl (z_ws E2 (m_pw 2 i J1)) H → va_S A s.heap H locs → W p l e (headSpec (Cond.code yX9_lasts cX9_lasts 5 (some .int) :: zw) { frames := 205, cells := 70, slots := 7120, locals := 13400 }).room s m #[Value.ref (E.2.2.1 (10, 0, 0)), Value.int (nI j)] below meth c H locs 70 7120 (MQ below (va_Qi (z_9post 240 E b s.heap.size (nI j)) z_9B A) #[Value.ref (E.2.2.1 (10, 0, 0)), Value.int (nI j)] s 70 7120 A) (F0 m 70 ls []) := by
      intro d
      induction d with
      | zero => exact fun i _ h1 => absurd h1 (by omega)
      | succ d ih =>
        intro i hi _ H locs ls hl hP hS
        have hiN : i < N := by omega
        have ps1 := ps i hiN
        have p30 := p3 i (by omega)
        have p31 := p3 (i + 1) (by omega)
        have hbit : (r_readersTaking (m_pw 2 (i + 1) J1) 2 &&& ((1 : Int32) <<< (nI j &&& 31))) = 0 ↔ (m_pw 2 (i + 1) J1).1 4 2 j 1 = 0 := by
          unfold r_readersTaking
          rw [rt_bit hj, decide_eq_false_iff_not, Classical.not_not]
        have ihh := fun (hd : 1 ≤ d) => ih (i + 1) (by omega) hd
        have hN1 : i + 1 = N → m_pw 2 (i + 1) J1 = m_pw 2 N J1 := fun h => by rw [h]
        have n31 : i + 1 < N → ¬ (m_pw 2 (i + 1) J1).1 4 2 j 1 = 0 := fun h => n3 (i + 1) (by omega) h
        generalize m_pw 2 (i + 1) J1 = M1 at ps1 p31 hbit ihh hN1 n31
        generalize m_pw 2 i J1 = M0 at ps1 p30 hP
        refine lv_iload hx hb dX9_lasts_70 (lv_at hl 0 rfl) ?_
        refine lv_sipush (v := 500) hx hb dX9_lasts_72 (by decide) ?_
        refine lv_icmp_gt (tgt := 106) hx hb dX9_lasts_75 (by decide) (fun z => absurd z (Int32.not_lt.mpr (show nI (i + 1) ≤ nI 500 from (nI_leI (by omega) (by decide)).mpr (by omega)))) (fun _ => ?_)
        refine lv_aload_n hx hb dX9_lasts_78 rfl (lv_at hl 2 rfl) ?_
        refine z_hget (E := E2) (M := M0) (id := (10, 0, 0)) (ci := 7) (k := 3) (idx := 170) (nm := "thought") (ds := "LTagReaders$World;") (fn := false) (T := TX9) (v := .ref (E2.2.2.1 (9, 2, 0))) hx hb hown htz hV rfl rfl (by decide) iw_X9 qw_1154 hin10 rfl (congrArg some (pf2 M0 p30)) hP dX9_lasts_79 rfl ?_
        refine z_cV (E := E2) (M := M0) (M2 := M1) (id := (9, 2, 0)) (as := []) (r := none) (k := 105) (n := 0) (rest := []) (ci := 6) (C := RX8) (T := TX8) (N := 9) hx hb hml hown htz (z_to80 ps1) qw_529 qw_124 ⟨by decide +kernel, by decide +kernel, by decide +kernel⟩ (Nat.le_of_ble_eq_true rfl) qw_530 qw_531 qw_532 hE hin92 (by decide) (fun v hv => absurd hv List.not_mem_nil) rfl rfl ⟨_, rfl⟩ hP hS hAz hV ⟨Nat.le_of_ble_eq_true rfl, Nat.le_of_ble_eq_true rfl⟩ ⟨Nat.le_of_ble_eq_true rfl, Nat.le_of_ble_eq_true rfl⟩ hl.1 (Nat.le_of_ble_eq_true rfl) dX9_lasts_82 rfl (fun H locs _ hP _ _ hS => ?_)
        refine W.eq (g2 := F0 m 85 ls []) rfl ?_
        refine lv_aload_n hx hb dX9_lasts_85 rfl (lv_at hl 2 rfl) ?_
        refine z_hget (E := E2) (M := M1) (id := (10, 0, 0)) (ci := 7) (k := 3) (idx := 170) (nm := "thought") (ds := "LTagReaders$World;") (fn := false) (T := TX9) (v := .ref (E2.2.2.1 (9, 2, 0))) hx hb hown htz hV rfl rfl (by decide) iw_X9 qw_1154 hin10 rfl (congrArg some (pf2 M1 p31)) hP dX9_lasts_86 rfl ?_
        refine z_cV (E := E2) (M := M1) (M2 := M1) (id := (9, 2, 0)) (as := []) (r := some (.inl (r_readersTaking M1 2))) (k := 116) (n := 0) (rest := []) (ci := 6) (C := RX8) (T := TX8) (N := 9) hx hb hml hown htz (fun h K hK => s_readersTaking (h := h + 199) hK) qw_432 qw_124 ⟨by decide +kernel, by decide +kernel, by decide +kernel⟩ (Nat.le_of_ble_eq_true rfl) qw_553 qw_434 qw_435 hE hin92 (by decide) (fun v hv => absurd hv List.not_mem_nil) rfl rfl ⟨_, rfl⟩ hP hS hAz hV ⟨Nat.le_of_ble_eq_true rfl, Nat.le_of_ble_eq_true rfl⟩ ⟨Nat.le_of_ble_eq_true rfl, Nat.le_of_ble_eq_true rfl⟩ hl.1 (Nat.le_of_ble_eq_true rfl) dX9_lasts_89 rfl (fun H locs _ hP _ _ hS => ?_)
        refine W.eq (g2 := F0 m 92 ls [.int (r_readersTaking M1 2)]) rfl ?_
        refine lv_iload_n hx hb dX9_lasts_92 rfl (lv_at hl 1 rfl) ?_
        refine lv_iand hx hb dX9_lasts_93 ?_
        refine lv_if_ne (tgt := 100) hx hb dX9_lasts_94 (by decide) (fun z => ?_) (fun z => ?_)
        · have z1 := fun y => z (hbit.mpr y)
          refine lv_iinc (v := nI (i + 1 + 1)) (lv' := [(4, .int (nI (i + 1 + 1))), (3, .int (1 <<< (nI j &&& 31))), (0, .ref (E2.2.2.1 (10, 0, 0))), (1, .int (nI j))]) hx hb dX9_lasts_100 hl (k := 0) rfl (by rw [← nI_1 (i + 1)]; rfl) (by decide) rfl (fun ls hl => ?_)
          refine lv_goto (tgt := 70) hx hb dX9_lasts_103 (by decide) ?_
          by_cases hd : 1 ≤ d
          · exact ihh hd H locs ls hl hP hS
          · have eN : i + 1 = N := by omega
            rw [hN1 eN] at z1 hP
            rw [eN] at hl
            obtain ⟨y1, -, y3⟩ := n4.resolve_left (fun y => z1 y.1)
            rw [y1] at hl
            refine lv_iload hx hb dX9_lasts_70 (lv_at hl 0 rfl) ?_
            refine lv_sipush (v := 500) hx hb dX9_lasts_72 (by decide) ?_
            refine lv_icmp_gt (tgt := 106) hx hb dX9_lasts_75 (by decide) (fun _ => ?_) (fun q => absurd (show (500 : Int32) < nI (500 + 1) by decide) q)
            refine lv_iconst (v := -1) hx hb dX9_lasts_106 (by decide) ?_
            rw [← y3]
            exact hfin H locs ls hP hS _ dX9_lasts_107
        · have z1 := hbit.mp z
          have eN : i + 1 = N := Classical.byContradiction (fun y => n31 (by omega) z1)
          refine lv_iload hx hb dX9_lasts_97 (lv_at hl 0 rfl) ?_
          rw [hN1 eN] at z1 hP
          rw [eN]
          have ev : v = nI N := by
            rcases n4 with y | y
            · exact y.2
            · exact absurd z1 y.2.1
          rw [← ev]
          exact hfin H locs ls hP hS _ dX9_lasts_99
    exact loop N 0 (by omega) n1 H locs ls hl hP hS
  refine lv_aload_n hx hb dX9_lasts_30 rfl (lv_at hl 0 rfl) ?_
  rcases hSB.2.2.2.2 with z0 | z1
  · refine z_hget (E := E) (M := M) (id := (10, 0, 0)) (ci := 7) (k := 3) (idx := 170) (nm := "thought") (ds := "LTagReaders$World;") (fn := false) (T := TX9) (v := .null) hx hb hown htz hV rfl rfl (by decide) iw_X9 qw_1154 hin10 rfl (congrArg some (z_ptr0 z0)) hP dX9_lasts_31 rfl ?_
    refine lv_ifnonnullN hx hb dX9_lasts_34 ?_
    refine z_mkW2 (p0 := 37) hx hb hml hown htz hE hin10 h10 (w2a z0) z0 hP hAz hS hA hV ⟨Nat.le_of_ble_eq_true rfl, Nat.le_of_ble_eq_true rfl, Nat.le_of_ble_eq_true rfl, Nat.le_of_ble_eq_true rfl⟩ (lv_at hl 0 rfl) hl.1 dX9_lasts_37 dX9_lasts_38 dX9_lasts_41 dX9_lasts_42 dX9_lasts_43 dX9_lasts_46 dX9_lasts_49 (fun E2 H locs hxt hE2 hid hP hAz hS => ?_)
    refine rest E2 (z_up (z_Mw M 2) 10 0 0 3 1) H locs hxt (wld2 hw0 z0 hE2 hid) ⟨fun a bb cc d e1 e2 => ?_, rfl, ?_⟩ hAz hP hS
    · rw [z_up1, if_neg (by omega)]
      exact if_neg (fun q => e1 q.1)
    · rw [z_up1, if_pos ⟨rfl, rfl, rfl, rfl⟩]
  · have hin92 : (9, 2, 0) ∈ E.2.2.2 := w2b (by rw [z1]; decide)
    refine z_hget (E := E) (M := M) (id := (10, 0, 0)) (ci := 7) (k := 3) (idx := 170) (nm := "thought") (ds := "LTagReaders$World;") (fn := false) (T := TX9) (v := .ref (E.2.2.1 (9, 2, 0))) hx hb hown htz hV rfl rfl (by decide) iw_X9 qw_1154 hin10 rfl (congrArg some (show z_ptr (M.1 10 0 0 3) (E.2.2.1 (9, 2, 0)) = .ref (E.2.2.1 (9, 2, 0)) by rw [z1]; exact z_ptr1)) hP dX9_lasts_31 rfl ?_
    refine lv_ifnonnull (tgt := 52) hx hb dX9_lasts_34 (by decide) ?_
    refine W.widen (k := 70) (n := 7120) (by omega) (by omega) ?_
    exact rest E M H locs ext_rf (by rw [← z1]; exact hw0) ⟨fun _ _ _ _ _ _ => rfl, rfl, z1⟩ hAz hP hS
