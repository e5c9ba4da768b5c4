/-! constructor: Chances -/
theorem dX0_init_0 : decode cX0_init 0 = .ok (.aload_n 0, 1) := by decide +kernel
theorem dX0_init_1 : decode cX0_init 1 = .ok (.invokespecial 5, 3) := by decide +kernel
theorem dX0_init_4 : decode cX0_init 4 = .ok (.aload_n 0, 1) := by decide +kernel
theorem dX0_init_5 : decode cX0_init 5 = .ok (.sipush 221, 3) := by decide +kernel
theorem dX0_init_8 : decode cX0_init 8 = .ok (.newarray .long, 2) := by decide +kernel
theorem dX0_init_10 : decode cX0_init 10 = .ok (.putfield 11, 3) := by decide +kernel
theorem dX0_init_13 : decode cX0_init 13 = .ok (.aload_n 0, 1) := by decide +kernel
theorem dX0_init_14 : decode cX0_init 14 = .ok (.sipush 221, 3) := by decide +kernel
theorem dX0_init_17 : decode cX0_init 17 = .ok (.newarray .long, 2) := by decide +kernel
theorem dX0_init_19 : decode cX0_init 19 = .ok (.putfield 15, 3) := by decide +kernel
theorem dX0_init_22 : decode cX0_init 22 = .ok (.aload_n 0, 1) := by decide +kernel
theorem dX0_init_23 : decode cX0_init 23 = .ok (.bipush 13, 2) := by decide +kernel
theorem dX0_init_25 : decode cX0_init 25 = .ok (.newarray .int, 2) := by decide +kernel
theorem dX0_init_27 : decode cX0_init 27 = .ok (.putfield 18, 3) := by decide +kernel
theorem dX0_init_30 : decode cX0_init 30 = .ok (.aload_n 0, 1) := by decide +kernel
theorem dX0_init_31 : decode cX0_init 31 = .ok (.getfield 11, 3) := by decide +kernel
theorem dX0_init_34 : decode cX0_init 34 = .ok (.iconst 0, 1) := by decide +kernel
theorem dX0_init_35 : decode cX0_init 35 = .ok (.invokestatic 22, 3) := by decide +kernel
theorem dX0_init_38 : decode cX0_init 38 = .ok (.aload_n 0, 1) := by decide +kernel
theorem dX0_init_39 : decode cX0_init 39 = .ok (.getfield 15, 3) := by decide +kernel
theorem dX0_init_42 : decode cX0_init 42 = .ok (.iconst 2, 1) := by decide +kernel
theorem dX0_init_43 : decode cX0_init 43 = .ok (.invokestatic 22, 3) := by decide +kernel
theorem dX0_init_46 : decode cX0_init 46 = .ok (.iconst 1, 1) := by decide +kernel
theorem dX0_init_47 : decode cX0_init 47 = .ok (.istore_n 1, 1) := by decide +kernel
theorem dX0_init_48 : decode cX0_init 48 = .ok (.iload_n 1, 1) := by decide +kernel
theorem dX0_init_49 : decode cX0_init 49 = .ok (.bipush 12, 2) := by decide +kernel
theorem dX0_init_51 : decode cX0_init 51 = .ok (.if_icmp .gt 19, 3) := by decide +kernel
theorem dX0_init_54 : decode cX0_init 54 = .ok (.aload_n 0, 1) := by decide +kernel
theorem dX0_init_55 : decode cX0_init 55 = .ok (.getfield 18, 3) := by decide +kernel
theorem dX0_init_58 : decode cX0_init 58 = .ok (.iload_n 1, 1) := by decide +kernel
theorem dX0_init_59 : decode cX0_init 59 = .ok (.iload_n 1, 1) := by decide +kernel
theorem dX0_init_60 : decode cX0_init 60 = .ok (.invokestatic 26, 3) := by decide +kernel
theorem dX0_init_63 : decode cX0_init 63 = .ok (.iastore, 1) := by decide +kernel
theorem dX0_init_64 : decode cX0_init 64 = .ok (.iinc 1 1, 3) := by decide +kernel
theorem dX0_init_67 : decode cX0_init 67 = .ok (.goto (-19), 3) := by decide +kernel
theorem dX0_init_70 : decode cX0_init 70 = .ok (.return_, 1) := by decide +kernel
/-- the row of BEST while it is laid -/
def z_bsT (n j : Nat) : Int32 := if j < n then z_bs j else 0
theorem z_bs0 {j : Nat} (h : 13 ≤ j) : z_bs j = 0 := by
  show (([0, 0, 1, 2, 2, 2, 3, 3, 3, 3, 3, 3, 4] : List Int32)[j]?).getD 0 = 0
  rw [List.getElem?_eq_none (by simpa using h)]
  rfl
theorem z_bsT13 : z_bsT 13 = z_bs := by
  funext j
  unfold z_bsT
  by_cases c : j < 13
  · rw [if_pos c]
  · rw [if_neg c, z_bs0 (by omega)]
theorem z_bsT1 : z_bsT 1 = fun _ => 0 := by
  funext j
  unfold z_bsT
  by_cases c : j < 1
  · rw [if_pos c, show j = 0 by omega]
    rfl
  · rw [if_neg c]
theorem z_bsTS {n : Nat} (h : n < 13) : upd (z_bsT n) (nI n).toNatClampNeg (z_bs n) = z_bsT (n + 1) := by
  rw [nI_clamp (by omega), z_upd_eq]
  funext j
  unfold z_bsT
  by_cases c : j = n
  · rw [if_pos c, if_pos (by omega), c]
  · rw [if_neg c]
    by_cases d : j < n
    · rw [if_pos d, if_pos (by omega)]
    · rw [if_neg d, if_neg (by omega)]
theorem z_ok0 {D : va_G} {cls : Nat → ClassId} {f : zId → Nat} : z_okE (D, cls, f, []) := ⟨fun i j a b ha _ _ => (by cases ha), fun id hid => absurd hid List.not_mem_nil, fun id hid => absurd hid List.not_mem_nil, fun id2 h2 => absurd h2 List.not_mem_nil⟩
set_option maxHeartbeats 8000000 in
set_option maxRecDepth 100000 in
theorem c_X0_init (l : Launch) (E : zE) (h0 sz : Nat) : Met l yX0_init (Cond.code yX0_init cX0_init 2 none :: zw) ({ frames := 202, cells := 3, slots := 455, locals := 13100 }) (va_Pc [.ref h0] (fun U => U.heap.size = sz ∧ va_P E.1 vwCl [(h0, .inr (0, [.null, .null, .null]))] U.heap ∧ z_eA E (va_A [(h0, .inr (0, [.null, .null, .null]))] sz) U ∧ va_D (fun _ => True) [(h0, .inr (0, [.null, .null, .null]))])) (va_Qv (fun _ : Nat × Nat × Nat => True) (fun q t => va_P E.1 vwCl [(h0, .inr (0, [.ref q.1, .ref q.2.1, .ref q.2.2])), (q.1, .inl (E.2.1 1, 221, .inr (.inl tW))), (q.2.1, .inl (E.2.1 1, 221, .inr (.inl tC))), (q.2.2, .inl (E.2.1 0, 13, .inl z_bs))] t.heap ∧ va_D (va_A [(h0, .inr (0, [.null, .null, .null]))] sz) [(h0, .inr (0, [.ref q.1, .ref q.2.1, .ref q.2.2])), (q.1, .inl (E.2.1 1, 221, .inr (.inl tW))), (q.2.1, .inl (E.2.1 1, 221, .inr (.inl tC))), (q.2.2, .inl (E.2.1 0, 13, .inl z_bs))]) (va_A [(h0, .inr (0, [.null, .null, .null]))] sz)) 3 455 (va_A [(h0, .inr (0, [.null, .null, .null]))] sz) := by
  refine Met.ofW (cc := cX0_init) (maxL := 2) (ret := none) (by decide) rfl ?_
  intro p e s m args below meth c s₁ B hml hv
  obtain ⟨rfl, hsz, hP, hV, hD0⟩ := hv
  have hx := B.exec
  have hb := B.bytes
  have hr := B.returns
  have hts := atoms_spec (ws := Cond.code yX0_init cX0_init 2 none :: zw) B.pre
  have htz := gz_tail hts
  have hown : s.vm.findClass RX0 = some m.cls := findClass_of_methodNamed B.named
  have hlocks := B.notSynchronized
  have hin : meth.name = "<init>" := (name_of_methodNamed B.named B.method).1
  subst hsz
  have hD := hD0.self (sz := s.heap.size)
  generalize hAe : va_A ([(h0, .inr (0, [.null, .null, .null]))] : va_W) s.heap.size = A at hD hV ⊢
  have hA : ∀ q : Nat, s.heap.size ≤ q → A q := fun q h => by rw [← hAe]; exact Or.inr h
  have hS : va_S A s.heap s.heap [] := va_S.rf
  have hl := lv_entry ([.ref h0]) (n := 2) (Nat.le_of_ble_eq_true rfl)
  rw [lg_entry_eq]
  generalize (lg_sl ([.ref h0]) ++ List.replicate (2 - (lg_sl ([.ref h0])).length) Slot.unset).toArray = ls at hl ⊢
  have hl : lv_has ls 2 [(0, .ref h0)] := hl
  refine lv_aload_n hx hb dX0_init_0 rfl (lv_at hl 0 rfl) ?_
  refine W.objInit hx hb hown (htz (Cond.methodLink RX0 5 objectInit) qw_919) (htz (Cond.instanceMethod objectInit) qw_910) (htz (Cond.code objectInit ⟨#[0xb1]⟩ 1 none) qw_911) rfl (by rw [hml]; exact hl.1) rfl dX0_init_1 (Nat.le_of_ble_eq_true rfl) (Nat.le_of_ble_eq_true rfl) ?_
  refine W.eq (g2 := F0 m 4 ls []) rfl ?_
  refine lv_aload_n hx hb dX0_init_4 rfl (lv_at hl 0 rfl) ?_
  refine lv_sipush (v := 221) hx hb dX0_init_5 (by decide) ?_
  have hc1 : 0 + 1 ≤ 3 := by decide
  have hs1 : 0 + 221 ≤ 455 := by decide
  refine va_newa (atype := .long) hx hb (htz (Cond.arrayClass .long) qw_920) rfl hV.1 hP hD hS hA (n := 221) (N' := 221) (a0 := (221, .inr (.inl (fun _ => 0)))) (fun cA => rfl) (by decide) (by decide) (by decide) hc1 hs1 dX0_init_8 (fun qa cA H hK2 hP hD hS => ?_)
  obtain rfl := (va_uniqJ (k := 1) (cI := E.2.1 1) hK2 rfl)
  have hP : va_P E.1 vwCl [(h0, .inr (0, [.null, .null, .null])), (qa, .inl (E.2.1 1, 221, .inr (.inl (fun _ => 0))))] H := hP
  have hD : va_D A [(h0, .inr (0, [.null, .null, .null])), (qa, .inl (E.2.1 1, 221, .inr (.inl (fun _ => 0))))] := hD
  refine W.widen (k := 1) (n := 221) (by omega) (by omega) ?_
  refine va_putF (D := E.1) (ci := 0) (v := .ref qa) (ty := .array .long) (C := RX0) (T := TX0) (N := 3) hx hb htz iw_X0 tyX0 tyX0_ok nmX0 hown hV.1 hP hD hS 0 rfl rfl 0 (by decide) (htz (Cond.fieldLink RX0 11 "TagReaders$Chances" "withoutSingles" "[J") qw_14) (fun _ h9 => h9) rfl hin rfl (by decide +kernel) rfl rfl (Nat.le_of_ble_eq_true rfl) dX0_init_10 (fun H locs hP hD hS => ?_)
  have hP : va_P E.1 vwCl [(h0, .inr (0, [.ref qa, .null, .null])), (qa, .inl (E.2.1 1, 221, .inr (.inl (fun _ => 0))))] H := hP
  have hD : va_D A [(h0, .inr (0, [.ref qa, .null, .null])), (qa, .inl (E.2.1 1, 221, .inr (.inl (fun _ => 0))))] := hD
  refine lv_aload_n hx hb dX0_init_13 rfl (lv_at hl 0 rfl) ?_
  refine lv_sipush (v := 221) hx hb dX0_init_14 (by decide) ?_
  have hc1 : 1 + 1 ≤ 3 := by decide
  have hs1 : 221 + 221 ≤ 455 := by decide
  refine va_newa (atype := .long) hx hb (htz (Cond.arrayClass .long) qw_920) rfl hV.1 hP hD hS hA (n := 221) (N' := 221) (a0 := (221, .inr (.inl (fun _ => 0)))) (fun cA => rfl) (by decide) (by decide) (by decide) hc1 hs1 dX0_init_17 (fun qb cA H hK2 hP hD hS => ?_)
  obtain rfl := (va_uniqJ (k := 1) (cI := E.2.1 1) hK2 rfl)
  have hP : va_P E.1 vwCl [(h0, .inr (0, [.ref qa, .null, .null])), (qa, .inl (E.2.1 1, 221, .inr (.inl (fun _ => 0)))), (qb, .inl (E.2.1 1, 221, .inr (.inl (fun _ => 0))))] H := hP
  have hD : va_D A [(h0, .inr (0, [.ref qa, .null, .null])), (qa, .inl (E.2.1 1, 221, .inr (.inl (fun _ => 0)))), (qb, .inl (E.2.1 1, 221, .inr (.inl (fun _ => 0))))] := hD
  refine W.widen (k := 2) (n := 442) (by omega) (by omega) ?_
  refine va_putF (D := E.1) (ci := 0) (v := .ref qb) (ty := .array .long) (C := RX0) (T := TX0) (N := 3) hx hb htz iw_X0 tyX0 tyX0_ok nmX0 hown hV.1 hP hD hS 0 rfl rfl 1 (by decide) (htz (Cond.fieldLink RX0 15 "TagReaders$Chances" "clashesAlone" "[J") qw_29) (fun _ h9 => h9) rfl hin rfl (by decide +kernel) rfl rfl (Nat.le_of_ble_eq_true rfl) dX0_init_19 (fun H locs hP hD hS => ?_)
  have hP : va_P E.1 vwCl [(h0, .inr (0, [.ref qa, .ref qb, .null])), (qa, .inl (E.2.1 1, 221, .inr (.inl (fun _ => 0)))), (qb, .inl (E.2.1 1, 221, .inr (.inl (fun _ => 0))))] H := hP
  have hD : va_D A [(h0, .inr (0, [.ref qa, .ref qb, .null])), (qa, .inl (E.2.1 1, 221, .inr (.inl (fun _ => 0)))), (qb, .inl (E.2.1 1, 221, .inr (.inl (fun _ => 0))))] := hD
  refine lv_aload_n hx hb dX0_init_22 rfl (lv_at hl 0 rfl) ?_
  refine lv_bipush (v := 13) hx hb dX0_init_23 (by decide) ?_
  have hc1 : 2 + 1 ≤ 3 := by decide
  have hs1 : 442 + 13 ≤ 455 := by decide
  refine va_newa (atype := .int) hx hb (htz (Cond.arrayClass .int) qw_921) rfl hV.1 hP hD hS hA (n := 13) (N' := 13) (a0 := (13, .inl (fun _ => 0))) (fun cA => rfl) (by decide) (by decide) (by decide) hc1 hs1 dX0_init_25 (fun qe cA H hK2 hP hD hS => ?_)
  obtain rfl := (va_uniq (k := 0) (cI := E.2.1 0) hK2 rfl)
  have hP : va_P E.1 vwCl [(h0, .inr (0, [.ref qa, .ref qb, .null])), (qa, .inl (E.2.1 1, 221, .inr (.inl (fun _ => 0)))), (qb, .inl (E.2.1 1, 221, .inr (.inl (fun _ => 0)))), (qe, .inl (E.2.1 0, 13, .inl (fun _ => 0)))] H := hP
  have hD : va_D A [(h0, .inr (0, [.ref qa, .ref qb, .null])), (qa, .inl (E.2.1 1, 221, .inr (.inl (fun _ => 0)))), (qb, .inl (E.2.1 1, 221, .inr (.inl (fun _ => 0)))), (qe, .inl (E.2.1 0, 13, .inl (fun _ => 0)))] := hD
  refine W.widen (k := 3) (n := 455) (by omega) (by omega) ?_
  refine va_putF (D := E.1) (ci := 0) (v := .ref qe) (ty := .array .int) (C := RX0) (T := TX0) (N := 3) hx hb htz iw_X0 tyX0 tyX0_ok nmX0 hown hV.1 hP hD hS 0 rfl rfl 2 (by decide) (htz (Cond.fieldLink RX0 18 "TagReaders$Chances" "bests" "[I") qw_24) (fun _ h9 => h9) rfl hin rfl (by decide +kernel) rfl rfl (Nat.le_of_ble_eq_true rfl) dX0_init_27 (fun H locs hP hD hS => ?_)
  have hP : va_P E.1 vwCl [(h0, .inr (0, [.ref qa, .ref qb, .ref qe])), (qa, .inl (E.2.1 1, 221, .inr (.inl (fun _ => 0)))), (qb, .inl (E.2.1 1, 221, .inr (.inl (fun _ => 0)))), (qe, .inl (E.2.1 0, 13, .inl (fun _ => 0)))] H := hP
  have hD : va_D A [(h0, .inr (0, [.ref qa, .ref qb, .ref qe])), (qa, .inl (E.2.1 1, 221, .inr (.inl (fun _ => 0)))), (qb, .inl (E.2.1 1, 221, .inr (.inl (fun _ => 0)))), (qe, .inl (E.2.1 0, 13, .inl (fun _ => 0)))] := hD
  refine lv_aload_n hx hb dX0_init_30 rfl (lv_at hl 0 rfl) ?_
  refine va_get (v := .ref qa) (D := E.1) (ci := 0) (C := RX0) (T := TX0) (N := 3) hx hb htz iw_X0 hown hV.1 hP 0 rfl rfl 0 (by decide) (htz (Cond.fieldLink RX0 11 "TagReaders$Chances" "withoutSingles" "[J") qw_14) (fun _ h9 => h9) rfl dX0_init_31 ?_
  refine lv_iconst (v := 0) hx hb dX0_init_34 (by decide) ?_
  have hPc : va_P E.1 vwCl (z_ws ((E.1, E.2.1, (fun id => if id.1 = 50 then E.2.2.1 id else qa), [(45, 0, 0)]) : zE) ((fun _ _ _ _ => 0, fun _ _ => 0) : zMem)) H := hP.sub (ws' := [(qa, .inl (E.2.1 1, 221, .inr (.inl (fun _ => 0))))]) [1] rfl
  have hFc := va_free (wc := [(qa, .inl (E.2.1 1, 221, .inr (.inl (fun _ => 0))))]) hD hS hA [1] rfl
  have hFz : ∀ q2, z_A ((E.1, E.2.1, (fun id => if id.1 = 50 then E.2.2.1 id else qa), [(45, 0, 0)]) : zE) q2 → va_A [(qa, .inl (E.2.1 1, 221, .inr (.inl (fun _ => 0))))] H.size q2 := fun q2 h => by
    obtain ⟨id, hid, h2⟩ := h
    have h3 := List.mem_singleton.mp hid
    subst h3
    have h4 : q2 = qa := h2
    rw [h4]
    exact Or.inl ⟨0, _, rfl⟩
  refine z_cS (E := ((E.1, E.2.1, (fun id => if id.1 = 50 then E.2.2.1 id else qa), [(45, 0, 0)]) : zE)) (M := ((fun _ _ _ _ => 0, fun _ _ => 0) : zMem)) (M2 := m_fill ((fun _ _ _ _ => 0, fun _ _ => 0) : zMem) 45 0) (as := [.inr (.inr (45, 0, 0)), .inl (nI 0)]) (r := none) (k := 1) (n := 2) (rest := []) hx hb hml hown htz (fun h K hK => s_fill (h := h + 198) (.inl rfl) (.inl rfl) hK) qw_924 qw_1 ⟨by decide +kernel, by decide +kernel, by decide +kernel⟩ (Nat.le_of_ble_eq_true rfl) qw_922 qw_923 (z_okJ (.inl rfl)) (fun v hv => ?_) rfl hPc hS (fun q2 h => hFc q2 (hFz q2 h)) (z_eA_E hV rfl rfl (fun _ => rfl)) ⟨Nat.le_of_ble_eq_true rfl, Nat.le_of_ble_eq_true rfl⟩ ⟨Nat.le_of_ble_eq_true rfl, Nat.le_of_ble_eq_true rfl⟩ hl.1 (Nat.zero_le _) dX0_init_35 rfl (fun H1 locs _ hP1 hle hun hS => ?_)
  · rcases List.mem_cons.mp hv with e | e
    · rw [e]; exact Or.inr (Or.inr (Or.inr (List.mem_singleton.mpr rfl)))
    · rw [List.mem_singleton.mp e]; trivial
  have hP2 : va_P E.1 vwCl [(qa, .inl (E.2.1 1, 221, .inr (.inl tW)))] H1 := vx_rowJ (f := (m_fill ((fun _ _ _ _ => 0, fun _ _ => 0) : zMem) 45 0).2 45) hP1 (fill_W (fun _ _ => rfl)).1
  have hD2 : va_D (va_A [(qa, .inl (E.2.1 1, 221, .inr (.inl (fun _ => 0))))] H.size) [(qa, .inl (E.2.1 1, 221, .inr (.inl tW)))] := ⟨fun i j x y hi hj _ => by
    have h1 : i < 1 := (List.getElem?_eq_some_iff.mp hi).1
    have h2 : j < 1 := (List.getElem?_eq_some_iff.mp hj).1
    omega, fun k x hk => by
    have h1 : k < 1 := (List.getElem?_eq_some_iff.mp hk).1
    rw [show k = 0 by omega] at hk
    cases hk
    exact Or.inl ⟨0, _, rfl⟩⟩
  obtain ⟨hP, hD⟩ := va_join (wc := [(qa, .inl (E.2.1 1, 221, .inr (.inl (fun _ => 0))))]) (wr := [(h0, .inr (0, [.ref qa, .ref qb, .ref qe])), (qb, .inl (E.2.1 1, 221, .inr (.inl (fun _ => 0)))), (qe, .inl (E.2.1 0, 13, .inl (fun _ => 0)))]) hP hD [1] [0, 2, 3] rfl rfl (by decide) (by decide) (fun q2 h1 h2 => hun q2 h1 (fun h => h2 (hFz q2 h))) hFc hP2 hD2
  generalize H1 = H at hP hS ⊢
  have hP : va_P E.1 vwCl [(h0, .inr (0, [.ref qa, .ref qb, .ref qe])), (qb, .inl (E.2.1 1, 221, .inr (.inl (fun _ => 0)))), (qe, .inl (E.2.1 0, 13, .inl (fun _ => 0))), (qa, .inl (E.2.1 1, 221, .inr (.inl tW)))] H := hP
  have hD : va_D A [(h0, .inr (0, [.ref qa, .ref qb, .ref qe])), (qb, .inl (E.2.1 1, 221, .inr (.inl (fun _ => 0)))), (qe, .inl (E.2.1 0, 13, .inl (fun _ => 0))), (qa, .inl (E.2.1 1, 221, .inr (.inl tW)))] := hD
  refine W.eq (g2 := F0 m 38 ls []) rfl ?_
  refine lv_aload_n hx hb dX0_init_38 rfl (lv_at hl 0 rfl) ?_
  refine va_get (v := .ref qb) (D := E.1) (ci := 0) (C := RX0) (T := TX0) (N := 3) hx hb htz iw_X0 hown hV.1 hP 0 rfl rfl 1 (by decide) (htz (Cond.fieldLink RX0 15 "TagReaders$Chances" "clashesAlone" "[J") qw_29) (fun _ h9 => h9) rfl dX0_init_39 ?_
  refine lv_iconst (v := 2) hx hb dX0_init_42 (by decide) ?_
  have hPc : va_P E.1 vwCl (z_ws ((E.1, E.2.1, (fun id => if id.1 = 50 then E.2.2.1 id else qb), [(46, 0, 0)]) : zE) ((fun _ _ _ _ => 0, fun _ _ => 0) : zMem)) H := hP.sub (ws' := [(qb, .inl (E.2.1 1, 221, .inr (.inl (fun _ => 0))))]) [1] rfl
  have hFc := va_free (wc := [(qb, .inl (E.2.1 1, 221, .inr (.inl (fun _ => 0))))]) hD hS hA [1] rfl
  have hFz : ∀ q2, z_A ((E.1, E.2.1, (fun id => if id.1 = 50 then E.2.2.1 id else qb), [(46, 0, 0)]) : zE) q2 → va_A [(qb, .inl (E.2.1 1, 221, .inr (.inl (fun _ => 0))))] H.size q2 := fun q2 h => by
    obtain ⟨id, hid, h2⟩ := h
    have h3 := List.mem_singleton.mp hid
    subst h3
    have h4 : q2 = qb := h2
    rw [h4]
    exact Or.inl ⟨0, _, rfl⟩
  refine z_cS (E := ((E.1, E.2.1, (fun id => if id.1 = 50 then E.2.2.1 id else qb), [(46, 0, 0)]) : zE)) (M := ((fun _ _ _ _ => 0, fun _ _ => 0) : zMem)) (M2 := m_fill ((fun _ _ _ _ => 0, fun _ _ => 0) : zMem) 46 2) (as := [.inr (.inr (46, 0, 0)), .inl (nI 2)]) (r := none) (k := 1) (n := 2) (rest := []) hx hb hml hown htz (fun h K hK => s_fill (h := h + 198) (.inr rfl) (.inr rfl) hK) qw_924 qw_1 ⟨by decide +kernel, by decide +kernel, by decide +kernel⟩ (Nat.le_of_ble_eq_true rfl) qw_922 qw_923 (z_okJ (.inr rfl)) (fun v hv => ?_) rfl hPc hS (fun q2 h => hFc q2 (hFz q2 h)) (z_eA_E hV rfl rfl (fun _ => rfl)) ⟨Nat.le_of_ble_eq_true rfl, Nat.le_of_ble_eq_true rfl⟩ ⟨Nat.le_of_ble_eq_true rfl, Nat.le_of_ble_eq_true rfl⟩ hl.1 (Nat.zero_le _) dX0_init_43 rfl (fun H1 locs _ hP1 hle hun hS => ?_)
  · rcases List.mem_cons.mp hv with e | e
    · rw [e]; exact Or.inr (Or.inr (Or.inr (List.mem_singleton.mpr rfl)))
    · rw [List.mem_singleton.mp e]; trivial
  have hP2 : va_P E.1 vwCl [(qb, .inl (E.2.1 1, 221, .inr (.inl tC)))] H1 := vx_rowJ (f := (m_fill ((fun _ _ _ _ => 0, fun _ _ => 0) : zMem) 46 2).2 46) hP1 (fill_C (fun _ _ => rfl)).1
  have hD2 : va_D (va_A [(qb, .inl (E.2.1 1, 221, .inr (.inl (fun _ => 0))))] H.size) [(qb, .inl (E.2.1 1, 221, .inr (.inl tC)))] := ⟨fun i j x y hi hj _ => by
    have h1 : i < 1 := (List.getElem?_eq_some_iff.mp hi).1
    have h2 : j < 1 := (List.getElem?_eq_some_iff.mp hj).1
    omega, fun k x hk => by
    have h1 : k < 1 := (List.getElem?_eq_some_iff.mp hk).1
    rw [show k = 0 by omega] at hk
    cases hk
    exact Or.inl ⟨0, _, rfl⟩⟩
  obtain ⟨hP, hD⟩ := va_join (wc := [(qb, .inl (E.2.1 1, 221, .inr (.inl (fun _ => 0))))]) (wr := [(h0, .inr (0, [.ref qa, .ref qb, .ref qe])), (qe, .inl (E.2.1 0, 13, .inl (fun _ => 0))), (qa, .inl (E.2.1 1, 221, .inr (.inl tW)))]) hP hD [1] [0, 2, 3] rfl rfl (by decide) (by decide) (fun q2 h1 h2 => hun q2 h1 (fun h => h2 (hFz q2 h))) hFc hP2 hD2
  generalize H1 = H at hP hS ⊢
  have hP : va_P E.1 vwCl [(h0, .inr (0, [.ref qa, .ref qb, .ref qe])), (qe, .inl (E.2.1 0, 13, .inl (fun _ => 0))), (qa, .inl (E.2.1 1, 221, .inr (.inl tW))), (qb, .inl (E.2.1 1, 221, .inr (.inl tC)))] H := hP
  have hD : va_D A [(h0, .inr (0, [.ref qa, .ref qb, .ref qe])), (qe, .inl (E.2.1 0, 13, .inl (fun _ => 0))), (qa, .inl (E.2.1 1, 221, .inr (.inl tW))), (qb, .inl (E.2.1 1, 221, .inr (.inl tC)))] := hD
  refine W.eq (g2 := F0 m 46 ls []) rfl ?_
  have loop : ∀ k n, n + k = 13 → 1 ≤ n → ∀ (H : Heap) (locs : List Loc) (ls : Array Slot), lv_has ls 2 [(1, .int (nI n)), (0, .ref h0)] → va_P E.1 vwCl [(h0, .inr (0, [.ref qa, .ref qb, .ref qe])), (qe, .inl (E.2.1 0, 13, .inl (z_bsT n))), (qa, .inl (E.2.1 1, 221, .inr (.inl tW))), (qb, .inl (E.2.1 1, 221, .inr (.inl tC)))] H → va_D A [(h0, .inr (0, [.ref qa, .ref qb, .ref qe])), (qe, .inl (E.2.1 0, 13, .inl (z_bsT n))), (qa, .inl (E.2.1 1, 221, .inr (.inl tW))), (qb, .inl (E.2.1 1, 221, .inr (.inl tC)))] → va_S A s.heap H locs → W p l e (headSpec (Cond.code yX0_init cX0_init 2 none :: zw) { frames := 202, cells := 3, slots := 455, locals := 13100 }).room s m #[Value.ref h0] below meth c H locs 3 455 (MQ below (va_Qv (fun _ : Nat × Nat × Nat => True) (fun q t => va_P E.1 vwCl [(h0, .inr (0, [.ref q.1, .ref q.2.1, .ref q.2.2])), (q.1, .inl (E.2.1 1, 221, .inr (.inl tW))), (q.2.1, .inl (E.2.1 1, 221, .inr (.inl tC))), (q.2.2, .inl (E.2.1 0, 13, .inl z_bs))] t.heap ∧ va_D A [(h0, .inr (0, [.ref q.1, .ref q.2.1, .ref q.2.2])), (q.1, .inl (E.2.1 1, 221, .inr (.inl tW))), (q.2.1, .inl (E.2.1 1, 221, .inr (.inl tC))), (q.2.2, .inl (E.2.1 0, 13, .inl z_bs))]) A) #[Value.ref h0] s 3 455 A) (F0 m 48 ls []) := by
    intro k
    induction k with
    | zero =>
      intro n hn n1 H locs ls hl hP hD hS
      obtain rfl : n = 13 := by omega
      refine lv_iload_n hx hb dX0_init_48 rfl (lv_at hl 0 rfl) ?_
      refine lv_bipush (v := 12) hx hb dX0_init_49 (by decide) ?_
      refine lv_icmp_gt (tgt := 70) hx hb dX0_init_51 (by decide) (fun _ => ?_) (fun z => absurd (show (12 : Int32) < nI 13 by decide) z)
      rw [z_bsT13] at hP hD
      have hP2 : va_P E.1 vwCl [(h0, .inr (0, [.ref qa, .ref qb, .ref qe])), (qa, .inl (E.2.1 1, 221, .inr (.inl tW))), (qb, .inl (E.2.1 1, 221, .inr (.inl tC))), (qe, .inl (E.2.1 0, 13, .inl z_bs))] H := hP.sub [0, 2, 3, 1] rfl
      have hD2 : va_D A [(h0, .inr (0, [.ref qa, .ref qb, .ref qe])), (qa, .inl (E.2.1 1, 221, .inr (.inl tW))), (qb, .inl (E.2.1 1, 221, .inr (.inl tC))), (qe, .inl (E.2.1 0, 13, .inl z_bs))] := hD.sub [0, 2, 3, 1] (by decide) rfl
      exact W.vret hx hb hr (fun t ht hW => ⟨⟨(qa, qb, qe), rfl, trivial, by rw [ht]; exact hP2, hD2⟩, hS.F ht⟩) hS.2.2 dX0_init_70
    | succ k ih =>
      intro n hn n1 H locs ls hl hP hD hS
      have n13 : n < 13 := by omega
      refine lv_iload_n hx hb dX0_init_48 rfl (lv_at hl 0 rfl) ?_
      refine lv_bipush (v := 12) hx hb dX0_init_49 (by decide) ?_
      refine lv_icmp_gt (tgt := 70) hx hb dX0_init_51 (by decide) (fun z => absurd z (Int32.not_lt.mpr (show nI n ≤ nI 12 from (nI_leI (by omega) (by decide)).mpr (by omega)))) (fun _ => ?_)
      refine lv_aload_n hx hb dX0_init_54 rfl (lv_at hl 1 rfl) ?_
      refine va_get (v := .ref qe) (D := E.1) (ci := 0) (C := RX0) (T := TX0) (N := 3) hx hb htz iw_X0 hown hV.1 hP 0 rfl rfl 2 (by decide) (htz (Cond.fieldLink RX0 18 "TagReaders$Chances" "bests" "[I") qw_24) (fun _ h9 => h9) rfl dX0_init_55 ?_
      refine lv_iload_n hx hb dX0_init_58 rfl (lv_at hl 0 rfl) ?_
      refine lv_iload_n hx hb dX0_init_59 rfl (lv_at hl 0 rfl) ?_
      have noA : ∀ q2, ¬ z_A ((E.1, E.2.1, E.2.2.1, []) : zE) q2 := fun q2 h => by
        obtain ⟨id, hid, _⟩ := h
        exact absurd hid List.not_mem_nil
      have hFc := va_free (wc := []) hD hS hA [] rfl
      refine z_cS (E := ((E.1, E.2.1, E.2.2.1, []) : zE)) (M := ((fun _ _ _ _ => 0, fun _ _ => 0) : zMem)) (M2 := ((fun _ _ _ _ => 0, fun _ _ => 0) : zMem)) (as := [.inl (nI n)]) (r := some (.inl (z_bs n))) (k := 276) (n := 1) (rest := [.int (nI n), .ref qe]) hx hb hml hown htz (fun h K hK => s_mostHopeful (h := h + 196) (nI_nlt (b := 1) n1 (by omega)) (nI_le (b := 12) (by omega) (by omega)) (by rw [← z_bsE n n13 n1]; exact hK)) qw_927 qw_1 ⟨by decide +kernel, by decide +kernel, by decide +kernel⟩ (Nat.le_of_ble_eq_true rfl) qw_925 qw_926 z_ok0 (fun v hv => ?_) rfl (fun k q hk => absurd hk (by simp [z_ws])) hS (fun q2 h => absurd h (noA q2)) (z_eA_E hV rfl rfl (fun _ => rfl)) ⟨Nat.le_of_ble_eq_true rfl, Nat.le_of_ble_eq_true rfl⟩ ⟨Nat.le_of_ble_eq_true rfl, Nat.le_of_ble_eq_true rfl⟩ hl.1 (Nat.le_of_ble_eq_true rfl) dX0_init_60 rfl (fun H1 locs _ _ hle hun hS => ?_)
      · rw [List.mem_singleton.mp hv]
        trivial
      obtain ⟨hP, hD⟩ := va_join (wc := []) (wr := [(h0, .inr (0, [.ref qa, .ref qb, .ref qe])), (qe, .inl (E.2.1 0, 13, .inl (z_bsT n))), (qa, .inl (E.2.1 1, 221, .inr (.inl tW))), (qb, .inl (E.2.1 1, 221, .inr (.inl tC)))]) (w1 := []) hP hD [] [0, 1, 2, 3] rfl rfl (by decide) (by decide) (fun q2 h1 _ => hun q2 h1 (noA q2)) hFc (fun k q hk => absurd hk (by simp)) ⟨fun i j x y hi _ _ => absurd hi (by simp), fun k q hk => absurd hk (by simp)⟩
      generalize H1 = H at hP hS ⊢
      have hP : va_P E.1 vwCl [(h0, .inr (0, [.ref qa, .ref qb, .ref qe])), (qe, .inl (E.2.1 0, 13, .inl (z_bsT n))), (qa, .inl (E.2.1 1, 221, .inr (.inl tW))), (qb, .inl (E.2.1 1, 221, .inr (.inl tC)))] H := hP
      have hD : va_D A [(h0, .inr (0, [.ref qa, .ref qb, .ref qe])), (qe, .inl (E.2.1 0, 13, .inl (z_bsT n))), (qa, .inl (E.2.1 1, 221, .inr (.inl tW))), (qb, .inl (E.2.1 1, 221, .inr (.inl tC)))] := hD
      refine W.eq (g2 := F0 m 63 ls [.int (z_bs n), .int (nI n), .ref qe]) rfl ?_
      refine va_iast hx hb hV.1 hP hD hS 1 0 rfl rfl (vp_in_nI n13 (by decide)) dX0_init_63 (fun H locs hP hD hS => ?_)
      have hP : va_P E.1 vwCl [(h0, .inr (0, [.ref qa, .ref qb, .ref qe])), (qe, .inl (E.2.1 0, 13, .inl (upd (z_bsT n) (nI n).toNatClampNeg (z_bs n)))), (qa, .inl (E.2.1 1, 221, .inr (.inl tW))), (qb, .inl (E.2.1 1, 221, .inr (.inl tC)))] H := hP
      have hD : va_D A [(h0, .inr (0, [.ref qa, .ref qb, .ref qe])), (qe, .inl (E.2.1 0, 13, .inl (upd (z_bsT n) (nI n).toNatClampNeg (z_bs n)))), (qa, .inl (E.2.1 1, 221, .inr (.inl tW))), (qb, .inl (E.2.1 1, 221, .inr (.inl tC)))] := hD
      rw [z_bsTS n13] at hP hD
      refine lv_iinc (v := nI (n + 1)) (lv' := [(1, .int (nI (n + 1))), (0, .ref h0)]) hx hb dX0_init_64 hl (k := 0) rfl (by rw [← nI_1]; rfl) (by decide) rfl (fun ls hl => ?_)
      refine lv_goto (tgt := 48) hx hb dX0_init_67 (by decide) ?_
      exact ih (n + 1) (by omega) (by omega) H locs ls hl hP hD hS
  refine lv_iconst (v := nI 1) hx hb dX0_init_46 (by decide) ?_
  refine lv_istore_n (lv' := [(1, .int (nI 1)), (0, .ref h0)]) hx hb dX0_init_47 rfl hl (by decide) rfl (fun ls hl => ?_)
  have hP : va_P E.1 vwCl [(h0, .inr (0, [.ref qa, .ref qb, .ref qe])), (qe, .inl (E.2.1 0, 13, .inl (z_bsT 1))), (qa, .inl (E.2.1 1, 221, .inr (.inl tW))), (qb, .inl (E.2.1 1, 221, .inr (.inl tC)))] H := by rw [z_bsT1]; exact hP
  have hD : va_D A [(h0, .inr (0, [.ref qa, .ref qb, .ref qe])), (qe, .inl (E.2.1 0, 13, .inl (z_bsT 1))), (qa, .inl (E.2.1 1, 221, .inr (.inl tW))), (qb, .inl (E.2.1 1, 221, .inr (.inl tC)))] := by rw [z_bsT1]; exact hD
  exact loop 12 1 (by omega) (Nat.le_refl _) H locs ls hl hP hD hS
