/-! Prefixes.add(0) of an empty row -/
def wsX2_add : List Cond := .code yX2_add cX2_add 2 none :: ([.fieldLink RX2 23 "TagReaders$Prefixes" "size" "I", .fieldLink RX2 11 "TagReaders$Prefixes" "items" "[I"] ++ wsX20)
set_option maxHeartbeats 4000000 in
set_option maxRecDepth 100000 in
theorem c_X2_add0 (l : Launch) (D : va_G) (tys : List (ClassId × FieldType)) (cI : ClassId) (kI : Nat) (hI : tys[kI]? = some (cI, .int)) (h0 q sz : Nat) : Met l yX2_add wsX2_add ({ frames := 1, cells := 0, slots := 0, locals := 24 }) (va_Pc [.ref h0, .int 0] (fun U => U.heap.size = sz ∧ va_P D vwCl [(h0, .inr (2, [.ref q, .int 0])), (q, .inl (cI, 512, .inl (fun _ => 0)))] U.heap ∧ va_K D vwCl tys U ∧ va_D (fun _ => True) [(h0, .inr (2, [.ref q, .int 0])), (q, .inl (cI, 512, .inl (fun _ => 0)))])) (va_Qv (fun _ : Int32 => True) (fun _ t => va_P D vwCl [(h0, .inr (2, [.ref q, .int 1])), (q, .inl (cI, 512, .inl (fun _ => 0)))] t.heap ∧ va_K D vwCl tys t ∧ va_D (va_A [(h0, .inr (2, [.ref q, .int 0])), (q, .inl (cI, 512, .inl (fun _ => 0)))] sz) [(h0, .inr (2, [.ref q, .int 1])), (q, .inl (cI, 512, .inl (fun _ => 0)))]) (va_A [(h0, .inr (2, [.ref q, .int 0])), (q, .inl (cI, 512, .inl (fun _ => 0)))] sz)) 0 0 (va_A [(h0, .inr (2, [.ref q, .int 0])), (q, .inl (cI, 512, .inl (fun _ => 0)))] sz) := by
  refine Met.ofW (cc := cX2_add) (maxL := 2) (ret := none) (by decide) rfl ?_
  intro p e s m args below meth c s₁ B hml hv
  obtain ⟨rfl, hsz, hP, hK, hD0⟩ := hv
  have hx := B.exec
  have hb := B.bytes
  have hr := B.returns
  have hts := atoms_spec (ws := wsX2_add) B.pre
  have hown : s.vm.findClass RX2 = some m.cls := findClass_of_methodNamed B.named
  have hlocks := B.notSynchronized
  subst hsz
  have hD := hD0.self (sz := s.heap.size)
  generalize hAe : va_A ([(h0, .inr (2, [.ref q, .int 0])), (q, .inl (cI, 512, .inl (fun _ => 0)))] : va_W) s.heap.size = A at hD ⊢
  have hS : va_S A s.heap s.heap [] := va_S.rf
  have hl := lv_entry ([.ref h0, .int 0]) (n := 2) (Nat.le_of_ble_eq_true rfl)
  rw [lg_entry_eq]
  generalize (lg_sl ([.ref h0, .int 0]) ++ List.replicate (2 - (lg_sl ([.ref h0, .int 0])).length) Slot.unset).toArray = ls at hl ⊢
  have hl : lv_has ls 2 [(0, .ref h0), (1, .int 0)] := hl
  refine lv_aload_n hx hb dX2_add_0 rfl (lv_at hl 0 rfl) ?_
  refine va_get (v := .int 0) (D := D) (ci := 2) (C := RX2) (T := TX2) (N := 2) hx hb hts (by decide +kernel) hown hK hP 0 rfl rfl 1 (by decide) (hts (.fieldLink RX2 23 "TagReaders$Prefixes" "size" "I") (by decide +kernel)) (fun _ h9 => h9) rfl dX2_add_1 ?_
  refine lv_sipush (v := 512) hx hb dX2_add_4 (by decide) ?_
  refine lv_icmp_ge (tgt := 30) hx hb dX2_add_7 (by decide) (fun z => absurd z (by decide)) (fun _ => ?_)
  refine lv_aload_n hx hb dX2_add_10 rfl (lv_at hl 0 rfl) ?_
  refine va_get (v := .ref q) (D := D) (ci := 2) (C := RX2) (T := TX2) (N := 2) hx hb hts (by decide +kernel) hown hK hP 0 rfl rfl 0 (by decide) (hts (.fieldLink RX2 11 "TagReaders$Prefixes" "items" "[I") (by decide +kernel)) (fun _ h9 => h9) rfl dX2_add_11 ?_
  refine lv_aload_n hx hb dX2_add_14 rfl (lv_at hl 0 rfl) ?_
  refine va_get (v := .int 0) (D := D) (ci := 2) (C := RX2) (T := TX2) (N := 2) hx hb hts (by decide +kernel) hown hK hP 0 rfl rfl 1 (by decide) (hts (.fieldLink RX2 23 "TagReaders$Prefixes" "size" "I") (by decide +kernel)) (fun _ h9 => h9) rfl dX2_add_15 ?_
  refine lv_iload_n hx hb dX2_add_18 rfl (lv_at hl 1 rfl) ?_
  refine va_iast hx hb hK hP hD hS 1 kI rfl hI (show vp_in (nI 0) 512 from vp_in_nI (by omega) (by decide)) dX2_add_19 (fun H locs hP hD hS => ?_)
  have eu : upd (fun _ => (0 : Int32)) (0 : Int32).toNatClampNeg 0 = fun _ => 0 := by
    funext k
    unfold upd
    split <;> rfl
  rw [eu] at hP hD
  refine lv_aload_n hx hb dX2_add_20 rfl (lv_at hl 0 rfl) ?_
  refine lv_dup hx hb dX2_add_21 rfl ?_
  refine va_get (v := .int 0) (D := D) (ci := 2) (C := RX2) (T := TX2) (N := 2) hx hb hts (by decide +kernel) hown hK hP 0 rfl rfl 1 (by decide) (hts (.fieldLink RX2 23 "TagReaders$Prefixes" "size" "I") (by decide +kernel)) (fun _ h9 => h9) rfl dX2_add_22 ?_
  refine lv_iconst (v := 1) hx hb dX2_add_25 (by decide) ?_
  refine lv_iadd hx hb dX2_add_26 ?_
  refine va_put (v := .int ((0 : Int32) + 1)) (ty := .int) (D := D) (ci := 2) (C := RX2) (T := TX2) (N := 2) hx hb hts (by decide +kernel) tyX2 tyX2_ok nmX2 hown hK hP hD hS 0 rfl rfl 1 (by decide) (hts (.fieldLink RX2 23 "TagReaders$Prefixes" "size" "I") (by decide +kernel)) (fun x9 h9 => h9) rfl (by decide +kernel) rfl rfl (Nat.le_of_ble_eq_true rfl) dX2_add_27 (fun H locs hP hD hS => ?_)
  exact W.vret hx hb hr (fun t ht hW => ⟨⟨0, rfl, trivial, by rw [ht]; exact hP, va_K.moved hW.alike hK, hD⟩, hS.F ht⟩) hS.2.2 dX2_add_30
