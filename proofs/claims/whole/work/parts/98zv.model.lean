/-! constructor: the reference -/
theorem dX10_init_0 : decode cX10_init 0 = .ok (.aload_n 0, 1) := by decide +kernel
theorem dX10_init_1 : decode cX10_init 1 = .ok (.invokespecial 4, 3) := by decide +kernel
theorem dX10_init_4 : decode cX10_init 4 = .ok (.aload_n 0, 1) := by decide +kernel
theorem dX10_init_5 : decode cX10_init 5 = .ok (.ldc 3, 2) := by decide +kernel
theorem dX10_init_7 : decode cX10_init 7 = .ok (.newarray .int, 2) := by decide +kernel
theorem dX10_init_9 : decode cX10_init 9 = .ok (.putfield 10, 3) := by decide +kernel
theorem dX10_init_12 : decode cX10_init 12 = .ok (.aload_n 0, 1) := by decide +kernel
theorem dX10_init_13 : decode cX10_init 13 = .ok (.ldc 3, 2) := by decide +kernel
theorem dX10_init_15 : decode cX10_init 15 = .ok (.newarray .int, 2) := by decide +kernel
theorem dX10_init_17 : decode cX10_init 17 = .ok (.putfield 14, 3) := by decide +kernel
theorem dX10_init_20 : decode cX10_init 20 = .ok (.aload_n 0, 1) := by decide +kernel
theorem dX10_init_21 : decode cX10_init 21 = .ok (.ldc 3, 2) := by decide +kernel
theorem dX10_init_23 : decode cX10_init 23 = .ok (.newarray .int, 2) := by decide +kernel
theorem dX10_init_25 : decode cX10_init 25 = .ok (.putfield 17, 3) := by decide +kernel
theorem dX10_init_28 : decode cX10_init 28 = .ok (.aload_n 0, 1) := by decide +kernel
theorem dX10_init_29 : decode cX10_init 29 = .ok (.bipush 24, 2) := by decide +kernel
theorem dX10_init_31 : decode cX10_init 31 = .ok (.newarray .boolean, 2) := by decide +kernel
theorem dX10_init_33 : decode cX10_init 33 = .ok (.putfield 20, 3) := by decide +kernel
theorem dX10_init_36 : decode cX10_init 36 = .ok (.aload_n 0, 1) := by decide +kernel
theorem dX10_init_37 : decode cX10_init 37 = .ok (.sipush 221, 3) := by decide +kernel
theorem dX10_init_40 : decode cX10_init 40 = .ok (.newarray .long, 2) := by decide +kernel
theorem dX10_init_42 : decode cX10_init 42 = .ok (.putfield 24, 3) := by decide +kernel
theorem dX10_init_45 : decode cX10_init 45 = .ok (.aload_n 0, 1) := by decide +kernel
theorem dX10_init_46 : decode cX10_init 46 = .ok (.getfield 10, 3) := by decide +kernel
theorem dX10_init_49 : decode cX10_init 49 = .ok (.iconst 2, 1) := by decide +kernel
theorem dX10_init_50 : decode cX10_init 50 = .ok (.bipush 20, 2) := by decide +kernel
theorem dX10_init_52 : decode cX10_init 52 = .ok (.iastore, 1) := by decide +kernel
theorem dX10_init_53 : decode cX10_init 53 = .ok (.aload_n 0, 1) := by decide +kernel
theorem dX10_init_54 : decode cX10_init 54 = .ok (.getfield 10, 3) := by decide +kernel
theorem dX10_init_57 : decode cX10_init 57 = .ok (.iconst 3, 1) := by decide +kernel
theorem dX10_init_58 : decode cX10_init 58 = .ok (.bipush 40, 2) := by decide +kernel
theorem dX10_init_60 : decode cX10_init 60 = .ok (.iastore, 1) := by decide +kernel
theorem dX10_init_61 : decode cX10_init 61 = .ok (.iconst 0, 1) := by decide +kernel
theorem dX10_init_62 : decode cX10_init 62 = .ok (.istore_n 1, 1) := by decide +kernel
theorem dX10_init_63 : decode cX10_init 63 = .ok (.iload_n 1, 1) := by decide +kernel
theorem dX10_init_64 : decode cX10_init 64 = .ok (.iconst 4, 1) := by decide +kernel
theorem dX10_init_65 : decode cX10_init 65 = .ok (.if_icmp .ge 43, 3) := by decide +kernel
theorem dX10_init_68 : decode cX10_init 68 = .ok (.aload_n 0, 1) := by decide +kernel
theorem dX10_init_69 : decode cX10_init 69 = .ok (.getfield 10, 3) := by decide +kernel
theorem dX10_init_72 : decode cX10_init 72 = .ok (.sipush 266, 3) := by decide +kernel
theorem dX10_init_75 : decode cX10_init 75 = .ok (.iload_n 1, 1) := by decide +kernel
theorem dX10_init_76 : decode cX10_init 76 = .ok (.iadd, 1) := by decide +kernel
theorem dX10_init_77 : decode cX10_init 77 = .ok (.bipush 32, 2) := by decide +kernel
theorem dX10_init_79 : decode cX10_init 79 = .ok (.iastore, 1) := by decide +kernel
theorem dX10_init_80 : decode cX10_init 80 = .ok (.aload_n 0, 1) := by decide +kernel
theorem dX10_init_81 : decode cX10_init 81 = .ok (.getfield 10, 3) := by decide +kernel
theorem dX10_init_84 : decode cX10_init 84 = .ok (.sipush 270, 3) := by decide +kernel
theorem dX10_init_87 : decode cX10_init 87 = .ok (.iload_n 1, 1) := by decide +kernel
theorem dX10_init_88 : decode cX10_init 88 = .ok (.iadd, 1) := by decide +kernel
theorem dX10_init_89 : decode cX10_init 89 = .ok (.iconst 2, 1) := by decide +kernel
theorem dX10_init_90 : decode cX10_init 90 = .ok (.iastore, 1) := by decide +kernel
theorem dX10_init_91 : decode cX10_init 91 = .ok (.aload_n 0, 1) := by decide +kernel
theorem dX10_init_92 : decode cX10_init 92 = .ok (.getfield 10, 3) := by decide +kernel
theorem dX10_init_95 : decode cX10_init 95 = .ok (.sipush 330, 3) := by decide +kernel
theorem dX10_init_98 : decode cX10_init 98 = .ok (.iload_n 1, 1) := by decide +kernel
theorem dX10_init_99 : decode cX10_init 99 = .ok (.iadd, 1) := by decide +kernel
theorem dX10_init_100 : decode cX10_init 100 = .ok (.iconst 1, 1) := by decide +kernel
theorem dX10_init_101 : decode cX10_init 101 = .ok (.iastore, 1) := by decide +kernel
theorem dX10_init_102 : decode cX10_init 102 = .ok (.iinc 1 1, 3) := by decide +kernel
theorem dX10_init_105 : decode cX10_init 105 = .ok (.goto (-42), 3) := by decide +kernel
theorem dX10_init_108 : decode cX10_init 108 = .ok (.iconst 0, 1) := by decide +kernel
theorem dX10_init_109 : decode cX10_init 109 = .ok (.istore_n 1, 1) := by decide +kernel
theorem dX10_init_110 : decode cX10_init 110 = .ok (.iload_n 1, 1) := by decide +kernel
theorem dX10_init_111 : decode cX10_init 111 = .ok (.bipush 24, 2) := by decide +kernel
theorem dX10_init_113 : decode cX10_init 113 = .ok (.if_icmp .ge 14, 3) := by decide +kernel
theorem dX10_init_116 : decode cX10_init 116 = .ok (.aload_n 0, 1) := by decide +kernel
theorem dX10_init_117 : decode cX10_init 117 = .ok (.iload_n 1, 1) := by decide +kernel
theorem dX10_init_118 : decode cX10_init 118 = .ok (.invokevirtual 28, 3) := by decide +kernel
theorem dX10_init_121 : decode cX10_init 121 = .ok (.iinc 1 1, 3) := by decide +kernel
theorem dX10_init_124 : decode cX10_init 124 = .ok (.goto (-14), 3) := by decide +kernel
theorem dX10_init_127 : decode cX10_init 127 = .ok (.return_, 1) := by decide +kernel
def z_M0 : zMem := (fun _ _ _ _ => 0, fun _ _ => 0)
def z_E10 (E : zE) (h0 r0 r1 r2 z cr : Nat) : zE := (E.1, E.2.1, (fun id => if id.1 = 50 then E.2.2.1 id else if id.1 = 11 then h0 else if id.1 = 40 then z else if id.1 = 47 then cr else if id.2.2 = 0 then r0 else if id.2.2 = 1 then r1 else r2), [(11, 0, 0), (24, 0, 0), (24, 0, 1), (24, 0, 2), (40, 0, 0), (47, 0, 0)])
def z_l10 : List zId := [(11, 0, 0), (24, 0, 0), (24, 0, 1), (24, 0, 2), (40, 0, 0), (47, 0, 0)]
theorem z_l10c : ∀ id, id ∈ z_l10 → ∀ id2, id2 ∈ z_succ id → id2 ∈ z_l10 := by decide +kernel
theorem z_l10k : ∀ id, id ∈ z_l10 → ¬ id.1 = 0 ∧ ¬ id.1 = 50 ∧ ¬ id.1 = 99 := by decide +kernel
theorem z_l10j : ∀ id2, id2 ∈ z_l10 → ∀ id, id ∈ z_l10 → z_isJ id.1 = true → id2.1 = id.1 → id2 = id := by decide +kernel
theorem z_E10ok {A : Nat → Prop} {E : zE} {M : zMem} {h0 r0 r1 r2 z cr : Nat} (h : va_D A (z_ws (z_E10 E h0 r0 r1 r2 z cr) M)) : z_okE (z_E10 E h0 r0 r1 r2 z cr) := ⟨z_okI h, z_l10c, z_l10k, z_l10j⟩
/-- the row while it is laid -/
def r_i (a n p : Nat) : Int32 := if p = 2 then nI 20 else if p = 3 then nI 40 else if 266 ≤ p ∧ p < 266 + a then nI 32 else if 270 ≤ p ∧ p < 270 + a then 2 else if 330 ≤ p ∧ p < 330 + a then 1 else if (550 ≤ p ∧ p < 550 + n) ∨ (574 ≤ p ∧ p < 574 + n) ∨ (622 ≤ p ∧ p < 622 + n) ∨ (670 ≤ p ∧ p < 670 + n) then -1 else 0
def r_I (a n : Nat) (M : zMem) : Prop := (∀ p, M.1 24 0 0 p = r_i a n p) ∧ (∀ x y u v, ¬ (x = 24 ∧ y = 0 ∧ u = 0) → M.1 x y u v = 0) ∧ M.2 = fun _ _ => 0
theorem r_i0 (p : Nat) : r_i 4 24 p = r_0 p := by
  unfold r_i r_0
  repeat' split
  all_goals first | rfl | omega
theorem r_I00 : r_I 0 0 (z_up (z_up z_M0 24 0 0 2 (nI 20)) 24 0 0 3 (nI 40)) := by
  refine ⟨fun p => ?_, fun x y u v h => ?_, rfl⟩
  · rw [z_up1, z_up1]
    show (if 24 = 24 ∧ 0 = 0 ∧ 0 = 0 ∧ p = 3 then nI 40 else if 24 = 24 ∧ 0 = 0 ∧ 0 = 0 ∧ p = 2 then nI 20 else 0) = _
    simp only [true_and]
    unfold r_i
    repeat' split
    all_goals first | rfl | omega
  · rw [z_up1, z_up1, if_neg (by omega), if_neg (by omega)]
    rfl
theorem r_Istep {n : Nat} {M : zMem} (hn : n < 4) (h : r_I n 0 M) : r_I (n + 1) 0 (z_up (z_up (z_up M 24 0 0 (266 + n) (nI 32)) 24 0 0 (270 + n) 2) 24 0 0 (330 + n) 1) := by
  refine ⟨fun p => ?_, fun x y u v e => ?_, h.2.2⟩
  · rw [z_up1, z_up1, z_up1, h.1]
    simp only [true_and]
    unfold r_i
    repeat' split
    all_goals first | rfl | omega
  · rw [z_up1, z_up1, z_up1, if_neg (by omega), if_neg (by omega), if_neg (by omega)]
    exact h.2.1 x y u v e
def z_o24 (M N : zMem) : Prop := (∀ a b c d, ¬ (a = 24 ∧ b = 0 ∧ c = 0) → N.1 a b c d = M.1 a b c d) ∧ N.2 = M.2
theorem o24_up {M : zMem} {p : Nat} {x : Int32} : z_o24 M (z_up M 24 0 0 p x) := ⟨fun a b c d e => by rw [z_up1, if_neg (by omega)], rfl⟩
theorem o24_tr {A B C : zMem} (h : z_o24 A B) (h2 : z_o24 B C) : z_o24 A C := ⟨fun a b c d e => (h2.1 a b c d e).trans (h.1 a b c d e), h2.2.trans h.2⟩
theorem o24_it {f : Nat → zMem → zMem} (hf : ∀ i M, z_o24 M (f i M)) {M : zMem} : ∀ n, z_o24 M (z_it f n M)
  | 0 => ⟨fun _ _ _ _ _ => rfl, rfl⟩
  | n + 1 => o24_tr (o24_it hf n) (hf n _)
theorem o24_clears {M : zMem} {t : Nat} : z_o24 M (n_clears M t) := by
  unfold n_clears n_clears0
  have e1 : z_o24 M (z_it (f_cl1 t) 11 M) := o24_it (fun i M => o24_up) 11
  have e2 : z_o24 M (z_it (f_cl2 t) 4 (z_it (f_cl1 t) 11 M)) := o24_tr e1 (o24_it (f := f_cl2 t) (fun i M => o24_up) 4)
  exact o24_tr (o24_tr (o24_tr (o24_tr e2 o24_up) o24_up) o24_up) o24_up
theorem r_Iclr {n : Nat} {M : zMem} (hn : n < 24) (h : r_I 4 n M) : r_I 4 (n + 1) (n_clears M n) := by
  refine ⟨fun p => ?_, fun x y u v e => (o24_clears.1 x y u v e).trans (h.2.1 x y u v e), o24_clears.2.trans h.2.2⟩
  rw [rd_clears hn, h.1]
  unfold r_i
  repeat' split
  all_goals first | rfl | omega
theorem r_Iend {E : zE} {M : zMem} {h0 r0 r1 r2 z cr : Nat} (h : r_I 4 24 M) : z_ws (z_E10 E h0 r0 r1 r2 z cr) M = [(h0, .inr (8, [.ref r0, .ref r1, .ref r2, .int 0, .ref z, .int 0, .int 0, .ref cr])), (r0, .inl (E.2.1 0, 33214, .inl r_0)), (r1, .inl (E.2.1 0, 33214, .inl (fun _ => 0))), (r2, .inl (E.2.1 0, 33214, .inl (fun _ => 0))), (z, .inl (E.2.1 4, 24, .inl (fun _ => 0))), (cr, .inl (E.2.1 1, 221, .inr (.inl (fun _ => 0))))] := by
  show ([(h0, .inr (8, [.ref r0, .ref r1, .ref r2, .int (M.1 11 0 0 3), .ref z, .int (M.1 11 0 0 5), .int (M.1 11 0 0 6), .ref cr])), (r0, .inl (E.2.1 0, 33214, .inl (M.1 24 0 0))), (r1, .inl (E.2.1 0, 33214, .inl (M.1 24 0 1))), (r2, .inl (E.2.1 0, 33214, .inl (M.1 24 0 2))), (z, .inl (E.2.1 4, 24, .inl (M.1 40 0 0))), (cr, .inl (E.2.1 1, 221, .inr (.inl (M.2 47))))] : va_W) = _
  rw [h.2.1 11 0 0 3 (by omega), h.2.1 11 0 0 5 (by omega), h.2.1 11 0 0 6 (by omega), show M.1 24 0 0 = r_0 from funext (fun p => (h.1 p).trans (r_i0 p)), show M.1 24 0 1 = fun _ => 0 from funext (fun p => h.2.1 24 0 1 p (by omega)), show M.1 24 0 2 = fun _ => 0 from funext (fun p => h.2.1 24 0 2 p (by omega)), show M.1 40 0 0 = fun _ => 0 from funext (fun p => h.2.1 40 0 0 p (by omega)), h.2.2]
set_option maxHeartbeats 8000000 in
set_option maxRecDepth 100000 in
theorem c_X10_init (l : Launch) (E : zE) (h0 sz : Nat) : Met l yX10_init (Cond.code yX10_init cX10_init 2 none :: zw) ({ frames := 202, cells := 5, slots := 99887, locals := 13100 }) (va_Pc [.ref h0] (fun U => U.heap.size = sz ∧ va_P E.1 vwCl [(h0, .inr (8, [.null, .null, .null, .int 0, .null, .int 0, .int 0, .null]))] U.heap ∧ z_eA E (va_A [(h0, .inr (8, [.null, .null, .null, .int 0, .null, .int 0, .int 0, .null]))] sz) U ∧ va_D (fun _ => True) [(h0, .inr (8, [.null, .null, .null, .int 0, .null, .int 0, .int 0, .null]))])) (va_Qv (fun _ : Int32 => True) (fun _ t => ∃ r0 r1 r2 z cr : Nat, va_P E.1 vwCl [(h0, .inr (8, [.ref r0, .ref r1, .ref r2, .int 0, .ref z, .int 0, .int 0, .ref cr])), (r0, .inl (E.2.1 0, 33214, .inl r_0)), (r1, .inl (E.2.1 0, 33214, .inl (fun _ => 0))), (r2, .inl (E.2.1 0, 33214, .inl (fun _ => 0))), (z, .inl (E.2.1 4, 24, .inl (fun _ => 0))), (cr, .inl (E.2.1 1, 221, .inr (.inl (fun _ => 0))))] t.heap ∧ va_D (va_A [(h0, .inr (8, [.null, .null, .null, .int 0, .null, .int 0, .int 0, .null]))] sz) [(h0, .inr (8, [.ref r0, .ref r1, .ref r2, .int 0, .ref z, .int 0, .int 0, .ref cr])), (r0, .inl (E.2.1 0, 33214, .inl r_0)), (r1, .inl (E.2.1 0, 33214, .inl (fun _ => 0))), (r2, .inl (E.2.1 0, 33214, .inl (fun _ => 0))), (z, .inl (E.2.1 4, 24, .inl (fun _ => 0))), (cr, .inl (E.2.1 1, 221, .inr (.inl (fun _ => 0))))]) (va_A [(h0, .inr (8, [.null, .null, .null, .int 0, .null, .int 0, .int 0, .null]))] sz)) 5 99887 (va_A [(h0, .inr (8, [.null, .null, .null, .int 0, .null, .int 0, .int 0, .null]))] sz) := by
  refine Met.ofW (cc := cX10_init) (maxL := 2) (ret := none) (by decide) rfl ?_
  intro p e s m args below meth c s₁ B hml hv
  obtain ⟨rfl, hsz, hP, hV, hD0⟩ := hv
  have hx := B.exec
  have hb := B.bytes
  have hr := B.returns
  have hts := atoms_spec (ws := Cond.code yX10_init cX10_init 2 none :: zw) B.pre
  have htz := gz_tail hts
  have hown : s.vm.findClass RX10 = some m.cls := findClass_of_methodNamed B.named
  have hlocks := B.notSynchronized
  have hin : meth.name = "<init>" := (name_of_methodNamed B.named B.method).1
  subst hsz
  have hD := hD0.self (sz := s.heap.size)
  generalize hAe : va_A ([(h0, .inr (8, [.null, .null, .null, .int 0, .null, .int 0, .int 0, .null]))] : va_W) s.heap.size = A at hD hV ⊢
  have hA : ∀ q : Nat, s.heap.size ≤ q → A q := fun q h => by rw [← hAe]; exact Or.inr h
  have hS : va_S A s.heap s.heap [] := va_S.rf
  have hl := lv_entry ([.ref h0]) (n := 2) (Nat.le_of_ble_eq_true rfl)
  rw [lg_entry_eq]
  generalize (lg_sl ([.ref h0]) ++ List.replicate (2 - (lg_sl ([.ref h0])).length) Slot.unset).toArray = ls at hl ⊢
  have hl : lv_has ls 2 [(0, .ref h0)] := hl
  refine lv_aload_n hx hb dX10_init_0 rfl (lv_at hl 0 rfl) ?_
  refine W.objInit hx hb hown (htz (Cond.methodLink RX10 4 objectInit) qw_963) (htz (Cond.instanceMethod objectInit) qw_910) (htz (Cond.code objectInit ⟨#[0xb1]⟩ 1 none) qw_911) rfl (by rw [hml]; exact hl.1) rfl dX10_init_1 (Nat.le_of_ble_eq_true rfl) (Nat.le_of_ble_eq_true rfl) ?_
  refine W.eq (g2 := F0 m 4 ls []) rfl ?_
  refine lv_aload_n hx hb dX10_init_4 rfl (lv_at hl 0 rfl) ?_
  refine lv_ldc (v := 33214) hx hb hown (htz (Cond.constant RX10 3 33214) qw_615) dX10_init_5 ?_
  have hc1 : 0 + 1 ≤ 5 := by decide
  have hs1 : 0 + 33214 ≤ 99887 := by decide
  refine va_newa (atype := .int) hx hb (htz (Cond.arrayClass .int) qw_921) rfl hV.1 hP hD hS hA (n := 33214) (N' := 33214) (a0 := (33214, .inl (fun _ => 0))) (fun cA => rfl) (by decide) (by decide) (by decide) hc1 hs1 dX10_init_7 (fun r0 cA H hK2 hP hD hS => ?_)
  obtain rfl := (va_uniq (k := 0) (cI := E.2.1 0) hK2 rfl)
  have hP : va_P E.1 vwCl [(h0, .inr (8, [.null, .null, .null, .int 0, .null, .int 0, .int 0, .null])), (r0, .inl (E.2.1 0, 33214, .inl (fun _ => 0)))] H := hP
  have hD : va_D A [(h0, .inr (8, [.null, .null, .null, .int 0, .null, .int 0, .int 0, .null])), (r0, .inl (E.2.1 0, 33214, .inl (fun _ => 0)))] := hD
  refine W.widen (k := 1) (n := 33214) (by omega) (by omega) ?_
  refine va_putF (D := E.1) (ci := 8) (v := .ref r0) (ty := .array .int) (C := RX10) (T := TX10) (N := 8) hx hb htz iw_X10 tyX10 tyX10_ok nmX10 hown hV.1 hP hD hS 0 rfl rfl 0 (by decide) (htz (Cond.fieldLink RX10 10 "TagReadersModel" "w" "[I") qw_616) (fun _ h9 => h9) rfl hin rfl (by decide +kernel) rfl rfl (Nat.le_of_ble_eq_true rfl) dX10_init_9 (fun H locs hP hD hS => ?_)
  have hP : va_P E.1 vwCl [(h0, .inr (8, [.ref r0, .null, .null, .int 0, .null, .int 0, .int 0, .null])), (r0, .inl (E.2.1 0, 33214, .inl (fun _ => 0)))] H := hP
  have hD : va_D A [(h0, .inr (8, [.ref r0, .null, .null, .int 0, .null, .int 0, .int 0, .null])), (r0, .inl (E.2.1 0, 33214, .inl (fun _ => 0)))] := hD
  refine lv_aload_n hx hb dX10_init_12 rfl (lv_at hl 0 rfl) ?_
  refine lv_ldc (v := 33214) hx hb hown (htz (Cond.constant RX10 3 33214) qw_615) dX10_init_13 ?_
  have hc1 : 1 + 1 ≤ 5 := by decide
  have hs1 : 33214 + 33214 ≤ 99887 := by decide
  refine va_newa (atype := .int) hx hb (htz (Cond.arrayClass .int) qw_921) rfl hV.1 hP hD hS hA (n := 33214) (N' := 33214) (a0 := (33214, .inl (fun _ => 0))) (fun cA => rfl) (by decide) (by decide) (by decide) hc1 hs1 dX10_init_15 (fun r1 cA H hK2 hP hD hS => ?_)
  obtain rfl := (va_uniq (k := 0) (cI := E.2.1 0) hK2 rfl)
  have hP : va_P E.1 vwCl [(h0, .inr (8, [.ref r0, .null, .null, .int 0, .null, .int 0, .int 0, .null])), (r0, .inl (E.2.1 0, 33214, .inl (fun _ => 0))), (r1, .inl (E.2.1 0, 33214, .inl (fun _ => 0)))] H := hP
  have hD : va_D A [(h0, .inr (8, [.ref r0, .null, .null, .int 0, .null, .int 0, .int 0, .null])), (r0, .inl (E.2.1 0, 33214, .inl (fun _ => 0))), (r1, .inl (E.2.1 0, 33214, .inl (fun _ => 0)))] := hD
  refine W.widen (k := 2) (n := 66428) (by omega) (by omega) ?_
  refine va_putF (D := E.1) (ci := 8) (v := .ref r1) (ty := .array .int) (C := RX10) (T := TX10) (N := 8) hx hb htz iw_X10 tyX10 tyX10_ok nmX10 hown hV.1 hP hD hS 0 rfl rfl 1 (by decide) (htz (Cond.fieldLink RX10 14 "TagReadersModel" "aside" "[I") qw_834) (fun _ h9 => h9) rfl hin rfl (by decide +kernel) rfl rfl (Nat.le_of_ble_eq_true rfl) dX10_init_17 (fun H locs hP hD hS => ?_)
  have hP : va_P E.1 vwCl [(h0, .inr (8, [.ref r0, .ref r1, .null, .int 0, .null, .int 0, .int 0, .null])), (r0, .inl (E.2.1 0, 33214, .inl (fun _ => 0))), (r1, .inl (E.2.1 0, 33214, .inl (fun _ => 0)))] H := hP
  have hD : va_D A [(h0, .inr (8, [.ref r0, .ref r1, .null, .int 0, .null, .int 0, .int 0, .null])), (r0, .inl (E.2.1 0, 33214, .inl (fun _ => 0))), (r1, .inl (E.2.1 0, 33214, .inl (fun _ => 0)))] := hD
  refine lv_aload_n hx hb dX10_init_20 rfl (lv_at hl 0 rfl) ?_
  refine lv_ldc (v := 33214) hx hb hown (htz (Cond.constant RX10 3 33214) qw_615) dX10_init_21 ?_
  have hc1 : 2 + 1 ≤ 5 := by decide
  have hs1 : 66428 + 33214 ≤ 99887 := by decide
  refine va_newa (atype := .int) hx hb (htz (Cond.arrayClass .int) qw_921) rfl hV.1 hP hD hS hA (n := 33214) (N' := 33214) (a0 := (33214, .inl (fun _ => 0))) (fun cA => rfl) (by decide) (by decide) (by decide) hc1 hs1 dX10_init_23 (fun r2 cA H hK2 hP hD hS => ?_)
  obtain rfl := (va_uniq (k := 0) (cI := E.2.1 0) hK2 rfl)
  have hP : va_P E.1 vwCl [(h0, .inr (8, [.ref r0, .ref r1, .null, .int 0, .null, .int 0, .int 0, .null])), (r0, .inl (E.2.1 0, 33214, .inl (fun _ => 0))), (r1, .inl (E.2.1 0, 33214, .inl (fun _ => 0))), (r2, .inl (E.2.1 0, 33214, .inl (fun _ => 0)))] H := hP
  have hD : va_D A [(h0, .inr (8, [.ref r0, .ref r1, .null, .int 0, .null, .int 0, .int 0, .null])), (r0, .inl (E.2.1 0, 33214, .inl (fun _ => 0))), (r1, .inl (E.2.1 0, 33214, .inl (fun _ => 0))), (r2, .inl (E.2.1 0, 33214, .inl (fun _ => 0)))] := hD
  refine W.widen (k := 3) (n := 99642) (by omega) (by omega) ?_
  refine va_putF (D := E.1) (ci := 8) (v := .ref r2) (ty := .array .int) (C := RX10) (T := TX10) (N := 8) hx hb htz iw_X10 tyX10 tyX10_ok nmX10 hown hV.1 hP hD hS 0 rfl rfl 2 (by decide) (htz (Cond.fieldLink RX10 17 "TagReadersModel" "kept" "[I") qw_885) (fun _ h9 => h9) rfl hin rfl (by decide +kernel) rfl rfl (Nat.le_of_ble_eq_true rfl) dX10_init_25 (fun H locs hP hD hS => ?_)
  have hP : va_P E.1 vwCl [(h0, .inr (8, [.ref r0, .ref r1, .ref r2, .int 0, .null, .int 0, .int 0, .null])), (r0, .inl (E.2.1 0, 33214, .inl (fun _ => 0))), (r1, .inl (E.2.1 0, 33214, .inl (fun _ => 0))), (r2, .inl (E.2.1 0, 33214, .inl (fun _ => 0)))] H := hP
  have hD : va_D A [(h0, .inr (8, [.ref r0, .ref r1, .ref r2, .int 0, .null, .int 0, .int 0, .null])), (r0, .inl (E.2.1 0, 33214, .inl (fun _ => 0))), (r1, .inl (E.2.1 0, 33214, .inl (fun _ => 0))), (r2, .inl (E.2.1 0, 33214, .inl (fun _ => 0)))] := hD
  refine lv_aload_n hx hb dX10_init_28 rfl (lv_at hl 0 rfl) ?_
  refine lv_bipush (v := 24) hx hb dX10_init_29 (by decide) ?_
  have hc1 : 3 + 1 ≤ 5 := by decide
  have hs1 : 99642 + 24 ≤ 99887 := by decide
  refine va_newa (atype := .boolean) hx hb (htz (Cond.arrayClass .boolean) qw_964) rfl hV.1 hP hD hS hA (n := 24) (N' := 24) (a0 := (24, .inl (fun _ => 0))) (fun cA => rfl) (by decide) (by decide) (by decide) hc1 hs1 dX10_init_31 (fun z cA H hK2 hP hD hS => ?_)
  obtain rfl := (va_uniqZ (k := 4) (cI := E.2.1 4) hK2 rfl)
  have hP : va_P E.1 vwCl [(h0, .inr (8, [.ref r0, .ref r1, .ref r2, .int 0, .null, .int 0, .int 0, .null])), (r0, .inl (E.2.1 0, 33214, .inl (fun _ => 0))), (r1, .inl (E.2.1 0, 33214, .inl (fun _ => 0))), (r2, .inl (E.2.1 0, 33214, .inl (fun _ => 0))), (z, .inl (E.2.1 4, 24, .inl (fun _ => 0)))] H := hP
  have hD : va_D A [(h0, .inr (8, [.ref r0, .ref r1, .ref r2, .int 0, .null, .int 0, .int 0, .null])), (r0, .inl (E.2.1 0, 33214, .inl (fun _ => 0))), (r1, .inl (E.2.1 0, 33214, .inl (fun _ => 0))), (r2, .inl (E.2.1 0, 33214, .inl (fun _ => 0))), (z, .inl (E.2.1 4, 24, .inl (fun _ => 0)))] := hD
  refine W.widen (k := 4) (n := 99666) (by omega) (by omega) ?_
  refine va_putF (D := E.1) (ci := 8) (v := .ref z) (ty := .array .boolean) (C := RX10) (T := TX10) (N := 8) hx hb htz iw_X10 tyX10 tyX10_ok nmX10 hown hV.1 hP hD hS 0 rfl rfl 4 (by decide) (htz (Cond.fieldLink RX10 20 "TagReadersModel" "isMeant" "[Z") qw_707) (fun _ h9 => h9) rfl hin rfl (by decide +kernel) rfl rfl (Nat.le_of_ble_eq_true rfl) dX10_init_33 (fun H locs hP hD hS => ?_)
  have hP : va_P E.1 vwCl [(h0, .inr (8, [.ref r0, .ref r1, .ref r2, .int 0, .ref z, .int 0, .int 0, .null])), (r0, .inl (E.2.1 0, 33214, .inl (fun _ => 0))), (r1, .inl (E.2.1 0, 33214, .inl (fun _ => 0))), (r2, .inl (E.2.1 0, 33214, .inl (fun _ => 0))), (z, .inl (E.2.1 4, 24, .inl (fun _ => 0)))] H := hP
  have hD : va_D A [(h0, .inr (8, [.ref r0, .ref r1, .ref r2, .int 0, .ref z, .int 0, .int 0, .null])), (r0, .inl (E.2.1 0, 33214, .inl (fun _ => 0))), (r1, .inl (E.2.1 0, 33214, .inl (fun _ => 0))), (r2, .inl (E.2.1 0, 33214, .inl (fun _ => 0))), (z, .inl (E.2.1 4, 24, .inl (fun _ => 0)))] := hD
  refine lv_aload_n hx hb dX10_init_36 rfl (lv_at hl 0 rfl) ?_
  refine lv_sipush (v := 221) hx hb dX10_init_37 (by decide) ?_
  have hc1 : 4 + 1 ≤ 5 := by decide
  have hs1 : 99666 + 221 ≤ 99887 := by decide
  refine va_newa (atype := .long) hx hb (htz (Cond.arrayClass .long) qw_920) rfl hV.1 hP hD hS hA (n := 221) (N' := 221) (a0 := (221, .inr (.inl (fun _ => 0)))) (fun cA => rfl) (by decide) (by decide) (by decide) hc1 hs1 dX10_init_40 (fun cr cA H hK2 hP hD hS => ?_)
  obtain rfl := (va_uniqJ (k := 1) (cI := E.2.1 1) hK2 rfl)
  have hP : va_P E.1 vwCl [(h0, .inr (8, [.ref r0, .ref r1, .ref r2, .int 0, .ref z, .int 0, .int 0, .null])), (r0, .inl (E.2.1 0, 33214, .inl (fun _ => 0))), (r1, .inl (E.2.1 0, 33214, .inl (fun _ => 0))), (r2, .inl (E.2.1 0, 33214, .inl (fun _ => 0))), (z, .inl (E.2.1 4, 24, .inl (fun _ => 0))), (cr, .inl (E.2.1 1, 221, .inr (.inl (fun _ => 0))))] H := hP
  have hD : va_D A [(h0, .inr (8, [.ref r0, .ref r1, .ref r2, .int 0, .ref z, .int 0, .int 0, .null])), (r0, .inl (E.2.1 0, 33214, .inl (fun _ => 0))), (r1, .inl (E.2.1 0, 33214, .inl (fun _ => 0))), (r2, .inl (E.2.1 0, 33214, .inl (fun _ => 0))), (z, .inl (E.2.1 4, 24, .inl (fun _ => 0))), (cr, .inl (E.2.1 1, 221, .inr (.inl (fun _ => 0))))] := hD
  refine W.widen (k := 5) (n := 99887) (by omega) (by omega) ?_
  refine va_putF (D := E.1) (ci := 8) (v := .ref cr) (ty := .array .long) (C := RX10) (T := TX10) (N := 8) hx hb htz iw_X10 tyX10 tyX10_ok nmX10 hown hV.1 hP hD hS 0 rfl rfl 7 (by decide) (htz (Cond.fieldLink RX10 24 "TagReadersModel" "crowds" "[J") qw_841) (fun _ h9 => h9) rfl hin rfl (by decide +kernel) rfl rfl (Nat.le_of_ble_eq_true rfl) dX10_init_42 (fun H locs hP hD hS => ?_)
  have hP : va_P E.1 vwCl [(h0, .inr (8, [.ref r0, .ref r1, .ref r2, .int 0, .ref z, .int 0, .int 0, .ref cr])), (r0, .inl (E.2.1 0, 33214, .inl (fun _ => 0))), (r1, .inl (E.2.1 0, 33214, .inl (fun _ => 0))), (r2, .inl (E.2.1 0, 33214, .inl (fun _ => 0))), (z, .inl (E.2.1 4, 24, .inl (fun _ => 0))), (cr, .inl (E.2.1 1, 221, .inr (.inl (fun _ => 0))))] H := hP
  have hD : va_D A [(h0, .inr (8, [.ref r0, .ref r1, .ref r2, .int 0, .ref z, .int 0, .int 0, .ref cr])), (r0, .inl (E.2.1 0, 33214, .inl (fun _ => 0))), (r1, .inl (E.2.1 0, 33214, .inl (fun _ => 0))), (r2, .inl (E.2.1 0, 33214, .inl (fun _ => 0))), (z, .inl (E.2.1 4, 24, .inl (fun _ => 0))), (cr, .inl (E.2.1 1, 221, .inr (.inl (fun _ => 0))))] := hD
  have hP : va_P E.1 vwCl (z_ws (z_E10 E h0 r0 r1 r2 z cr) z_M0) H := hP
  have hD : va_D A (z_ws (z_E10 E h0 r0 r1 r2 z cr) z_M0) := hD
  have hE : z_okE (z_E10 E h0 r0 r1 r2 z cr) := z_E10ok hD
  have hAz : ∀ q, z_A (z_E10 E h0 r0 r1 r2 z cr) q → A q := z_A_of hD
  have hV2 : z_eA (z_E10 E h0 r0 r1 r2 z cr) A s := z_eA_E hV rfl rfl (fun _ => rfl)
  have hI0 : (24, 0, 0) ∈ (z_E10 E h0 r0 r1 r2 z cr).2.2.2 := List.mem_cons_of_mem _ List.mem_cons_self
  have hI1 : (11, 0, 0) ∈ (z_E10 E h0 r0 r1 r2 z cr).2.2.2 := List.mem_cons_self
  have loop2 : ∀ k n, n + k = 24 → ∀ (M : zMem) (H : Heap) (locs : List Loc) (ls : Array Slot), lv_has ls 2 [(1, .int (nI n)), (0, .ref h0)] → r_I 4 n M → va_P E.1 vwCl (z_ws (z_E10 E h0 r0 r1 r2 z cr) M) H → va_S A s.heap H locs → W p l e (headSpec (Cond.code yX10_init cX10_init 2 none :: zw) { frames := 202, cells := 5, slots := 99887, locals := 13100 }).room s m #[Value.ref h0] below meth c H locs 5 99887 (MQ below (va_Qv (fun _ : Int32 => True) (fun _ t => ∃ r0 r1 r2 z cr : Nat, va_P E.1 vwCl [(h0, .inr (8, [.ref r0, .ref r1, .ref r2, .int 0, .ref z, .int 0, .int 0, .ref cr])), (r0, .inl (E.2.1 0, 33214, .inl r_0)), (r1, .inl (E.2.1 0, 33214, .inl (fun _ => 0))), (r2, .inl (E.2.1 0, 33214, .inl (fun _ => 0))), (z, .inl (E.2.1 4, 24, .inl (fun _ => 0))), (cr, .inl (E.2.1 1, 221, .inr (.inl (fun _ => 0))))] t.heap ∧ va_D A [(h0, .inr (8, [.ref r0, .ref r1, .ref r2, .int 0, .ref z, .int 0, .int 0, .ref cr])), (r0, .inl (E.2.1 0, 33214, .inl r_0)), (r1, .inl (E.2.1 0, 33214, .inl (fun _ => 0))), (r2, .inl (E.2.1 0, 33214, .inl (fun _ => 0))), (z, .inl (E.2.1 4, 24, .inl (fun _ => 0))), (cr, .inl (E.2.1 1, 221, .inr (.inl (fun _ => 0))))]) A) #[Value.ref h0] s 5 99887 A) (F0 m 110 ls []) := by
    intro k
    induction k with
    | zero =>
      intro n hn M H locs ls hl hI hP hS
      obtain rfl : n = 24 := by omega
      refine lv_iload_n hx hb dX10_init_110 rfl (lv_at hl 0 rfl) ?_
      refine lv_bipush (v := 24) hx hb dX10_init_111 (by decide) ?_
      refine lv_icmp_ge (tgt := 127) hx hb dX10_init_113 (by decide) (fun _ => ?_) (fun z => absurd (show (24 : Int32) ≤ nI 24 by decide) z)
      have eW : z_ws (z_E10 E h0 r0 r1 r2 z cr) M = [(h0, .inr (8, [.ref r0, .ref r1, .ref r2, .int 0, .ref z, .int 0, .int 0, .ref cr])), (r0, .inl (E.2.1 0, 33214, .inl r_0)), (r1, .inl (E.2.1 0, 33214, .inl (fun _ => 0))), (r2, .inl (E.2.1 0, 33214, .inl (fun _ => 0))), (z, .inl (E.2.1 4, 24, .inl (fun _ => 0))), (cr, .inl (E.2.1 1, 221, .inr (.inl (fun _ => 0))))] := r_Iend hI
      have hD2 : va_D A (z_ws (z_E10 E h0 r0 r1 r2 z cr) M) := (z_wsD hE M).weaken (fun k q _ h => hAz _ h)
      rw [eW] at hP hD2
      exact W.vret hx hb hr (fun t ht hW => ⟨⟨0, rfl, trivial, r0, r1, r2, z, cr, by rw [ht]; exact hP, hD2⟩, hS.F ht⟩) hS.2.2 dX10_init_127
    | succ k ih =>
      intro n hn M H locs ls hl hI hP hS
      have n24 : n < 24 := by omega
      refine lv_iload_n hx hb dX10_init_110 rfl (lv_at hl 0 rfl) ?_
      refine lv_bipush (v := 24) hx hb dX10_init_111 (by decide) ?_
      refine lv_icmp_ge (tgt := 127) hx hb dX10_init_113 (by decide) (fun z => absurd z (Int32.not_le.mpr (show nI n < nI 24 from nI_lt n24 (by decide)))) (fun _ => ?_)
      refine lv_aload_n hx hb dX10_init_116 rfl (lv_at hl 1 rfl) ?_
      refine lv_iload_n hx hb dX10_init_117 rfl (lv_at hl 0 rfl) ?_
      refine z_cV (E := (z_E10 E h0 r0 r1 r2 z cr)) (M := M) (M2 := n_clears M n) (id := (11, 0, 0)) (as := [.inl (nI n)]) (r := none) (k := 165) (n := 1) (rest := []) (ci := 8) (C := RX10) (T := TX10) (N := 8) hx hb hml hown htz (fun h K hK => s_clears (h := h + 199) n24 hK) qw_657 qw_618 ⟨by decide +kernel, by decide +kernel, by decide +kernel⟩ (Nat.le_of_ble_eq_true rfl) qw_658 qw_659 qw_660 hE hI1 (by decide) (fun v hv => ?_) rfl rfl ⟨_, rfl⟩ hP hS hAz hV2 ⟨Nat.le_of_ble_eq_true rfl, Nat.le_of_ble_eq_true rfl⟩ ⟨Nat.le_of_ble_eq_true rfl, Nat.le_of_ble_eq_true rfl⟩ hl.1 (Nat.zero_le _) dX10_init_118 rfl (fun H locs _ hP _ _ hS => ?_)
      · rw [List.mem_singleton.mp hv]
        trivial
      refine W.eq (g2 := F0 m 121 ls []) rfl ?_
      refine lv_iinc (v := nI (n + 1)) (lv' := [(1, .int (nI (n + 1))), (0, .ref h0)]) hx hb dX10_init_121 hl (k := 0) rfl (by rw [← nI_1]; rfl) (by decide) rfl (fun ls hl => ?_)
      refine lv_goto (tgt := 110) hx hb dX10_init_124 (by decide) ?_
      exact ih (n + 1) (by omega) _ H locs ls hl (r_Iclr n24 hI) hP hS
  have loop1 : ∀ k n, n + k = 4 → ∀ (M : zMem) (H : Heap) (locs : List Loc) (ls : Array Slot), lv_has ls 2 [(1, .int (nI n)), (0, .ref h0)] → r_I n 0 M → va_P E.1 vwCl (z_ws (z_E10 E h0 r0 r1 r2 z cr) M) H → va_S A s.heap H locs → W p l e (headSpec (Cond.code yX10_init cX10_init 2 none :: zw) { frames := 202, cells := 5, slots := 99887, locals := 13100 }).room s m #[Value.ref h0] below meth c H locs 5 99887 (MQ below (va_Qv (fun _ : Int32 => True) (fun _ t => ∃ r0 r1 r2 z cr : Nat, va_P E.1 vwCl [(h0, .inr (8, [.ref r0, .ref r1, .ref r2, .int 0, .ref z, .int 0, .int 0, .ref cr])), (r0, .inl (E.2.1 0, 33214, .inl r_0)), (r1, .inl (E.2.1 0, 33214, .inl (fun _ => 0))), (r2, .inl (E.2.1 0, 33214, .inl (fun _ => 0))), (z, .inl (E.2.1 4, 24, .inl (fun _ => 0))), (cr, .inl (E.2.1 1, 221, .inr (.inl (fun _ => 0))))] t.heap ∧ va_D A [(h0, .inr (8, [.ref r0, .ref r1, .ref r2, .int 0, .ref z, .int 0, .int 0, .ref cr])), (r0, .inl (E.2.1 0, 33214, .inl r_0)), (r1, .inl (E.2.1 0, 33214, .inl (fun _ => 0))), (r2, .inl (E.2.1 0, 33214, .inl (fun _ => 0))), (z, .inl (E.2.1 4, 24, .inl (fun _ => 0))), (cr, .inl (E.2.1 1, 221, .inr (.inl (fun _ => 0))))]) A) #[Value.ref h0] s 5 99887 A) (F0 m 63 ls []) := by
    intro k
    induction k with
    | zero =>
      intro n hn M H locs ls hl hI hP hS
      obtain rfl : n = 4 := by omega
      refine lv_iload_n hx hb dX10_init_63 rfl (lv_at hl 0 rfl) ?_
      refine lv_iconst (v := 4) hx hb dX10_init_64 (by decide) ?_
      refine lv_icmp_ge (tgt := 108) hx hb dX10_init_65 (by decide) (fun _ => ?_) (fun z => absurd (show (4 : Int32) ≤ nI 4 by decide) z)
      refine lv_iconst (v := 0) hx hb dX10_init_108 (by decide) ?_
      refine lv_istore_n (lv' := [(1, .int (nI 0)), (0, .ref h0)]) hx hb dX10_init_109 rfl hl (by decide) rfl (fun ls hl => ?_)
      exact loop2 24 0 (by omega) M H locs ls hl hI hP hS
    | succ k ih =>
      intro n hn M H locs ls hl hI hP hS
      have n4 : n < 4 := by omega
      refine lv_iload_n hx hb dX10_init_63 rfl (lv_at hl 0 rfl) ?_
      refine lv_iconst (v := 4) hx hb dX10_init_64 (by decide) ?_
      refine lv_icmp_ge (tgt := 108) hx hb dX10_init_65 (by decide) (fun z => absurd z (Int32.not_le.mpr (show nI n < nI 4 from nI_lt n4 (by decide)))) (fun _ => ?_)
      refine lv_aload_n hx hb dX10_init_68 rfl (lv_at hl 1 rfl) ?_
      refine va_get (v := .ref r0) (D := E.1) (ci := 8) (C := RX10) (T := TX10) (N := 8) hx hb htz iw_X10 hown hV.1 hP 0 rfl rfl 0 (by decide) (htz (Cond.fieldLink RX10 10 "TagReadersModel" "w" "[I") qw_616) (fun _ h9 => h9) rfl dX10_init_69 ?_
      refine lv_sipush (v := 266) hx hb dX10_init_72 (by decide) ?_
      refine lv_iload_n hx hb dX10_init_75 rfl (lv_at hl 0 rfl) ?_
      refine lv_iadd hx hb dX10_init_76 ?_
      refine lv_bipush (v := 32) hx hb dX10_init_77 (by decide) ?_
      refine z_hist (E := (z_E10 E h0 r0 r1 r2 z cr)) (M := M) (id := (24, 0, 0)) (i := nI (266 + n)) (x := nI 32) (rest := []) hx hb hE hV2 hI0 rfl hP hS hAz (vp_in_nI (show _ < 33214 by omega) (by decide)) dX10_init_79 (by rw [← nI_add]; rfl) (fun H locs hP hS => ?_)
      rw [nI_clamp (show 266 + n < 2 ^ 31 by omega)] at hP
      refine lv_aload_n hx hb dX10_init_80 rfl (lv_at hl 1 rfl) ?_
      refine va_get (v := .ref r0) (D := E.1) (ci := 8) (C := RX10) (T := TX10) (N := 8) hx hb htz iw_X10 hown hV.1 hP 0 rfl rfl 0 (by decide) (htz (Cond.fieldLink RX10 10 "TagReadersModel" "w" "[I") qw_616) (fun _ h9 => h9) rfl dX10_init_81 ?_
      refine lv_sipush (v := 270) hx hb dX10_init_84 (by decide) ?_
      refine lv_iload_n hx hb dX10_init_87 rfl (lv_at hl 0 rfl) ?_
      refine lv_iadd hx hb dX10_init_88 ?_
      refine lv_iconst (v := 2) hx hb dX10_init_89 (by decide) ?_
      refine z_hist (E := (z_E10 E h0 r0 r1 r2 z cr)) (M := (z_up M 24 0 0 (266 + n) (nI 32))) (id := (24, 0, 0)) (i := nI (270 + n)) (x := 2) (rest := []) hx hb hE hV2 hI0 rfl hP hS hAz (vp_in_nI (show _ < 33214 by omega) (by decide)) dX10_init_90 (by rw [← nI_add]; rfl) (fun H locs hP hS => ?_)
      rw [nI_clamp (show 270 + n < 2 ^ 31 by omega)] at hP
      refine lv_aload_n hx hb dX10_init_91 rfl (lv_at hl 1 rfl) ?_
      refine va_get (v := .ref r0) (D := E.1) (ci := 8) (C := RX10) (T := TX10) (N := 8) hx hb htz iw_X10 hown hV.1 hP 0 rfl rfl 0 (by decide) (htz (Cond.fieldLink RX10 10 "TagReadersModel" "w" "[I") qw_616) (fun _ h9 => h9) rfl dX10_init_92 ?_
      refine lv_sipush (v := 330) hx hb dX10_init_95 (by decide) ?_
      refine lv_iload_n hx hb dX10_init_98 rfl (lv_at hl 0 rfl) ?_
      refine lv_iadd hx hb dX10_init_99 ?_
      refine lv_iconst (v := 1) hx hb dX10_init_100 (by decide) ?_
      refine z_hist (E := (z_E10 E h0 r0 r1 r2 z cr)) (M := (z_up (z_up M 24 0 0 (266 + n) (nI 32)) 24 0 0 (270 + n) 2)) (id := (24, 0, 0)) (i := nI (330 + n)) (x := 1) (rest := []) hx hb hE hV2 hI0 rfl hP hS hAz (vp_in_nI (show _ < 33214 by omega) (by decide)) dX10_init_101 (by rw [← nI_add]; rfl) (fun H locs hP hS => ?_)
      rw [nI_clamp (show 330 + n < 2 ^ 31 by omega)] at hP
      refine lv_iinc (v := nI (n + 1)) (lv' := [(1, .int (nI (n + 1))), (0, .ref h0)]) hx hb dX10_init_102 hl (k := 0) rfl (by rw [← nI_1]; rfl) (by decide) rfl (fun ls hl => ?_)
      refine lv_goto (tgt := 63) hx hb dX10_init_105 (by decide) ?_
      exact ih (n + 1) (by omega) _ H locs ls hl (r_Istep n4 hI) hP hS
  refine lv_aload_n hx hb dX10_init_45 rfl (lv_at hl 0 rfl) ?_
  refine va_get (v := .ref r0) (D := E.1) (ci := 8) (C := RX10) (T := TX10) (N := 8) hx hb htz iw_X10 hown hV.1 hP 0 rfl rfl 0 (by decide) (htz (Cond.fieldLink RX10 10 "TagReadersModel" "w" "[I") qw_616) (fun _ h9 => h9) rfl dX10_init_46 ?_
  refine lv_iconst (v := 2) hx hb dX10_init_49 (by decide) ?_
  refine lv_bipush (v := 20) hx hb dX10_init_50 (by decide) ?_
  refine z_hist (E := (z_E10 E h0 r0 r1 r2 z cr)) (M := z_M0) (id := (24, 0, 0)) (i := nI 2) (x := nI 20) (rest := []) hx hb hE hV2 hI0 rfl hP hS hAz (vp_in_nI (show _ < 33214 by omega) (by decide)) dX10_init_52 (rfl) (fun H locs hP hS => ?_)
  rw [nI_clamp (show 2 < 2 ^ 31 by decide)] at hP
  refine lv_aload_n hx hb dX10_init_53 rfl (lv_at hl 0 rfl) ?_
  refine va_get (v := .ref r0) (D := E.1) (ci := 8) (C := RX10) (T := TX10) (N := 8) hx hb htz iw_X10 hown hV.1 hP 0 rfl rfl 0 (by decide) (htz (Cond.fieldLink RX10 10 "TagReadersModel" "w" "[I") qw_616) (fun _ h9 => h9) rfl dX10_init_54 ?_
  refine lv_iconst (v := 3) hx hb dX10_init_57 (by decide) ?_
  refine lv_bipush (v := 40) hx hb dX10_init_58 (by decide) ?_
  refine z_hist (E := (z_E10 E h0 r0 r1 r2 z cr)) (M := (z_up z_M0 24 0 0 2 (nI 20))) (id := (24, 0, 0)) (i := nI 3) (x := nI 40) (rest := []) hx hb hE hV2 hI0 rfl hP hS hAz (vp_in_nI (show _ < 33214 by omega) (by decide)) dX10_init_60 (rfl) (fun H locs hP hS => ?_)
  rw [nI_clamp (show 3 < 2 ^ 31 by decide)] at hP
  refine lv_iconst (v := 0) hx hb dX10_init_61 (by decide) ?_
  refine lv_istore_n (lv' := [(1, .int (nI 0)), (0, .ref h0)]) hx hb dX10_init_62 rfl hl (by decide) rfl (fun ls hl => ?_)
  exact loop1 4 0 (by omega) _ H locs ls hl r_I00 hP hS
