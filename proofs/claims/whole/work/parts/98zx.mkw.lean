/-! a thought, an image: by hand -/
def z_ext (E E2 : zE) : Prop := E2.1 = E.1 ∧ E2.2.1 = E.2.1 ∧ (∀ i, E2.2.2.1 (50, 0, i) = E.2.2.1 (50, 0, i)) ∧ E2.2.2.1 (10, 0, 0) = E.2.2.1 (10, 0, 0) ∧ E2.2.2.1 (11, 0, 0) = E.2.2.1 (11, 0, 0)
theorem z_ptr1 {a : Nat} : z_ptr 1 a = .ref a := if_pos rfl
theorem z_ptr0 {x : Int32} {a : Nat} (h : x = 0) : z_ptr x a = .null := by
  rw [h]
  exact if_neg (by decide)
theorem ext_rf {E : zE} : z_ext E E := ⟨rfl, rfl, fun _ => rfl, rfl, rfl⟩
/-- what is known of the cells beside what they say; x2, x3: whether a world is kept, whether one is thought -/
def z_wld (E : zE) (x2 x3 : Int32) : Prop := z_okE E ∧ (10, 0, 0) ∈ E.2.2.2 ∧ (11, 0, 0) ∈ E.2.2.2 ∧ (∀ id, id ∈ E.2.2.2 → id.1 = 10 → id = (10, 0, 0)) ∧ (x2 = 0 → ∀ id, id ∈ E.2.2.2 → ¬ id.2.1 = 1) ∧ (¬ x2 = 0 → (9, 1, 0) ∈ E.2.2.2) ∧ (x3 = 0 → ∀ id, id ∈ E.2.2.2 → ¬ id.2.1 = 2) ∧ (¬ x3 = 0 → (9, 2, 0) ∈ E.2.2.2)
theorem w10_9 {E : zE} (hE : z_okE E) (h : (10, 0, 0) ∈ E.2.2.2) : (1, 0, 0) ∈ E.2.2.2 ∧ (9, 0, 0) ∈ E.2.2.2 := ⟨hE.2.1 _ h _ List.mem_cons_self, hE.2.1 _ h _ (List.mem_cons_of_mem _ List.mem_cons_self)⟩
theorem rt_bit {q : Nat → Bool} {j : Nat} (hj : j < 4) : (z_mk q 4 &&& ((1 : Int32) <<< (nI j &&& 31))) = 0 ↔ q j = false := by
  have e : z_mk q 4 = (((((0 : Int32) ||| (bif q 0 then (1 : Int32) <<< (nI 0 &&& 31) else 0)) ||| (bif q 1 then (1 : Int32) <<< (nI 1 &&& 31) else 0)) ||| (bif q 2 then (1 : Int32) <<< (nI 2 &&& 31) else 0)) ||| (bif q 3 then (1 : Int32) <<< (nI 3 &&& 31) else 0)) := rfl
  rw [e]
  rcases (show j = 0 ∨ j = 1 ∨ j = 2 ∨ j = 3 by omega) with rfl | rfl | rfl | rfl <;> cases q 0 <;> cases q 1 <;> cases q 2 <;> cases q 3 <;> decide
section ZG
variable {p : Program} {l : Launch} {e : Env} {R : Room} {s : State} {m : MethodId} {args : Array Value} {below : List Frame} {meth : Method} {c : Code} {H : Heap} {locs : List Loc} {Q : State → Prop} {pc : Nat} {jls : Array Slot} {rest st0 : List Value} {cells slots : Nat} {A0 : Nat → Prop}
theorem z_hget {cc : ByteArray} {own : String} {E : zE} {M : zMem} {id : zId} {ci N k idx : Nat} {C nm ds : String} {fn : Bool} {T : u_T} {fs : List Value} {v : Value}
    (hx : p.tables.exec = Jvm.exec) (hb : c.code = cc) (hown : s.vm.findClass own = some m.cls) (hts : ∀ w ∈ zw, w.before args s = true) (hV : z_eA E A0 s)
    (hcl : vwCl[ci]? = some (C, T, N)) (hT : T k = (C, nm, ds, fn)) (hkN : k < N) (hin : ∀ w ∈ u_ws C T N, w ∈ zw) (hw : Cond.fieldLink own idx C nm ds ∈ zw) (hid : id ∈ E.2.2.2) (hc : z_cont E M id = .inr (ci, fs)) (hv : fs[k]? = some v)
    (hP : va_P E.1 vwCl (z_ws E M) H) (hd : decode cc pc = .ok (.getfield idx, 3)) (hst : st0 = .ref (E.2.2.1 id) :: rest)
    (kk : W p l e R s m args below meth c H locs cells slots Q (F0 m (pc + 3) jls (v :: rest))) : W p l e R s m args below meth c H locs cells slots Q (F0 m pc jls st0) := by
  subst hst
  obtain ⟨q0, hq0, hq1⟩ := z_at hid M
  rw [hc] at hq1
  exact va_get (T := T) hx hb hts hin hown hV.1 hP q0 hq1 hcl k hkN (by rw [hT]; exact hts _ hw) (by rw [hT]; exact fun _ h9 => h9) hv hd kk
end ZG
set_option maxHeartbeats 4000000 in
set_option maxRecDepth 100000 in
theorem z_mkW1 {p : Program} {l : Launch} {e : Env} {R : Room} {s : State} {m : MethodId} {args : Array Value} {below : List Frame} {meth : Method} {c : Code} {H : Heap} {locs : List Loc} {Q : State → Prop} {jls : Array Slot} {A0 : Nat → Prop} {cc : ByteArray} {nL : Nat} {E : zE} {M : zMem} {p0 : Nat}
    (hx : p.tables.exec = Jvm.exec) (hb : c.code = cc) (hml : c.maxLocals = nL) (hown : s.vm.findClass RX9 = some m.cls) (htz : ∀ w ∈ zw, w.before args s = true)
    (hE : z_okE E) (hin10 : (10, 0, 0) ∈ E.2.2.2) (h10 : ∀ id, id ∈ E.2.2.2 → id.1 = 10 → id = (10, 0, 0)) (hfr : ∀ id, id ∈ E.2.2.2 → ¬ id.2.1 = 1) (hp : M.1 10 0 0 2 = 0)
    (hP : va_P E.1 vwCl (z_ws E M) H) (hAz : ∀ q, z_A E q → A0 q) (hS : va_S A0 s.heap H locs) (hA0 : ∀ q : Nat, s.heap.size ≤ q → A0 q) (hV : z_eA E A0 s)
    (hR : 4 ≤ R.frames ∧ 150 ≤ R.locals ∧ 70 ≤ R.cells ∧ 7120 ≤ R.slots) (hl0 : jls[0]? = some (.val (.ref (E.2.2.1 (10, 0, 0))))) (hsize : jls.size = nL)
    (d0 : decode cc p0 = .ok (.aload_n 0, 1)) (d1 : decode cc (p0 + 1) = .ok (.new 16, 3)) (d4 : decode cc (p0 + 1 + 3) = .ok (.dup, 1)) (d5 : decode cc (p0 + 1 + 3 + 1) = .ok (.aload_n 0, 1)) (d6 : decode cc (p0 + 1 + 3 + 1 + 1) = .ok (.getfield 10, 3)) (d9 : decode cc (p0 + 1 + 3 + 1 + 1 + 3) = .ok (.invokespecial 18, 3)) (d12 : decode cc (p0 + 1 + 3 + 1 + 1 + 3 + 3) = .ok (.putfield 227, 3))
    (kk : ∀ (E2 : zE) (H1 : Heap) (locs1 : List Loc), z_ext E E2 → z_okE E2 → E2.2.2.2 = E.2.2.2 ++ z_nid 1 → va_P E2.1 vwCl (z_ws E2 (z_up (z_Mw M 1) 10 0 0 2 1)) H1 → (∀ q, z_A E2 q → A0 q) → va_S A0 s.heap H1 locs1 → W p l e R s m args below meth c H1 locs1 70 7120 Q (F0 m (p0 + 1 + 3 + 1 + 1 + 3 + 3 + 3) jls [])) : W p l e R s m args below meth c H locs 0 0 Q (F0 m p0 jls []) := by
  obtain ⟨q0, hq0, hq1⟩ := z_at hin10 M
  have hqL : q0 < (z_ws E M).length := (List.getElem?_eq_some_iff.mp hq1).1
  have hD : va_D A0 (z_ws E M) := (z_wsD hE M).weaken (fun k q _ h => hAz _ h)
  have hold := fun (h1 qT qR qj ij qc : Nat) (ad : Nat → Nat) (f : Nat → Nat → Nat) => z_old (E := E) (M := M) (h1 := h1) (qT := qT) (qR := qR) (qj := qj) (ij := ij) (qc := qc) (ad := ad) (f := f) (w := 1) (by omega) hfr h10 (fun z => by first | (rw [hp]; decide) | exact absurd z (by decide)) (fun z => by first | (rw [hp]; decide) | exact absurd z (by decide))
  refine lv_aload_n hx hb d0 rfl hl0 ?_
  refine va_new (ci := 6) (fs := [.null, .null, .null, .null, .null, .int 0, .int 0, .int 0, .int 0]) (C := RX8) (T := TX8) (N := 9) hx hb htz iw_X8 tyX8 tyX8_ok hown (htz (Cond.classLink RX9 16 RX8) qw_914) (htz (Cond.instantiable RX8 9) qw_915) (htz (Cond.initialized RX8) qw_124) hV.1 hP hD hS hA0 rfl (fun j hj => by rcases (show j = 0 ∨ j = 1 ∨ j = 2 ∨ j = 3 ∨ j = 4 ∨ j = 5 ∨ j = 6 ∨ j = 7 ∨ j = 8 by omega) with rfl | rfl | rfl | rfl | rfl | rfl | rfl | rfl | rfl <;> rfl) (show 0 + 1 ≤ R.cells by omega) (show 0 + 9 ≤ R.slots by omega) d1 (fun h1 H hP hD hS => ?_)
  refine lv_dup hx hb d4 rfl ?_
  refine lv_aload_n hx hb d5 rfl hl0 ?_
  have he : (z_ws E M ++ [(h1, .inr (6, [.null, .null, .null, .null, .null, .int 0, .int 0, .int 0, .int 0]))])[q0]? = some (E.2.2.1 (10, 0, 0), .inr (7, [.ref (E.2.2.1 (1, 0, 0)), .ref (E.2.2.1 (9, 0, 0)), z_ptr (M.1 10 0 0 2) (E.2.2.1 (9, 1, 0)), z_ptr (M.1 10 0 0 3) (E.2.2.1 (9, 2, 0))])) := by
    rw [List.getElem?_append_left hqL]
    exact hq1
  refine va_get (v := .ref (E.2.2.1 (1, 0, 0))) (D := E.1) (ci := 7) (C := RX9) (T := TX9) (N := 4) hx hb htz iw_X9 hown hV.1 hP q0 he rfl 0 (by decide) (htz (Cond.fieldLink RX9 10 "TagReaders" "chances" "LTagReaders$Chances;") qw_566) (fun _ h9 => h9) rfl d6 ?_
  have hPc := vx_lastP hP
  have hDc := vx_lastD hD
  have hFc := va_free (wc := [(h1, (.inr (6, [.null, .null, .null, .null, .null, .int 0, .int 0, .int 0, .int 0]) : va_E))]) hD hS hA0 [(z_ws E M).length] vx_lastC
  refine va_callv (va_runI (As := [.ref (E.2.2.1 (1, 0, 0))]) (rest := [.ref h1, .ref (E.2.2.1 (10, 0, 0))]) ⟨hx, hb, hml, hown, htz⟩ (c_X8_init l E.1 (z_tys E) (E.2.1 0) (E.2.1 2) (E.2.1 3) 0 2 3 rfl rfl rfl h1 (E.2.2.1 (1, 0, 0)) H.size) (cwI 1 htz gz_X8 rfl rfl rfl (htz (Cond.initialized RX8) qw_124) (htz (Cond.methodLink RX9 18 yX8_init) qw_928) (htz (Cond.instanceMethod yX8_init) qw_929) rfl (by decide +kernel) ⟨show 3 + 1 ≤ R.frames by omega, show 8 + (3 + 11) + 128 ≤ R.locals by omega⟩) ⟨fun a U g mk q => by obtain ⟨q0, q1, qP, qK, qD⟩ := q; exact ⟨q0, q1, qP, ⟨⟨va_K.moved (u := U) (U := U.calling g mk a) (Vm.Alike.refl U.vm) qK.1.1, fun q hq => va_Nw.same (u := U) (U := U.calling g mk a) rfl rfl (qK.1.2 q hq)⟩, va_AO.moved (u := U) (U := U.calling g mk a) (Vm.Alike.refl U.vm) qK.2.1, va_AO.moved (u := U) (U := U.calling g mk a) (Vm.Alike.refl U.vm) qK.2.2⟩, qD⟩, fun U hU hW => ⟨rfl, by rw [hU], by rw [hU]; exact hPc, z_eA_inw (z_eA_move hV hS hU hW), hDc.weaken (fun _ _ _ _ => trivial)⟩⟩ rfl rfl hsize rfl (lv_room (Nat.le_of_ble_eq_true rfl)) d9 ⟨show 0 + 1 + 69 ≤ R.cells by omega, show 0 + 9 + 7111 ≤ R.slots by omega⟩) hS (fun q _ h => hFc q h) hFc (fun u t H1 locs ht hvm hw hB hz1 hk1 hS => ?_)
  obtain ⟨qT, qR, qj, ij, qc, ad, f, hP1, -, hD1⟩ := hB
  rw [ht] at hP1
  obtain ⟨hP, hD⟩ := vx_last hP hD hk1 hFc hP1 hD1
  have eA : (z_w6c E (E.2.2.1 (1, 0, 0)) h1 qT qR qj ij qc ad f ++ z_tgs ad 24 ++ z_rds f (E.2.1 0) 4) = z_w6c E (E.2.2.1 (1, 0, 0)) h1 qT qR qj ij qc ad f ++ (z_tgs ad 24 ++ z_rds f (E.2.1 0) 4) := List.append_assoc _ _ _
  have hP : va_P E.1 vwCl (z_ws E M ++ (z_w6c E (E.2.2.1 (1, 0, 0)) h1 qT qR qj ij qc ad f ++ z_tgs ad 24 ++ z_rds f (E.2.1 0) 4)) H1 := hP
  have hD : va_D A0 (z_ws E M ++ (z_w6c E (E.2.2.1 (1, 0, 0)) h1 qT qR qj ij qc ad f ++ z_tgs ad 24 ++ z_rds f (E.2.1 0) 4)) := hD
  rw [eA] at hP hD
  have hold := hold h1 qT qR qj ij qc ad f
  obtain ⟨hP2, hD2, hE2⟩ := z_grow (A := A0) (w := 1) (by omega) (fun id h id2 h2 => List.mem_append_left _ (hE.2.1 id h id2 h2)) hE.2.2.1 hE.2.2.2 rfl (w10_9 hE hin10).1 hold hP hD
  have hin2 : (10, 0, 0) ∈ (z_grw E h1 qT qR qj ij qc ad f 1).2.2.2 := List.mem_append_left _ hin10
  have hx2 : z_ext E (z_grw E h1 qT qR qj ij qc ad f 1) := ⟨rfl, rfl, fun _ => rfl, rfl, rfl⟩
  have hid2 : (z_grw E h1 qT qR qj ij qc ad f 1).2.2.2 = E.2.2.2 ++ z_nid 1 := rfl
  have hw9 : (z_grw E h1 qT qR qj ij qc ad f 1).2.2.1 (9, 1, 0) = h1 := rfl
  have hM10 : ∀ k, (z_Mw M 1).1 10 0 0 k = M.1 10 0 0 k := fun _ => rfl
  have e1 : (z_grw E h1 qT qR qj ij qc ad f 1).1 = E.1 := rfl
  generalize z_grw E h1 qT qR qj ij qc ad f 1 = E2 at *
  generalize z_Mw M 1 = M2 at *
  obtain ⟨q1, g1, g2⟩ := z_at hin2 M2
  have g2 : (z_ws E2 M2)[q1]? = some (E2.2.2.1 (10, 0, 0), .inr (7, [.ref (E2.2.2.1 (1, 0, 0)), .ref (E2.2.2.1 (9, 0, 0)), z_ptr (M2.1 10 0 0 2) (E2.2.2.1 (9, 1, 0)), z_ptr (M2.1 10 0 0 3) (E2.2.2.1 (9, 2, 0))])) := g2
  rw [← hx2.2.2.2.1]
  refine va_put (T := TX9) (v := .ref h1) (ty := .object "TagReaders$World") (C := RX9) (N := 4) (ci := 7) hx hb htz iw_X9 tyX9 tyX9_ok nmX9 hown hV.1 hP2 hD2 hS q1 g2 rfl 2 (by decide) (htz (Cond.fieldLink RX9 227 "TagReaders" "kept" "LTagReaders$World;") qw_1279) (fun _ h9 => h9) rfl (by decide +kernel) rfl rfl (Nat.le_of_ble_eq_true rfl) d12 (fun H1 locs1 hp1 hd1 hs1 => ?_)
  have hput := z_put hE2 (M := M2) (M2 := z_up M2 10 0 0 2 1) (x := .inr (7, ([.ref (E2.2.2.1 (1, 0, 0)), .ref (E2.2.2.1 (9, 0, 0)), z_ptr (M2.1 10 0 0 2) (E2.2.2.1 (9, 1, 0)), z_ptr (M2.1 10 0 0 3) (E2.2.2.1 (9, 2, 0))] : List Value).set 2 (.ref h1))) g1 (by
    show (Sum.inr (7, [.ref (E2.2.2.1 (1, 0, 0)), .ref (E2.2.2.1 (9, 0, 0)), z_ptr ((z_up M2 10 0 0 2 1).1 10 0 0 2) (E2.2.2.1 (9, 1, 0)), z_ptr ((z_up M2 10 0 0 2 1).1 10 0 0 3) (E2.2.2.1 (9, 2, 0))]) : va_E) = _
    rw [show (z_up M2 10 0 0 2 1).1 10 0 0 2 = 1 from rfl, show (z_up M2 10 0 0 2 1).1 10 0 0 3 = M2.1 10 0 0 3 from rfl, hw9, z_ptr1]
    rfl) (fun id2 _ hne => z_cont_up hne)
  rw [hput] at hp1 hd1
  rw [← e1] at hp1
  exact kk E2 H1 locs1 hx2 hE2 hid2 hp1 (z_A_of hd1) hs1
set_option maxHeartbeats 4000000 in
set_option maxRecDepth 100000 in
theorem z_mkW2 {p : Program} {l : Launch} {e : Env} {R : Room} {s : State} {m : MethodId} {args : Array Value} {below : List Frame} {meth : Method} {c : Code} {H : Heap} {locs : List Loc} {Q : State → Prop} {jls : Array Slot} {A0 : Nat → Prop} {cc : ByteArray} {nL : Nat} {E : zE} {M : zMem} {p0 : Nat}
    (hx : p.tables.exec = Jvm.exec) (hb : c.code = cc) (hml : c.maxLocals = nL) (hown : s.vm.findClass RX9 = some m.cls) (htz : ∀ w ∈ zw, w.before args s = true)
    (hE : z_okE E) (hin10 : (10, 0, 0) ∈ E.2.2.2) (h10 : ∀ id, id ∈ E.2.2.2 → id.1 = 10 → id = (10, 0, 0)) (hfr : ∀ id, id ∈ E.2.2.2 → ¬ id.2.1 = 2) (hp : M.1 10 0 0 3 = 0)
    (hP : va_P E.1 vwCl (z_ws E M) H) (hAz : ∀ q, z_A E q → A0 q) (hS : va_S A0 s.heap H locs) (hA0 : ∀ q : Nat, s.heap.size ≤ q → A0 q) (hV : z_eA E A0 s)
    (hR : 4 ≤ R.frames ∧ 150 ≤ R.locals ∧ 70 ≤ R.cells ∧ 7120 ≤ R.slots) (hl0 : jls[0]? = some (.val (.ref (E.2.2.1 (10, 0, 0))))) (hsize : jls.size = nL)
    (d0 : decode cc p0 = .ok (.aload_n 0, 1)) (d1 : decode cc (p0 + 1) = .ok (.new 16, 3)) (d4 : decode cc (p0 + 1 + 3) = .ok (.dup, 1)) (d5 : decode cc (p0 + 1 + 3 + 1) = .ok (.aload_n 0, 1)) (d6 : decode cc (p0 + 1 + 3 + 1 + 1) = .ok (.getfield 10, 3)) (d9 : decode cc (p0 + 1 + 3 + 1 + 1 + 3) = .ok (.invokespecial 18, 3)) (d12 : decode cc (p0 + 1 + 3 + 1 + 1 + 3 + 3) = .ok (.putfield 170, 3))
    (kk : ∀ (E2 : zE) (H1 : Heap) (locs1 : List Loc), z_ext E E2 → z_okE E2 → E2.2.2.2 = E.2.2.2 ++ z_nid 2 → va_P E2.1 vwCl (z_ws E2 (z_up (z_Mw M 2) 10 0 0 3 1)) H1 → (∀ q, z_A E2 q → A0 q) → va_S A0 s.heap H1 locs1 → W p l e R s m args below meth c H1 locs1 70 7120 Q (F0 m (p0 + 1 + 3 + 1 + 1 + 3 + 3 + 3) jls [])) : W p l e R s m args below meth c H locs 0 0 Q (F0 m p0 jls []) := by
  obtain ⟨q0, hq0, hq1⟩ := z_at hin10 M
  have hqL : q0 < (z_ws E M).length := (List.getElem?_eq_some_iff.mp hq1).1
  have hD : va_D A0 (z_ws E M) := (z_wsD hE M).weaken (fun k q _ h => hAz _ h)
  have hold := fun (h1 qT qR qj ij qc : Nat) (ad : Nat → Nat) (f : Nat → Nat → Nat) => z_old (E := E) (M := M) (h1 := h1) (qT := qT) (qR := qR) (qj := qj) (ij := ij) (qc := qc) (ad := ad) (f := f) (w := 2) (by omega) hfr h10 (fun z => by first | (rw [hp]; decide) | exact absurd z (by decide)) (fun z => by first | (rw [hp]; decide) | exact absurd z (by decide))
  refine lv_aload_n hx hb d0 rfl hl0 ?_
  refine va_new (ci := 6) (fs := [.null, .null, .null, .null, .null, .int 0, .int 0, .int 0, .int 0]) (C := RX8) (T := TX8) (N := 9) hx hb htz iw_X8 tyX8 tyX8_ok hown (htz (Cond.classLink RX9 16 RX8) qw_914) (htz (Cond.instantiable RX8 9) qw_915) (htz (Cond.initialized RX8) qw_124) hV.1 hP hD hS hA0 rfl (fun j hj => by rcases (show j = 0 ∨ j = 1 ∨ j = 2 ∨ j = 3 ∨ j = 4 ∨ j = 5 ∨ j = 6 ∨ j = 7 ∨ j = 8 by omega) with rfl | rfl | rfl | rfl | rfl | rfl | rfl | rfl | rfl <;> rfl) (show 0 + 1 ≤ R.cells by omega) (show 0 + 9 ≤ R.slots by omega) d1 (fun h1 H hP hD hS => ?_)
  refine lv_dup hx hb d4 rfl ?_
  refine lv_aload_n hx hb d5 rfl hl0 ?_
  have he : (z_ws E M ++ [(h1, .inr (6, [.null, .null, .null, .null, .null, .int 0, .int 0, .int 0, .int 0]))])[q0]? = some (E.2.2.1 (10, 0, 0), .inr (7, [.ref (E.2.2.1 (1, 0, 0)), .ref (E.2.2.1 (9, 0, 0)), z_ptr (M.1 10 0 0 2) (E.2.2.1 (9, 1, 0)), z_ptr (M.1 10 0 0 3) (E.2.2.1 (9, 2, 0))])) := by
    rw [List.getElem?_append_left hqL]
    exact hq1
  refine va_get (v := .ref (E.2.2.1 (1, 0, 0))) (D := E.1) (ci := 7) (C := RX9) (T := TX9) (N := 4) hx hb htz iw_X9 hown hV.1 hP q0 he rfl 0 (by decide) (htz (Cond.fieldLink RX9 10 "TagReaders" "chances" "LTagReaders$Chances;") qw_566) (fun _ h9 => h9) rfl d6 ?_
  have hPc := vx_lastP hP
  have hDc := vx_lastD hD
  have hFc := va_free (wc := [(h1, (.inr (6, [.null, .null, .null, .null, .null, .int 0, .int 0, .int 0, .int 0]) : va_E))]) hD hS hA0 [(z_ws E M).length] vx_lastC
  refine va_callv (va_runI (As := [.ref (E.2.2.1 (1, 0, 0))]) (rest := [.ref h1, .ref (E.2.2.1 (10, 0, 0))]) ⟨hx, hb, hml, hown, htz⟩ (c_X8_init l E.1 (z_tys E) (E.2.1 0) (E.2.1 2) (E.2.1 3) 0 2 3 rfl rfl rfl h1 (E.2.2.1 (1, 0, 0)) H.size) (cwI 1 htz gz_X8 rfl rfl rfl (htz (Cond.initialized RX8) qw_124) (htz (Cond.methodLink RX9 18 yX8_init) qw_928) (htz (Cond.instanceMethod yX8_init) qw_929) rfl (by decide +kernel) ⟨show 3 + 1 ≤ R.frames by omega, show 8 + (3 + 11) + 128 ≤ R.locals by omega⟩) ⟨fun a U g mk q => by obtain ⟨q0, q1, qP, qK, qD⟩ := q; exact ⟨q0, q1, qP, ⟨⟨va_K.moved (u := U) (U := U.calling g mk a) (Vm.Alike.refl U.vm) qK.1.1, fun q hq => va_Nw.same (u := U) (U := U.calling g mk a) rfl rfl (qK.1.2 q hq)⟩, va_AO.moved (u := U) (U := U.calling g mk a) (Vm.Alike.refl U.vm) qK.2.1, va_AO.moved (u := U) (U := U.calling g mk a) (Vm.Alike.refl U.vm) qK.2.2⟩, qD⟩, fun U hU hW => ⟨rfl, by rw [hU], by rw [hU]; exact hPc, z_eA_inw (z_eA_move hV hS hU hW), hDc.weaken (fun _ _ _ _ => trivial)⟩⟩ rfl rfl hsize rfl (lv_room (Nat.le_of_ble_eq_true rfl)) d9 ⟨show 0 + 1 + 69 ≤ R.cells by omega, show 0 + 9 + 7111 ≤ R.slots by omega⟩) hS (fun q _ h => hFc q h) hFc (fun u t H1 locs ht hvm hw hB hz1 hk1 hS => ?_)
  obtain ⟨qT, qR, qj, ij, qc, ad, f, hP1, -, hD1⟩ := hB
  rw [ht] at hP1
  obtain ⟨hP, hD⟩ := vx_last hP hD hk1 hFc hP1 hD1
  have eA : (z_w6c E (E.2.2.1 (1, 0, 0)) h1 qT qR qj ij qc ad f ++ z_tgs ad 24 ++ z_rds f (E.2.1 0) 4) = z_w6c E (E.2.2.1 (1, 0, 0)) h1 qT qR qj ij qc ad f ++ (z_tgs ad 24 ++ z_rds f (E.2.1 0) 4) := List.append_assoc _ _ _
  have hP : va_P E.1 vwCl (z_ws E M ++ (z_w6c E (E.2.2.1 (1, 0, 0)) h1 qT qR qj ij qc ad f ++ z_tgs ad 24 ++ z_rds f (E.2.1 0) 4)) H1 := hP
  have hD : va_D A0 (z_ws E M ++ (z_w6c E (E.2.2.1 (1, 0, 0)) h1 qT qR qj ij qc ad f ++ z_tgs ad 24 ++ z_rds f (E.2.1 0) 4)) := hD
  rw [eA] at hP hD
  have hold := hold h1 qT qR qj ij qc ad f
  obtain ⟨hP2, hD2, hE2⟩ := z_grow (A := A0) (w := 2) (by omega) (fun id h id2 h2 => List.mem_append_left _ (hE.2.1 id h id2 h2)) hE.2.2.1 hE.2.2.2 rfl (w10_9 hE hin10).1 hold hP hD
  have hin2 : (10, 0, 0) ∈ (z_grw E h1 qT qR qj ij qc ad f 2).2.2.2 := List.mem_append_left _ hin10
  have hx2 : z_ext E (z_grw E h1 qT qR qj ij qc ad f 2) := ⟨rfl, rfl, fun _ => rfl, rfl, rfl⟩
  have hid2 : (z_grw E h1 qT qR qj ij qc ad f 2).2.2.2 = E.2.2.2 ++ z_nid 2 := rfl
  have hw9 : (z_grw E h1 qT qR qj ij qc ad f 2).2.2.1 (9, 2, 0) = h1 := rfl
  have hM10 : ∀ k, (z_Mw M 2).1 10 0 0 k = M.1 10 0 0 k := fun _ => rfl
  have e1 : (z_grw E h1 qT qR qj ij qc ad f 2).1 = E.1 := rfl
  generalize z_grw E h1 qT qR qj ij qc ad f 2 = E2 at *
  generalize z_Mw M 2 = M2 at *
  obtain ⟨q1, g1, g2⟩ := z_at hin2 M2
  have g2 : (z_ws E2 M2)[q1]? = some (E2.2.2.1 (10, 0, 0), .inr (7, [.ref (E2.2.2.1 (1, 0, 0)), .ref (E2.2.2.1 (9, 0, 0)), z_ptr (M2.1 10 0 0 2) (E2.2.2.1 (9, 1, 0)), z_ptr (M2.1 10 0 0 3) (E2.2.2.1 (9, 2, 0))])) := g2
  rw [← hx2.2.2.2.1]
  refine va_put (T := TX9) (v := .ref h1) (ty := .object "TagReaders$World") (C := RX9) (N := 4) (ci := 7) hx hb htz iw_X9 tyX9 tyX9_ok nmX9 hown hV.1 hP2 hD2 hS q1 g2 rfl 3 (by decide) (htz (Cond.fieldLink RX9 170 "TagReaders" "thought" "LTagReaders$World;") qw_1154) (fun _ h9 => h9) rfl (by decide +kernel) rfl rfl (Nat.le_of_ble_eq_true rfl) d12 (fun H1 locs1 hp1 hd1 hs1 => ?_)
  have hput := z_put hE2 (M := M2) (M2 := z_up M2 10 0 0 3 1) (x := .inr (7, ([.ref (E2.2.2.1 (1, 0, 0)), .ref (E2.2.2.1 (9, 0, 0)), z_ptr (M2.1 10 0 0 2) (E2.2.2.1 (9, 1, 0)), z_ptr (M2.1 10 0 0 3) (E2.2.2.1 (9, 2, 0))] : List Value).set 3 (.ref h1))) g1 (by
    show (Sum.inr (7, [.ref (E2.2.2.1 (1, 0, 0)), .ref (E2.2.2.1 (9, 0, 0)), z_ptr ((z_up M2 10 0 0 3 1).1 10 0 0 2) (E2.2.2.1 (9, 1, 0)), z_ptr ((z_up M2 10 0 0 3 1).1 10 0 0 3) (E2.2.2.1 (9, 2, 0))]) : va_E) = _
    rw [show (z_up M2 10 0 0 3 1).1 10 0 0 3 = 1 from rfl, show (z_up M2 10 0 0 3 1).1 10 0 0 2 = M2.1 10 0 0 2 from rfl, hw9, z_ptr1]
    rfl) (fun id2 _ hne => z_cont_up hne)
  rw [hput] at hp1 hd1
  rw [← e1] at hp1
  exact kk E2 H1 locs1 hx2 hE2 hid2 hp1 (z_A_of hd1) hs1
