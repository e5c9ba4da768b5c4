/-! walks by hand over the small machine's world: what stands around them, and calls of its methods -/
theorem gz_in {ws : List Cond} (h : ∀ w ∈ ws, w ∈ zw) : GoodIn zw ws := fun w hw => ⟨h w hw, good_of_word (zw_good w (h w hw))⟩
theorem gz_tail {P : Cond → Prop} {c : Cond} {l : List Cond} (h : ∀ w ∈ c :: l, P w) : ∀ w ∈ l, P w := fun w hw => h w (List.mem_cons_of_mem _ hw)
theorem gz_law {c : Cond} (h : c ∈ zw) : GoodIn lw_tbl (c :: zw) := fun w hw => by
  rcases List.mem_cons.mp hw with e | e
  · rw [e]
    exact ⟨zw_tbl _ h, good_of_word (zw_good _ h)⟩
  · exact ⟨zw_tbl _ e, good_of_word (zw_good _ e)⟩
/-- classes, links and static rows, seen from outside the cells of A -/
def z_eA (E : zE) (A : Nat → Prop) (U : State) : Prop := va_K E.1 vwCl (z_tys E) U ∧ (∀ q, q ∈ z_nws → va_Nw (.methodLinkNest q.1 q.2.1 q.2.2.1 q.2.2.2) U) ∧ (va_Z "TagReaders$World" "FIRST_DO" "[I" (.ref (E.2.2.1 (50, 0, 0))) A U U.heap ∧ va_T .int (E.2.2.1 (50, 0, 0)) 8 (fun j => .int (z_sd 0 j)) A U U.heap ∧ va_Z "TagReaders$World" "OTHERS_DO" "[I" (.ref (E.2.2.1 (50, 0, 1))) A U U.heap ∧ va_T .int (E.2.2.1 (50, 0, 1)) 8 (fun j => .int (z_sd 1 j)) A U U.heap) ∧ va_AO "TagReaders$Tag" U ∧ va_AO "TagReaders$Reader" U
theorem z_eA_move {E : zE} {A : Nat → Prop} {s U : State} {H : Heap} {locs : List Loc} (hV : z_eA E A s) (hS : va_S A s.heap H locs) (hU : U.heap = H) (hW : s.WarmedH U.vm) : z_eA E A U := by
  obtain ⟨hK, hN, ⟨f1, f2, f3, f4⟩, o1, o2⟩ := hV
  have hq : ∀ a : Nat, a < s.heap.size → ¬ A a → H[a]? = s.heap[a]? := fun a h1 h2 => hS.2.1 a h1 h2
  refine ⟨va_K.moved hW.alike hK, fun q hq2 => va_Nw.warmM hW (hN q hq2), ?_, va_AO.moved hW.alike o1, va_AO.moved hW.alike o2⟩
  rw [hU]
  exact ⟨(f1.kept hq).moved hW.alike, (f2.kept hq).moved hW.alike, (f3.kept hq).moved hW.alike, (f4.kept hq).moved hW.alike⟩
theorem z_eA_call {E : zE} {A : Nat → Prop} {U : State} {g : JFrame} {mk : MethodId} {a : Array Value} (h : z_eA E A U) : z_eA E A (U.calling g mk a) := by
  obtain ⟨hK, hN, ⟨f1, f2, f3, f4⟩, o1, o2⟩ := h
  exact ⟨va_K.moved (u := U) (U := U.calling g mk a) (Vm.Alike.refl U.vm) hK, fun q hq => va_Nw.same (u := U) (U := U.calling g mk a) rfl rfl (hN q hq), ⟨va_Z.moved (u := U) (U := U.calling g mk a) (Vm.Alike.refl U.vm) f1, va_T.moved (u := U) (U := U.calling g mk a) (Vm.Alike.refl U.vm) f2, va_Z.moved (u := U) (U := U.calling g mk a) (Vm.Alike.refl U.vm) f3, va_T.moved (u := U) (U := U.calling g mk a) (Vm.Alike.refl U.vm) f4⟩, va_AO.moved (u := U) (U := U.calling g mk a) (Vm.Alike.refl U.vm) o1, va_AO.moved (u := U) (U := U.calling g mk a) (Vm.Alike.refl U.vm) o2⟩
theorem z_eA_narrow {E : zE} {A B : Nat → Prop} {U : State} (h : z_eA E A U) (hAB : ∀ q, B q → A q) : z_eA E B U := ⟨h.1, h.2.1, ⟨h.2.2.1.1.narrow hAB, h.2.2.1.2.1.narrow hAB, h.2.2.1.2.2.1.narrow hAB, h.2.2.1.2.2.2.narrow hAB⟩, h.2.2.2⟩
theorem z_eA_env {E : zE} {A : Nat → Prop} {U : State} (h : z_eA E A U) (hA : ∀ q, z_A E q → A q) : z_env E U := ⟨h.1, h.2.1, h.2.2.1.1.narrow hA, h.2.2.1.2.1.narrow hA, h.2.2.1.2.2.1.narrow hA, h.2.2.1.2.2.2.narrow hA⟩
theorem z_eA_inw {E : zE} {A : Nat → Prop} {U : State} (h : z_eA E A U) : z_inw E.1 (z_tys E) U := ⟨⟨h.1, h.2.1⟩, h.2.2.2⟩
theorem z_eA_E {E E2 : zE} {A : Nat → Prop} {U : State} (h : z_eA E A U) (h1 : E2.1 = E.1) (h2 : E2.2.1 = E.2.1) (h3 : ∀ i, E2.2.2.1 (50, 0, i) = E.2.2.1 (50, 0, i)) : z_eA E2 A U := by
  unfold z_eA z_tys at h ⊢
  rw [h1, h2, h3, h3]
  exact h
section ZH
variable {p : Program} {l : Launch} {e : Env} {R : Room} {s : State} {m : MethodId} {args : Array Value} {below : List Frame} {meth : Method} {c : Code} {H : Heap} {locs : List Loc} {Q : State → Prop} {pc : Nat} {jls : Array Slot} {rest st0 : List Value} {cells slots : Nat} {A0 : Nat → Prop}
theorem z_aft {a : Array Value} {E : zE} {K : zK}
    (hr : va_Run p l e R s m args below meth c H locs cells slots 0 0 (F0 m pc jls st0) rest (z_Q E K a) (z_A E)) (hS : va_S A0 s.heap H locs) (hA : ∀ q, z_A E q → A0 q)
    (kk : ∀ (r : Option zV) (M : zMem) (H1 : Heap) (locs1 : List Loc), K r M → z_okr E r → va_P E.1 vwCl (z_ws E M) H1 → H.size ≤ H1.size → (∀ q : Nat, q < H.size → ¬ z_A E q → H1[q]? = H[q]?) → va_S A0 s.heap H1 locs1 → W p l e R s m args below meth c H1 locs1 cells slots Q (F0 m (pc + 3) jls ((r.map (z_c E)).toList ++ rest))) : W p l e R s m args below meth c H locs cells slots Q (F0 m pc jls st0) := by
  intro T hT X
  obtain ⟨v, st₀, t, T', L, h0, X', hL, e1, e2, ⟨r, M, hk, hok, hv, hp, hz⟩, st⟩ := hr T hT X
  cases hv
  obtain ⟨hz1, hz2⟩ := hz
  rw [h0] at hz1 hz2
  have hle : H.size ≤ T'.heap.size := by rw [e1]; exact hz1
  have hun : ∀ q : Nat, q < H.size → ¬ z_A E q → T'.heap[q]? = H[q]? := fun q h1 h2 => by rw [e1]; exact hz2 q h1 h2
  have hS1 : va_S A0 s.heap T'.heap (locs ++ L) := ⟨Nat.le_trans hS.1 hle, fun q h1 h2 => by rw [hun q (Nat.lt_of_lt_of_le h1 hS.1) (fun z => h2 (hA q z))]; exact hS.2.1 q h1 h2, fun q hq => by
    rcases List.mem_append.mp hq with h | h
    · exact hS.2.2 q h
    · exact hA _ (hL q h)⟩
  obtain ⟨t2, a1, b1⟩ := kk r M T'.heap (locs ++ L) hk hok (by rw [e1]; exact hp) hle hun hS1 T' rfl X'
  exact ⟨t2, st t2 a1, b1⟩
/-- a method of the small machine, called upon an object -/
theorem z_cV {cc : ByteArray} {nL : Nat} {own : String} {E : zE} {M M2 : zMem} {id : zId} {as : List zV} {r : Option zV} {k n idx ci N : Nat} {C : String} {T : u_T}
    (hx : p.tables.exec = Jvm.exec) (hb : c.code = cc) (hml : c.maxLocals = nL) (hown : s.vm.findClass own = some m.cls) (hts : ∀ w ∈ zw, w.before args s = true)
    (hto : z_to k (.inr (.inr id) :: as) M r M2)
    (hcode : Cond.code (z_tab k).1 (z_tab k).2.1 (z_tab k).2.2.1 (z_tab k).2.2.2 ∈ zw) (hini : Cond.initialized (z_tab k).1.cls ∈ zw) (hdc : (z_tab k).1.cls ≠ "java/lang/invoke/MethodHandle" ∧ (z_tab k).1.cls ≠ "java/lang/invoke/VarHandle" ∧ (parseMethodDescriptor (z_tab k).1.desc).map (fun d => d.parameters.length) = some n) (hmax : (z_tab k).2.2.1 ≤ 45)
    (hl9 : Cond.methodLink own idx (z_tab k).1 ∈ zw) (hin9 : Cond.instanceMethod (z_tab k).1 ∈ zw) (hsel : Cond.selects C (z_tab k).1 (z_tab k).1 ∈ zw)
    (hE : z_okE E) (hid : id ∈ E.2.2.2) (hk : ¬ id.1 = 0) (has : ∀ v, v ∈ as → z_vok E v) (hlen : as.length = n) (hcl : vwCl[ci]? = some (C, T, N)) (hfs : ∃ fs, z_cont E M id = .inr (ci, fs))
    (hP : va_P E.1 vwCl (z_ws E M) H) (hS : va_S A0 s.heap H locs) (hA : ∀ q, z_A E q → A0 q) (hV : z_eA E A0 s)
    (hR : 201 ≤ R.frames ∧ 13000 ≤ R.locals) (hcs : cells ≤ R.cells ∧ slots ≤ R.slots) (hsize : jls.size = nL) (hcat : (rest.map fun v => v.category).sum ≤ 8) (hd : decode cc pc = .ok (.invokevirtual idx, 3)) (hst : st0 = (as.map (z_c E)).reverse ++ .ref (E.2.2.1 id) :: rest)
    (kk : ∀ (H1 : Heap) (locs1 : List Loc), z_okr E r → va_P E.1 vwCl (z_ws E M2) H1 → H.size ≤ H1.size → (∀ q : Nat, q < H.size → ¬ z_A E q → H1[q]? = H[q]?) → va_S A0 s.heap H1 locs1 → W p l e R s m args below meth c H1 locs1 cells slots Q (F0 m (pc + 3) jls ((r.map (z_c E)).toList ++ rest))) : W p l e R s m args below meth c H locs cells slots Q (F0 m pc jls st0) := by
  have hc0 := hto 0 (fun r2 M3 => r2 = r ∧ M3 = M2) ⟨rfl, rfl⟩
  rw [Nat.zero_add] at hc0
  have hM := z_sound 200 k l E _ M _ hE (fun v hv => (List.mem_cons.mp hv).elim (fun e => by rw [e]; exact Or.inr (Or.inr (Or.inr hid))) (has v)) hc0
  obtain ⟨q0, hq0, hq1⟩ := z_at hid M
  obtain ⟨fs, hfs⟩ := hfs
  rw [hfs] at hq1
  unfold z_Met at hM
  rw [List.map_cons, z_cref hk] at hM
  refine z_aft (va_runV ⟨hx, hb, hml, hown, hts⟩ hM ⟨callB_of (y := (z_tab k).1) (bytes := (z_tab k).2.1) (maxL := (z_tab k).2.2.1) (ret := (z_tab k).2.2.2) (ws' := zw) n hts (zw_call hcode) rfl rfl rfl (hts _ hini) (hts _ hl9) hdc ⟨by show 200 + 1 ≤ R.frames; omega, by show 8 + ((z_tab k).2.2.1 + 11) + 64 * 200 ≤ R.locals; omega⟩, hts _ hin9, hts _ hsel⟩ ⟨z_blind E M _, va_recv hV.1 hP hcl hq1, fun U hU hW => ⟨rfl, by rw [hU]; exact hP, z_eA_env (z_eA_move hV hS hU hW) hA⟩⟩ rfl (by rw [List.length_map]; exact hlen) hsize hst (lv_room hcat) hd ⟨hcs.1, hcs.2⟩) hS hA (fun r2 M3 H1 locs1 hK hok hp1 hle hun hs1 => ?_)
  obtain ⟨rfl, rfl⟩ := hK
  exact kk H1 locs1 hok hp1 hle hun hs1
/-- a static one -/
theorem z_cS {cc : ByteArray} {nL : Nat} {own : String} {E : zE} {M M2 : zMem} {as : List zV} {r : Option zV} {k n idx : Nat}
    (hx : p.tables.exec = Jvm.exec) (hb : c.code = cc) (hml : c.maxLocals = nL) (hown : s.vm.findClass own = some m.cls) (hts : ∀ w ∈ zw, w.before args s = true)
    (hto : z_to k as M r M2)
    (hcode : Cond.code (z_tab k).1 (z_tab k).2.1 (z_tab k).2.2.1 (z_tab k).2.2.2 ∈ zw) (hini : Cond.initialized (z_tab k).1.cls ∈ zw) (hdc : (z_tab k).1.cls ≠ "java/lang/invoke/MethodHandle" ∧ (z_tab k).1.cls ≠ "java/lang/invoke/VarHandle" ∧ (parseMethodDescriptor (z_tab k).1.desc).map (fun d => d.parameters.length) = some n) (hmax : (z_tab k).2.2.1 ≤ 45)
    (hl9 : Cond.methodLink own idx (z_tab k).1 ∈ zw) (hst9 : Cond.static (z_tab k).1 ∈ zw)
    (hE : z_okE E) (has : ∀ v, v ∈ as → z_vok E v) (hlen : as.length = n)
    (hP : va_P E.1 vwCl (z_ws E M) H) (hS : va_S A0 s.heap H locs) (hA : ∀ q, z_A E q → A0 q) (hV : z_eA E A0 s)
    (hR : 201 ≤ R.frames ∧ 13000 ≤ R.locals) (hcs : cells ≤ R.cells ∧ slots ≤ R.slots) (hsize : jls.size = nL) (hcat : (rest.map fun v => v.category).sum ≤ 8) (hd : decode cc pc = .ok (.invokestatic idx, 3)) (hst : st0 = (as.map (z_c E)).reverse ++ rest)
    (kk : ∀ (H1 : Heap) (locs1 : List Loc), z_okr E r → va_P E.1 vwCl (z_ws E M2) H1 → H.size ≤ H1.size → (∀ q : Nat, q < H.size → ¬ z_A E q → H1[q]? = H[q]?) → va_S A0 s.heap H1 locs1 → W p l e R s m args below meth c H1 locs1 cells slots Q (F0 m (pc + 3) jls ((r.map (z_c E)).toList ++ rest))) : W p l e R s m args below meth c H locs cells slots Q (F0 m pc jls st0) := by
  have hc0 := hto 0 (fun r2 M3 => r2 = r ∧ M3 = M2) ⟨rfl, rfl⟩
  rw [Nat.zero_add] at hc0
  have hM := z_sound 200 k l E _ M _ hE has hc0
  unfold z_Met at hM
  refine z_aft (va_runS ⟨hx, hb, hml, hown, hts⟩ hM ⟨callB_of (y := (z_tab k).1) (bytes := (z_tab k).2.1) (maxL := (z_tab k).2.2.1) (ret := (z_tab k).2.2.2) (ws' := zw) n hts (zw_call hcode) rfl rfl rfl (hts _ hini) (hts _ hl9) hdc ⟨by show 200 + 1 ≤ R.frames; omega, by show 8 + ((z_tab k).2.2.1 + 11) + 64 * 200 ≤ R.locals; omega⟩, hts _ hst9⟩ ⟨z_blind E M _, fun U hU hW => ⟨rfl, by rw [hU]; exact hP, z_eA_env (z_eA_move hV hS hU hW) hA⟩⟩ rfl (by rw [List.length_map]; exact hlen) hsize hst (lv_room hcat) hd ⟨hcs.1, hcs.2⟩) hS hA (fun r2 M3 H1 locs1 hK hok hp1 hle hun hs1 => ?_)
  obtain ⟨rfl, rfl⟩ := hK
  exact kk H1 locs1 hok hp1 hle hun hs1
/-- a number put into a row of the small machine's world -/
theorem z_hist {cc : ByteArray} {E : zE} {M : zMem} {id : zId} {i x : Int32}
    (hx : p.tables.exec = Jvm.exec) (hb : c.code = cc) (hE : z_okE E) (hV : z_eA E A0 s) (hid : id ∈ E.2.2.2) (hI : z_isI id.1 = true)
    (hP : va_P E.1 vwCl (z_ws E M) H) (hS : va_S A0 s.heap H locs) (hA : ∀ q, z_A E q → A0 q) (hin : vp_in i (z_len id.1)) (hd : decode cc pc = .ok (.iastore, 1)) (hst : st0 = .int x :: .int i :: .ref (E.2.2.1 id) :: rest)
    (kk : ∀ (H1 : Heap) (locs1 : List Loc), va_P E.1 vwCl (z_ws E (z_up M id.1 id.2.1 id.2.2 i.toNatClampNeg x)) H1 → va_S A0 s.heap H1 locs1 → W p l e R s m args below meth c H1 locs1 cells slots Q (F0 m (pc + 1) jls rest)) : W p l e R s m args below meth c H locs cells slots Q (F0 m pc jls st0) := by
  subst hst
  obtain ⟨hc, g0, g5, g9⟩ := z_contI (E := E) (M := M) hI
  obtain ⟨q0, hq0, hq1⟩ := z_at hid M
  rw [hc] at hq1
  refine va_iast hx hb hV.1 hP ((z_wsD hE M).weaken (fun k q _ h => hA _ h)) hS q0 0 hq1 rfl hin hd (fun H1 locs1 hp1 _ hs1 => ?_)
  have hput := z_put hE (M := M) (M2 := z_up M id.1 id.2.1 id.2.2 i.toNatClampNeg x) hq0 (by rw [(z_contI (E := E) hI).1, z_up_row]) (fun id2 _ hne => z_cont_up hne)
  rw [hput] at hp1
  exact kk H1 locs1 hp1 hs1
end ZH
theorem z_okI {A : Nat → Prop} {E : zE} {M : zMem} (h : va_D A (z_ws E M)) : ∀ (i j : Nat) (a b : zId), E.2.2.2[i]? = some a → E.2.2.2[j]? = some b → E.2.2.1 a = E.2.2.1 b → i = j := fun i j a b ha hb e =>
  h.1 i j (E.2.2.1 a, z_cont E M a) (E.2.2.1 b, z_cont E M b) (by unfold z_ws; rw [List.getElem?_map, ha]; rfl) (by unfold z_ws; rw [List.getElem?_map, hb]; rfl) e
theorem z_A_of {A : Nat → Prop} {E : zE} {M : zMem} (h : va_D A (z_ws E M)) : ∀ q, z_A E q → A q := fun q hq => by
  obtain ⟨id, hid, e⟩ := hq
  obtain ⟨q0, h0, h1⟩ := z_at hid M
  rw [e]
  exact h.2 q0 _ h1
/-- a call that wants less depth -/
theorem z_to80 {k : Nat} {as : List zV} {M M2 : zMem} {r : Option zV} (h : ∀ (h : Nat) (K : zK), K r M2 → z_call (h + 80) k as M K) : z_to k as M r M2 := fun h' K hK => by
  have := h (h' + 120) K hK
  rw [show h' + 120 + 80 = h' + 200 by omega] at this
  exact this
/-- rows that are alike as far as they reach -/
theorem vx_rowJ {D : va_G} {cl : List vw_C} {q n : Nat} {cJ : ClassId} {f g : Nat → Int64} {H : Heap} (h : va_P D cl [(q, .inl (cJ, n, .inr (.inl f)))] H) (hfg : ∀ j, j < n → f j = g j) : va_P D cl [(q, .inl (cJ, n, .inr (.inl g)))] H := fun k x hk => by
  have hk1 : k < 1 := (List.getElem?_eq_some_iff.mp hk).1
  rw [show k = 0 by omega] at hk
  cases hk
  have h1 : H[q]? = some (vp_cell cJ (n, .inr (.inl f))) := h 0 _ rfl
  have e2 : (fun j : Fin n => Value.long (f j.val)) = fun j : Fin n => Value.long (g j.val) := funext (fun j => by rw [hfg j.val j.isLt])
  have e3 : vp_cell cJ (n, .inr (.inl f)) = vp_cell cJ (n, .inr (.inl g)) := congrArg (fun F : Fin n → Value => ({ cls := cJ, slots := Array.ofFn F, vm := .none } : Cell)) e2
  show H[q]? = some (vp_cell cJ (n, .inr (.inl g)))
  rw [h1, e3]
theorem vx_rowI {D : va_G} {cl : List vw_C} {q n : Nat} {cJ : ClassId} {f g : Nat → Int32} {H : Heap} (h : va_at D cl (q, .inl (cJ, n, .inl f)) H) (hfg : ∀ j, j < n → f j = g j) : va_at D cl (q, .inl (cJ, n, .inl g)) H := by
  have h1 : H[q]? = some (vp_cell cJ (n, .inl f)) := h
  have e2 : (fun j : Fin n => Value.int (f j.val)) = fun j : Fin n => Value.int (g j.val) := funext (fun j => by rw [hfg j.val j.isLt])
  have e3 : vp_cell cJ (n, .inl f) = vp_cell cJ (n, .inl g) := congrArg (fun F : Fin n → Value => ({ cls := cJ, slots := Array.ofFn F, vm := .none } : Cell)) e2
  show H[q]? = some (vp_cell cJ (n, .inl g))
  rw [h1, e3]
theorem va_uniqJ {D : va_G} {cl : List vw_C} {tys : List (ClassId × FieldType)} {cA cI : ClassId} {k : Nat} {U : State} (h : va_K D cl (tys ++ [(cA, .long)]) U) (hk : tys[k]? = some (cI, .long)) : cA = cI := by
  have hl : k < tys.length := (List.getElem?_eq_some_iff.mp hk).1
  have h1 := (h.2 k (cI, .long) (by rw [List.getElem?_append_left hl]; exact hk)).2
  have h2 := (h.2 tys.length (cA, .long) (by rw [List.getElem?_append_right (Nat.le_refl _)]; simp)).2
  have h1' : U.vm.findClass ("[" ++ (FieldType.long).toString) = some cI := h1
  have h2' : U.vm.findClass ("[" ++ (FieldType.long).toString) = some cA := h2
  exact Option.some.inj (h2'.symm.trans h1')
theorem va_uniqZ {D : va_G} {cl : List vw_C} {tys : List (ClassId × FieldType)} {cA cI : ClassId} {k : Nat} {U : State} (h : va_K D cl (tys ++ [(cA, .boolean)]) U) (hk : tys[k]? = some (cI, .boolean)) : cA = cI := by
  have hl : k < tys.length := (List.getElem?_eq_some_iff.mp hk).1
  have h1 := (h.2 k (cI, .boolean) (by rw [List.getElem?_append_left hl]; exact hk)).2
  have h2 := (h.2 tys.length (cA, .boolean) (by rw [List.getElem?_append_right (Nat.le_refl _)]; simp)).2
  have h1' : U.vm.findClass ("[" ++ (FieldType.boolean).toString) = some cI := h1
  have h2' : U.vm.findClass ("[" ++ (FieldType.boolean).toString) = some cA := h2
  exact Option.some.inj (h2'.symm.trans h1')
/-- one long row alone -/
theorem z_okJ {D : va_G} {cls : Nat → ClassId} {f : zId → Nat} {kd : Nat} (h : kd = 45 ∨ kd = 46) : z_okE (D, cls, f, [(kd, 0, 0)]) := by
  refine ⟨fun i j a b ha hb _ => ?_, fun id hid id2 h2 => ?_, fun id hid => ?_, fun id2 h2 id hid _ _ => ?_⟩
  · have h1 : i < 1 := (List.getElem?_eq_some_iff.mp ha).1
    have h2 : j < 1 := (List.getElem?_eq_some_iff.mp hb).1
    omega
  · rw [List.mem_singleton.mp hid] at h2
    rcases h with rfl | rfl <;> exact absurd h2 List.not_mem_nil
  · rw [List.mem_singleton.mp hid]
    show ¬ kd = 0 ∧ ¬ kd = 50 ∧ ¬ kd = 99
    omega
  · rw [List.mem_singleton.mp hid, List.mem_singleton.mp h2]
