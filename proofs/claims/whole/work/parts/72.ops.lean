/-! each instruction: where the small machine goes, the real one goes -/
def z_W (nL : Nat) (pcs : List Nat) (E : zE) (K : zK) (p : Program) (l : Launch) (e : Env) (R : Room) (s : State) (m : MethodId) (args : Array Value) (below : List Frame) (meth : Method) (c : Code) : zP := fun i ls st M =>
  (∀ v, v ∈ ls → z_vok E v) → (∀ v, v ∈ st → z_vok E v) → ∀ (H : Heap) (locs : List Loc) (jls : Array Slot), va_P E.1 vwCl (z_ws E M) H → va_S (z_A E) s.heap H locs → z_has E jls nL ls →
    W p l e R s m args below meth c H locs 0 0 (MQ below (z_Q E K) args s 0 0 (z_A E)) (F0 m (pcs.getD i 0) jls (st.map (z_c E)))
def z_Ctx (b : ByteArray) (nL : Nat) (ret : Option FieldType) (own : String) (h : Nat) (E : zE) (p : Program) (R : Room) (s : State) (m : MethodId) (args : Array Value) (meth : Method) (c : Code) : Prop :=
  p.tables.exec = Jvm.exec ∧ c.code = b ∧ c.maxLocals = nL ∧ s.vm.findClass own = some m.cls ∧ (∀ w ∈ zw, w.before args s = true) ∧ meth.sig.returnType = ret ∧ meth.locks = false ∧ z_okE E ∧ z_env E s ∧ R.frames = h + 1 ∧ R.locals = 64 * (h + 1)
def z_OpOk (tab : Nat → zT) (b : ByteArray) (nL : Nat) (ret : Option FieldType) (own : String) (pcs : List Nat) (i : Nat) (op : zOp) : Prop :=
  ∀ (h : Nat) (O : zO), z_IH tab O h → ∀ (l : Launch) (E : zE) (K : zK) (p : Program) (e : Env) (R : Room) (s : State) (m : MethodId) (args : Array Value) (below : List Frame) (meth : Method) (c : Code), z_Ctx b nL ret own h E p R s m args meth c →
    ∀ P : zP, (∀ i ls st M, P i ls st M → z_W nL pcs E K p l e R s m args below meth c i ls st M) → ∀ ls st M, op O K P i ls st M → z_W nL pcs E K p l e R s m args below meth c i ls st M
theorem z_vcons {E : zE} {v : zV} {st : List zV} (h : z_vok E v) (hs : ∀ v, v ∈ st → z_vok E v) : ∀ u, u ∈ v :: st → z_vok E u := fun u hu => (List.mem_cons.mp hu).elim (fun e => by rw [e]; exact h) (hs u)
theorem z_vtl {E : zE} {v : zV} {st : List zV} (hs : ∀ u, u ∈ v :: st → z_vok E u) : ∀ u, u ∈ st → z_vok E u := fun u hu => hs u (List.mem_cons_of_mem _ hu)
theorem z_vhd {E : zE} {v : zV} {st : List zV} (hs : ∀ u, u ∈ v :: st → z_vok E u) : z_vok E v := hs v List.mem_cons_self
theorem z_live {E : zE} {id : zId} (h : z_vok E (.inr (.inr id))) (h0 : ¬ id.1 = 0) (h5 : ¬ id.1 = 50) (h9 : ¬ id.1 = 99) : id ∈ E.2.2.2 := by
  rcases h with h | h | h | h
  · exact absurd h h0
  · exact absurd h h5
  · exact absurd h h9
  · exact h
theorem z_cref {E : zE} {id : zId} (h0 : ¬ id.1 = 0) : z_c E (.inr (.inr id)) = .ref (E.2.2.1 id) := if_neg h0
theorem z_cnull {E : zE} {id : zId} (h0 : id.1 = 0) : z_c E (.inr (.inr id)) = .null := if_pos h0
section Zops
variable {tab : Nat → zT} {b : ByteArray} {nL : Nat} {ret : Option FieldType} {own : String} {pcs : List Nat} {i pc : Nat}

theorem ok_iload {k : Nat} (hd : decode b pc = .ok (.iload k, 2)) (h0 : pcs.getD i 0 = pc) (h1 : pcs.getD (i + 1) 0 = pc + 2) : z_OpOk tab b nL ret own pcs i (o_iload k) := by
  intro h O IH l E K p e R s m args below meth c C P hP ls st M ho
  obtain ⟨hx, hb, hml, hown, hts, hr, hlk, hE, hV, hRf, hRl⟩ := C
  unfold o_iload at ho
  split at ho
  · rename_i x hx2
    intro q1 q2 H locs jls hp hs hl
    have hn := hP _ _ _ _ ho q1 (z_vcons trivial q2) H locs jls hp hs hl
    rw [h1] at hn
    rw [h0]
    exact lv_iload hx hb hd (z_getv hl hx2 rfl) hn
  · exact ho.elim

theorem ok_iload_n {k : Fin 4} (hd : decode b pc = .ok (.iload_n k, 1)) (h0 : pcs.getD i 0 = pc) (h1 : pcs.getD (i + 1) 0 = pc + 1) : z_OpOk tab b nL ret own pcs i (o_iload k.val) := by
  intro h O IH l E K p e R s m args below meth c C P hP ls st M ho
  obtain ⟨hx, hb, hml, hown, hts, hr, hlk, hE, hV, hRf, hRl⟩ := C
  unfold o_iload at ho
  split at ho
  · rename_i x hx2
    intro q1 q2 H locs jls hp hs hl
    have hn := hP _ _ _ _ ho q1 (z_vcons trivial q2) H locs jls hp hs hl
    rw [h1] at hn
    rw [h0]
    exact lv_iload_n hx hb hd rfl (z_getv hl hx2 rfl) hn
  · exact ho.elim

theorem ok_lload {k : Nat} (hd : decode b pc = .ok (.lload k, 2)) (h0 : pcs.getD i 0 = pc) (h1 : pcs.getD (i + 1) 0 = pc + 2) : z_OpOk tab b nL ret own pcs i (o_lload k) := by
  intro h O IH l E K p e R s m args below meth c C P hP ls st M ho
  obtain ⟨hx, hb, hml, hown, hts, hr, hlk, hE, hV, hRf, hRl⟩ := C
  unfold o_lload at ho
  split at ho
  · exact ho.elim
  · rename_i x hx2
    intro q1 q2 H locs jls hp hs hl
    have hn := hP _ _ _ _ ho q1 (z_vcons trivial q2) H locs jls hp hs hl
    rw [h1] at hn
    rw [h0]
    exact lv_lload hx hb hd (z_getv hl hx2 rfl) hn
  · exact ho.elim

theorem ok_lload_n {k : Fin 4} (hd : decode b pc = .ok (.lload_n k, 1)) (h0 : pcs.getD i 0 = pc) (h1 : pcs.getD (i + 1) 0 = pc + 1) : z_OpOk tab b nL ret own pcs i (o_lload k.val) := by
  intro h O IH l E K p e R s m args below meth c C P hP ls st M ho
  obtain ⟨hx, hb, hml, hown, hts, hr, hlk, hE, hV, hRf, hRl⟩ := C
  unfold o_lload at ho
  split at ho
  · exact ho.elim
  · rename_i x hx2
    intro q1 q2 H locs jls hp hs hl
    have hn := hP _ _ _ _ ho q1 (z_vcons trivial q2) H locs jls hp hs hl
    rw [h1] at hn
    rw [h0]
    exact lv_lload_n hx hb hd rfl (z_getv hl hx2 rfl) hn
  · exact ho.elim

theorem ok_aload {k : Nat} (hd : decode b pc = .ok (.aload k, 2)) (h0 : pcs.getD i 0 = pc) (h1 : pcs.getD (i + 1) 0 = pc + 2) : z_OpOk tab b nL ret own pcs i (o_aload k) := by
  intro h O IH l E K p e R s m args below meth c C P hP ls st M ho
  obtain ⟨hx, hb, hml, hown, hts, hr, hlk, hE, hV, hRf, hRl⟩ := C
  unfold o_aload at ho
  split at ho
  · exact ho.elim
  · exact ho.elim
  · rename_i id hx2
    obtain ⟨h9, ho⟩ := ho
    intro q1 q2 H locs jls hp hs hl
    have hn := hP _ _ _ _ ho q1 (z_vcons (z_vnth q1 hx2) q2) H locs jls hp hs hl
    rw [h1] at hn
    rw [h0]
    have hg := z_getv hl hx2 (by simp [z_isU, h9])
    have e2 : (Sum.inr (Sum.inr id) :: st).map (z_c E) = z_c E (.inr (.inr id)) :: st.map (z_c E) := rfl
    rw [e2] at hn
    by_cases hz : id.1 = 0
    · rw [z_cnull hz] at hn hg
      exact lv_aloadN hx hb hd hg hn
    · rw [z_cref hz] at hn hg
      exact lv_aload hx hb hd hg hn

theorem ok_aload_n {k : Fin 4} (hd : decode b pc = .ok (.aload_n k, 1)) (h0 : pcs.getD i 0 = pc) (h1 : pcs.getD (i + 1) 0 = pc + 1) : z_OpOk tab b nL ret own pcs i (o_aload k.val) := by
  intro h O IH l E K p e R s m args below meth c C P hP ls st M ho
  obtain ⟨hx, hb, hml, hown, hts, hr, hlk, hE, hV, hRf, hRl⟩ := C
  unfold o_aload at ho
  split at ho
  · exact ho.elim
  · exact ho.elim
  · rename_i id hx2
    obtain ⟨h9, ho⟩ := ho
    intro q1 q2 H locs jls hp hs hl
    have hn := hP _ _ _ _ ho q1 (z_vcons (z_vnth q1 hx2) q2) H locs jls hp hs hl
    rw [h1] at hn
    rw [h0]
    have hg := z_getv hl hx2 (by simp [z_isU, h9])
    have e2 : (Sum.inr (Sum.inr id) :: st).map (z_c E) = z_c E (.inr (.inr id)) :: st.map (z_c E) := rfl
    rw [e2] at hn
    by_cases hz : id.1 = 0
    · rw [z_cnull hz] at hn hg
      exact lv_aload_nN hx hb hd rfl hg hn
    · rw [z_cref hz] at hn hg
      exact lv_aload_n hx hb hd rfl hg hn

theorem ok_istore {k : Nat} (hk : k < nL) (hd : decode b pc = .ok (.istore k, 2)) (h0 : pcs.getD i 0 = pc) (h1 : pcs.getD (i + 1) 0 = pc + 2) : z_OpOk tab b nL ret own pcs i (o_istore k) := by
  intro h O IH l E K p e R s m args below meth c C P hP ls st M ho
  obtain ⟨hx, hb, hml, hown, hts, hr, hlk, hE, hV, hRf, hRl⟩ := C
  unfold o_istore at ho
  split at ho
  · rename_i x st2
    intro q1 q2 H locs jls hp hs hl
    rw [h0]
    refine lv_istore hx hb hd hl hk rfl (fun jls2 hl2 => ?_)
    have hn := hP _ _ _ _ ho (z_v1 q1 trivial) (z_vtl q2) H locs jls2 hp hs (z_has1 hl2)
    rw [h1] at hn
    exact hn
  · exact ho.elim

theorem ok_istore_n {k : Fin 4} (hk : k.val < nL) (hd : decode b pc = .ok (.istore_n k, 1)) (h0 : pcs.getD i 0 = pc) (h1 : pcs.getD (i + 1) 0 = pc + 1) : z_OpOk tab b nL ret own pcs i (o_istore k.val) := by
  intro h O IH l E K p e R s m args below meth c C P hP ls st M ho
  obtain ⟨hx, hb, hml, hown, hts, hr, hlk, hE, hV, hRf, hRl⟩ := C
  unfold o_istore at ho
  split at ho
  · rename_i x st2
    intro q1 q2 H locs jls hp hs hl
    rw [h0]
    refine lv_istore_n hx hb hd rfl hl hk rfl (fun jls2 hl2 => ?_)
    have hn := hP _ _ _ _ ho (z_v1 q1 trivial) (z_vtl q2) H locs jls2 hp hs (z_has1 hl2)
    rw [h1] at hn
    exact hn
  · exact ho.elim

theorem ok_lstore {k : Nat} (hk : k + 1 < nL) (hd : decode b pc = .ok (.lstore k, 2)) (h0 : pcs.getD i 0 = pc) (h1 : pcs.getD (i + 1) 0 = pc + 2) : z_OpOk tab b nL ret own pcs i (o_lstore k) := by
  intro h O IH l E K p e R s m args below meth c C P hP ls st M ho
  obtain ⟨hx, hb, hml, hown, hts, hr, hlk, hE, hV, hRf, hRl⟩ := C
  unfold o_lstore at ho
  split at ho
  · rename_i x st2
    intro q1 q2 H locs jls hp hs hl
    rw [h0]
    refine lv_lstore hx hb hd hl hk rfl (fun jls2 hl2 => ?_)
    have hn := hP _ _ _ _ ho (z_v2 q1 trivial) (z_vtl q2) H locs jls2 hp hs (z_has2 hl2)
    rw [h1] at hn
    exact hn
  · exact ho.elim

theorem ok_lstore_n {k : Fin 4} (hk : k.val + 1 < nL) (hd : decode b pc = .ok (.lstore_n k, 1)) (h0 : pcs.getD i 0 = pc) (h1 : pcs.getD (i + 1) 0 = pc + 1) : z_OpOk tab b nL ret own pcs i (o_lstore k.val) := by
  intro h O IH l E K p e R s m args below meth c C P hP ls st M ho
  obtain ⟨hx, hb, hml, hown, hts, hr, hlk, hE, hV, hRf, hRl⟩ := C
  unfold o_lstore at ho
  split at ho
  · rename_i x st2
    intro q1 q2 H locs jls hp hs hl
    rw [h0]
    refine lv_lstore_n hx hb hd rfl hl hk rfl (fun jls2 hl2 => ?_)
    have hn := hP _ _ _ _ ho (z_v2 q1 trivial) (z_vtl q2) H locs jls2 hp hs (z_has2 hl2)
    rw [h1] at hn
    exact hn
  · exact ho.elim

theorem ok_astore {k : Nat} (hk : k < nL) (hd : decode b pc = .ok (.astore k, 2)) (h0 : pcs.getD i 0 = pc) (h1 : pcs.getD (i + 1) 0 = pc + 2) : z_OpOk tab b nL ret own pcs i (o_astore k) := by
  intro h O IH l E K p e R s m args below meth c C P hP ls st M ho
  obtain ⟨hx, hb, hml, hown, hts, hr, hlk, hE, hV, hRf, hRl⟩ := C
  unfold o_astore at ho
  split at ho
  · rename_i id st2
    obtain ⟨h9, ho⟩ := ho
    intro q1 q2 H locs jls hp hs hl
    rw [h0]
    have e2 : (Sum.inr (Sum.inr id) :: st2).map (z_c E) = z_c E (.inr (.inr id)) :: st2.map (z_c E) := rfl
    have hk2 : ∀ jls2, lv_has jls2 nL _ → _ := fun jls2 hl2 => hP _ _ _ _ ho (z_v1 q1 (z_vhd q2)) (z_vtl q2) H locs jls2 hp hs (z_has1 hl2)
    rw [h1] at hk2
    rw [e2]
    by_cases hz : id.1 = 0
    · rw [z_cnull hz] at hk2 ⊢
      exact lv_astoreN hx hb hd hl hk rfl hk2
    · rw [z_cref hz] at hk2 ⊢
      exact lv_astore hx hb hd hl hk rfl hk2
  · exact ho.elim

theorem ok_astore_n {k : Fin 4} (hk : k.val < nL) (hd : decode b pc = .ok (.astore_n k, 1)) (h0 : pcs.getD i 0 = pc) (h1 : pcs.getD (i + 1) 0 = pc + 1) : z_OpOk tab b nL ret own pcs i (o_astore k.val) := by
  intro h O IH l E K p e R s m args below meth c C P hP ls st M ho
  obtain ⟨hx, hb, hml, hown, hts, hr, hlk, hE, hV, hRf, hRl⟩ := C
  unfold o_astore at ho
  split at ho
  · rename_i id st2
    obtain ⟨h9, ho⟩ := ho
    intro q1 q2 H locs jls hp hs hl
    rw [h0]
    have e2 : (Sum.inr (Sum.inr id) :: st2).map (z_c E) = z_c E (.inr (.inr id)) :: st2.map (z_c E) := rfl
    have hk2 : ∀ jls2, lv_has jls2 nL _ → _ := fun jls2 hl2 => hP _ _ _ _ ho (z_v1 q1 (z_vhd q2)) (z_vtl q2) H locs jls2 hp hs (z_has1 hl2)
    rw [h1] at hk2
    rw [e2]
    by_cases hz : id.1 = 0
    · rw [z_cnull hz] at hk2 ⊢
      exact lv_astore_nN hx hb hd rfl hl hk rfl hk2
    · rw [z_cref hz] at hk2 ⊢
      exact lv_astore_n hx hb hd rfl hl hk rfl hk2
  · exact ho.elim

theorem ok_iinc {k : Nat} {n : Int} {v : Int32} (hv : Int32.ofInt n = v) (hk : k < nL) (hd : decode b pc = .ok (.iinc k n, 3)) (h0 : pcs.getD i 0 = pc) (h1 : pcs.getD (i + 1) 0 = pc + 3) : z_OpOk tab b nL ret own pcs i (o_iinc k v) := by
  intro h O IH l E K p e R s m args below meth c C P hP ls st M ho
  obtain ⟨hx, hb, hml, hown, hts, hr, hlk, hE, hV, hRf, hRl⟩ := C
  unfold o_iinc at ho
  split at ho
  · rename_i x hx2
    intro q1 q2 H locs jls hp hs hl
    rw [h0]
    have hg : (k, Value.int x) ∈ z_lv E 0 ls := by
      rw [z_nth_eq] at hx2
      cases hk3 : ls[k]? with
      | none => rw [hk3] at hx2; cases hx2
      | some a =>
        rw [hk3] at hx2
        have hx2 : a = .inl x := hx2
        subst hx2
        exact (z_lv_mem E ls 0 _).mpr ⟨k, _, hk3, rfl, by simp [z_c]⟩
    obtain ⟨k9, hk9⟩ := List.getElem?_of_mem hg
    refine lv_iinc (v := x + v) hx hb hd hl (k := k9) hk9 (by rw [hv]) hk rfl (fun jls2 hl2 => ?_)
    have hn := hP _ _ _ _ ho (z_v1 q1 trivial) q2 H locs jls2 hp hs (z_has1 hl2)
    rw [h1] at hn
    exact hn
  · exact ho.elim

theorem ok_iconst {n : Int} {v : Int32} (hv : Int32.ofInt n = v) (hd : decode b pc = .ok (.iconst n, 1)) (h0 : pcs.getD i 0 = pc) (h1 : pcs.getD (i + 1) 0 = pc + 1) : z_OpOk tab b nL ret own pcs i (o_ic v) := by
  intro h O IH l E K p e R s m args below meth c C P hP ls st M ho
  obtain ⟨hx, hb, hml, hown, hts, hr, hlk, hE, hV, hRf, hRl⟩ := C
  intro q1 q2 H locs jls hp hs hl
  have hn := hP _ _ _ _ ho q1 (z_vcons trivial q2) H locs jls hp hs hl
  rw [h1] at hn
  rw [h0]
  exact lv_iconst hx hb hd hv hn

theorem ok_bipush {n : Int} {v : Int32} (hv : (Int8.ofInt n).toInt32 = v) (hd : decode b pc = .ok (.bipush n, 2)) (h0 : pcs.getD i 0 = pc) (h1 : pcs.getD (i + 1) 0 = pc + 2) : z_OpOk tab b nL ret own pcs i (o_ic v) := by
  intro h O IH l E K p e R s m args below meth c C P hP ls st M ho
  obtain ⟨hx, hb, hml, hown, hts, hr, hlk, hE, hV, hRf, hRl⟩ := C
  intro q1 q2 H locs jls hp hs hl
  have hn := hP _ _ _ _ ho q1 (z_vcons trivial q2) H locs jls hp hs hl
  rw [h1] at hn
  rw [h0]
  exact lv_bipush hx hb hd hv hn

theorem ok_sipush {n : Int} {v : Int32} (hv : (Int16.ofInt n).toInt32 = v) (hd : decode b pc = .ok (.sipush n, 3)) (h0 : pcs.getD i 0 = pc) (h1 : pcs.getD (i + 1) 0 = pc + 3) : z_OpOk tab b nL ret own pcs i (o_ic v) := by
  intro h O IH l E K p e R s m args below meth c C P hP ls st M ho
  obtain ⟨hx, hb, hml, hown, hts, hr, hlk, hE, hV, hRf, hRl⟩ := C
  intro q1 q2 H locs jls hp hs hl
  have hn := hP _ _ _ _ ho q1 (z_vcons trivial q2) H locs jls hp hs hl
  rw [h1] at hn
  rw [h0]
  exact lv_sipush hx hb hd hv hn

theorem ok_ldc {n : Nat} {v : Int32} (hw : Jvm.Cond.constant own n v ∈ zw) (hd : decode b pc = .ok (.ldc n, 2)) (h0 : pcs.getD i 0 = pc) (h1 : pcs.getD (i + 1) 0 = pc + 2) : z_OpOk tab b nL ret own pcs i (o_ic v) := by
  intro h O IH l E K p e R s m args below meth c C P hP ls st M ho
  obtain ⟨hx, hb, hml, hown, hts, hr, hlk, hE, hV, hRf, hRl⟩ := C
  intro q1 q2 H locs jls hp hs hl
  have hn := hP _ _ _ _ ho q1 (z_vcons trivial q2) H locs jls hp hs hl
  rw [h1] at hn
  rw [h0]
  exact lv_ldc hx hb hown (hts _ hw) hd hn

theorem ok_ldcw {n : Nat} {v : Int32} (hw : Jvm.Cond.constant own n v ∈ zw) (hd : decode b pc = .ok (.ldc_w n, 3)) (h0 : pcs.getD i 0 = pc) (h1 : pcs.getD (i + 1) 0 = pc + 3) : z_OpOk tab b nL ret own pcs i (o_ic v) := by
  intro h O IH l E K p e R s m args below meth c C P hP ls st M ho
  obtain ⟨hx, hb, hml, hown, hts, hr, hlk, hE, hV, hRf, hRl⟩ := C
  intro q1 q2 H locs jls hp hs hl
  have hn := hP _ _ _ _ ho q1 (z_vcons trivial q2) H locs jls hp hs hl
  rw [h1] at hn
  rw [h0]
  exact lv_ldcw hx hb hown (hts _ hw) hd hn

theorem ok_lconst {n : Fin 2} {v : Int64} (hv : Int64.ofNat (n : Nat) = v) (hd : decode b pc = .ok (.lconst n, 1)) (h0 : pcs.getD i 0 = pc) (h1 : pcs.getD (i + 1) 0 = pc + 1) : z_OpOk tab b nL ret own pcs i (o_lc v) := by
  intro h O IH l E K p e R s m args below meth c C P hP ls st M ho
  obtain ⟨hx, hb, hml, hown, hts, hr, hlk, hE, hV, hRf, hRl⟩ := C
  intro q1 q2 H locs jls hp hs hl
  have hn := hP _ _ _ _ ho q1 (z_vcons trivial q2) H locs jls hp hs hl
  rw [h1] at hn
  rw [h0]
  exact lv_lconst hx hb hd hv hn

theorem ok_ldc2 {n : Nat} {v : Int64} (hw : Jvm.Cond.constantLong own n v ∈ zw) (hd : decode b pc = .ok (.ldc2_w n, 3)) (h0 : pcs.getD i 0 = pc) (h1 : pcs.getD (i + 1) 0 = pc + 3) : z_OpOk tab b nL ret own pcs i (o_lc v) := by
  intro h O IH l E K p e R s m args below meth c C P hP ls st M ho
  obtain ⟨hx, hb, hml, hown, hts, hr, hlk, hE, hV, hRf, hRl⟩ := C
  intro q1 q2 H locs jls hp hs hl
  have hn := hP _ _ _ _ ho q1 (z_vcons trivial q2) H locs jls hp hs hl
  rw [h1] at hn
  rw [h0]
  exact lv_ldc2 hx hb hown (hts _ hw) hd hn

theorem ok_null (hd : decode b pc = .ok (.aconst_null, 1)) (h0 : pcs.getD i 0 = pc) (h1 : pcs.getD (i + 1) 0 = pc + 1) : z_OpOk tab b nL ret own pcs i (o_null) := by
  intro h O IH l E K p e R s m args below meth c C P hP ls st M ho
  obtain ⟨hx, hb, hml, hown, hts, hr, hlk, hE, hV, hRf, hRl⟩ := C
  intro q1 q2 H locs jls hp hs hl
  have hn := hP _ _ _ _ ho q1 (z_vcons (Or.inl rfl) q2) H locs jls hp hs hl
  rw [h1] at hn
  rw [h0]
  exact lv_null hx hb hd hn

theorem ok_iadd (hd : decode b pc = .ok (.iadd, 1)) (h0 : pcs.getD i 0 = pc) (h1 : pcs.getD (i + 1) 0 = pc + 1) : z_OpOk tab b nL ret own pcs i (o_bin (fun x y => x + y)) := by
  intro h O IH l E K p e R s m args below meth c C P hP ls st M ho
  obtain ⟨hx, hb, hml, hown, hts, hr, hlk, hE, hV, hRf, hRl⟩ := C
  unfold o_bin at ho
  split at ho
  · rename_i y x st2
    intro q1 q2 H locs jls hp hs hl
    have hn := hP _ _ _ _ ho q1 (z_vcons trivial (z_vtl (z_vtl q2))) H locs jls hp hs hl
    rw [h1] at hn
    rw [h0]
    exact lv_iadd hx hb hd hn
  · exact ho.elim

theorem ok_isub (hd : decode b pc = .ok (.isub, 1)) (h0 : pcs.getD i 0 = pc) (h1 : pcs.getD (i + 1) 0 = pc + 1) : z_OpOk tab b nL ret own pcs i (o_bin (fun x y => x - y)) := by
  intro h O IH l E K p e R s m args below meth c C P hP ls st M ho
  obtain ⟨hx, hb, hml, hown, hts, hr, hlk, hE, hV, hRf, hRl⟩ := C
  unfold o_bin at ho
  split at ho
  · rename_i y x st2
    intro q1 q2 H locs jls hp hs hl
    have hn := hP _ _ _ _ ho q1 (z_vcons trivial (z_vtl (z_vtl q2))) H locs jls hp hs hl
    rw [h1] at hn
    rw [h0]
    exact lv_isub hx hb hd hn
  · exact ho.elim

theorem ok_imul (hd : decode b pc = .ok (.imul, 1)) (h0 : pcs.getD i 0 = pc) (h1 : pcs.getD (i + 1) 0 = pc + 1) : z_OpOk tab b nL ret own pcs i (o_bin (fun x y => x * y)) := by
  intro h O IH l E K p e R s m args below meth c C P hP ls st M ho
  obtain ⟨hx, hb, hml, hown, hts, hr, hlk, hE, hV, hRf, hRl⟩ := C
  unfold o_bin at ho
  split at ho
  · rename_i y x st2
    intro q1 q2 H locs jls hp hs hl
    have hn := hP _ _ _ _ ho q1 (z_vcons trivial (z_vtl (z_vtl q2))) H locs jls hp hs hl
    rw [h1] at hn
    rw [h0]
    exact lv_imul hx hb hd hn
  · exact ho.elim

theorem ok_iand (hd : decode b pc = .ok (.iand, 1)) (h0 : pcs.getD i 0 = pc) (h1 : pcs.getD (i + 1) 0 = pc + 1) : z_OpOk tab b nL ret own pcs i (o_bin (fun x y => x &&& y)) := by
  intro h O IH l E K p e R s m args below meth c C P hP ls st M ho
  obtain ⟨hx, hb, hml, hown, hts, hr, hlk, hE, hV, hRf, hRl⟩ := C
  unfold o_bin at ho
  split at ho
  · rename_i y x st2
    intro q1 q2 H locs jls hp hs hl
    have hn := hP _ _ _ _ ho q1 (z_vcons trivial (z_vtl (z_vtl q2))) H locs jls hp hs hl
    rw [h1] at hn
    rw [h0]
    exact lv_iand hx hb hd hn
  · exact ho.elim

theorem ok_ior (hd : decode b pc = .ok (.ior, 1)) (h0 : pcs.getD i 0 = pc) (h1 : pcs.getD (i + 1) 0 = pc + 1) : z_OpOk tab b nL ret own pcs i (o_bin (fun x y => x ||| y)) := by
  intro h O IH l E K p e R s m args below meth c C P hP ls st M ho
  obtain ⟨hx, hb, hml, hown, hts, hr, hlk, hE, hV, hRf, hRl⟩ := C
  unfold o_bin at ho
  split at ho
  · rename_i y x st2
    intro q1 q2 H locs jls hp hs hl
    have hn := hP _ _ _ _ ho q1 (z_vcons trivial (z_vtl (z_vtl q2))) H locs jls hp hs hl
    rw [h1] at hn
    rw [h0]
    exact lv_ior hx hb hd hn
  · exact ho.elim

theorem ok_ixor (hd : decode b pc = .ok (.ixor, 1)) (h0 : pcs.getD i 0 = pc) (h1 : pcs.getD (i + 1) 0 = pc + 1) : z_OpOk tab b nL ret own pcs i (o_bin (fun x y => x ^^^ y)) := by
  intro h O IH l E K p e R s m args below meth c C P hP ls st M ho
  obtain ⟨hx, hb, hml, hown, hts, hr, hlk, hE, hV, hRf, hRl⟩ := C
  unfold o_bin at ho
  split at ho
  · rename_i y x st2
    intro q1 q2 H locs jls hp hs hl
    have hn := hP _ _ _ _ ho q1 (z_vcons trivial (z_vtl (z_vtl q2))) H locs jls hp hs hl
    rw [h1] at hn
    rw [h0]
    exact lv_ixor hx hb hd hn
  · exact ho.elim

theorem ok_ishl (hd : decode b pc = .ok (.ishl, 1)) (h0 : pcs.getD i 0 = pc) (h1 : pcs.getD (i + 1) 0 = pc + 1) : z_OpOk tab b nL ret own pcs i (o_bin (fun x y => x <<< (y &&& 31))) := by
  intro h O IH l E K p e R s m args below meth c C P hP ls st M ho
  obtain ⟨hx, hb, hml, hown, hts, hr, hlk, hE, hV, hRf, hRl⟩ := C
  unfold o_bin at ho
  split at ho
  · rename_i y x st2
    intro q1 q2 H locs jls hp hs hl
    have hn := hP _ _ _ _ ho q1 (z_vcons trivial (z_vtl (z_vtl q2))) H locs jls hp hs hl
    rw [h1] at hn
    rw [h0]
    exact lv_ishl hx hb hd hn
  · exact ho.elim

theorem ok_ishr (hd : decode b pc = .ok (.ishr, 1)) (h0 : pcs.getD i 0 = pc) (h1 : pcs.getD (i + 1) 0 = pc + 1) : z_OpOk tab b nL ret own pcs i (o_bin (fun x y => x >>> (y &&& 31))) := by
  intro h O IH l E K p e R s m args below meth c C P hP ls st M ho
  obtain ⟨hx, hb, hml, hown, hts, hr, hlk, hE, hV, hRf, hRl⟩ := C
  unfold o_bin at ho
  split at ho
  · rename_i y x st2
    intro q1 q2 H locs jls hp hs hl
    have hn := hP _ _ _ _ ho q1 (z_vcons trivial (z_vtl (z_vtl q2))) H locs jls hp hs hl
    rw [h1] at hn
    rw [h0]
    exact lv_ishr hx hb hd hn
  · exact ho.elim

theorem ok_iushr (hd : decode b pc = .ok (.iushr, 1)) (h0 : pcs.getD i 0 = pc) (h1 : pcs.getD (i + 1) 0 = pc + 1) : z_OpOk tab b nL ret own pcs i (o_bin (fun x y => (x.toUInt32 >>> (y.toUInt32 &&& Int32.toUInt32 31)).toInt32)) := by
  intro h O IH l E K p e R s m args below meth c C P hP ls st M ho
  obtain ⟨hx, hb, hml, hown, hts, hr, hlk, hE, hV, hRf, hRl⟩ := C
  unfold o_bin at ho
  split at ho
  · rename_i y x st2
    intro q1 q2 H locs jls hp hs hl
    have hn := hP _ _ _ _ ho q1 (z_vcons trivial (z_vtl (z_vtl q2))) H locs jls hp hs hl
    rw [h1] at hn
    rw [h0]
    exact lv_iushr hx hb hd rfl hn
  · exact ho.elim

theorem ok_idiv (hd : decode b pc = .ok (.idiv, 1)) (h0 : pcs.getD i 0 = pc) (h1 : pcs.getD (i + 1) 0 = pc + 1) : z_OpOk tab b nL ret own pcs i (o_divi (fun x y => x / y)) := by
  intro h O IH l E K p e R s m args below meth c C P hP ls st M ho
  obtain ⟨hx, hb, hml, hown, hts, hr, hlk, hE, hV, hRf, hRl⟩ := C
  unfold o_divi at ho
  split at ho
  · rename_i y x st2
    obtain ⟨hz, ho⟩ := ho
    intro q1 q2 H locs jls hp hs hl
    have hn := hP _ _ _ _ ho q1 (z_vcons trivial (z_vtl (z_vtl q2))) H locs jls hp hs hl
    rw [h1] at hn
    rw [h0]
    exact lv_idiv hx hb hd hz hn
  · exact ho.elim

theorem ok_irem (hd : decode b pc = .ok (.irem, 1)) (h0 : pcs.getD i 0 = pc) (h1 : pcs.getD (i + 1) 0 = pc + 1) : z_OpOk tab b nL ret own pcs i (o_divi (fun x y => x - x / y * y)) := by
  intro h O IH l E K p e R s m args below meth c C P hP ls st M ho
  obtain ⟨hx, hb, hml, hown, hts, hr, hlk, hE, hV, hRf, hRl⟩ := C
  unfold o_divi at ho
  split at ho
  · rename_i y x st2
    obtain ⟨hz, ho⟩ := ho
    intro q1 q2 H locs jls hp hs hl
    have hn := hP _ _ _ _ ho q1 (z_vcons trivial (z_vtl (z_vtl q2))) H locs jls hp hs hl
    rw [h1] at hn
    rw [h0]
    exact lv_irem hx hb hd hz hn
  · exact ho.elim

theorem ok_ladd (hd : decode b pc = .ok (.ladd, 1)) (h0 : pcs.getD i 0 = pc) (h1 : pcs.getD (i + 1) 0 = pc + 1) : z_OpOk tab b nL ret own pcs i (o_lbin (fun x y => x + y)) := by
  intro h O IH l E K p e R s m args below meth c C P hP ls st M ho
  obtain ⟨hx, hb, hml, hown, hts, hr, hlk, hE, hV, hRf, hRl⟩ := C
  unfold o_lbin at ho
  split at ho
  · rename_i y x st2
    intro q1 q2 H locs jls hp hs hl
    have hn := hP _ _ _ _ ho q1 (z_vcons trivial (z_vtl (z_vtl q2))) H locs jls hp hs hl
    rw [h1] at hn
    rw [h0]
    exact lv_ladd hx hb hd hn
  · exact ho.elim

theorem ok_lsub (hd : decode b pc = .ok (.lsub, 1)) (h0 : pcs.getD i 0 = pc) (h1 : pcs.getD (i + 1) 0 = pc + 1) : z_OpOk tab b nL ret own pcs i (o_lbin (fun x y => x - y)) := by
  intro h O IH l E K p e R s m args below meth c C P hP ls st M ho
  obtain ⟨hx, hb, hml, hown, hts, hr, hlk, hE, hV, hRf, hRl⟩ := C
  unfold o_lbin at ho
  split at ho
  · rename_i y x st2
    intro q1 q2 H locs jls hp hs hl
    have hn := hP _ _ _ _ ho q1 (z_vcons trivial (z_vtl (z_vtl q2))) H locs jls hp hs hl
    rw [h1] at hn
    rw [h0]
    exact lv_lsub hx hb hd hn
  · exact ho.elim

theorem ok_lmul (hd : decode b pc = .ok (.lmul, 1)) (h0 : pcs.getD i 0 = pc) (h1 : pcs.getD (i + 1) 0 = pc + 1) : z_OpOk tab b nL ret own pcs i (o_lbin (fun x y => x * y)) := by
  intro h O IH l E K p e R s m args below meth c C P hP ls st M ho
  obtain ⟨hx, hb, hml, hown, hts, hr, hlk, hE, hV, hRf, hRl⟩ := C
  unfold o_lbin at ho
  split at ho
  · rename_i y x st2
    intro q1 q2 H locs jls hp hs hl
    have hn := hP _ _ _ _ ho q1 (z_vcons trivial (z_vtl (z_vtl q2))) H locs jls hp hs hl
    rw [h1] at hn
    rw [h0]
    exact lv_lmul hx hb hd hn
  · exact ho.elim

theorem ok_ldiv (hd : decode b pc = .ok (.ldiv, 1)) (h0 : pcs.getD i 0 = pc) (h1 : pcs.getD (i + 1) 0 = pc + 1) : z_OpOk tab b nL ret own pcs i (o_divl (fun x y => x / y)) := by
  intro h O IH l E K p e R s m args below meth c C P hP ls st M ho
  obtain ⟨hx, hb, hml, hown, hts, hr, hlk, hE, hV, hRf, hRl⟩ := C
  unfold o_divl at ho
  split at ho
  · rename_i y x st2
    obtain ⟨hz, ho⟩ := ho
    intro q1 q2 H locs jls hp hs hl
    have hn := hP _ _ _ _ ho q1 (z_vcons trivial (z_vtl (z_vtl q2))) H locs jls hp hs hl
    rw [h1] at hn
    rw [h0]
    exact lv_ldiv hx hb hd hz hn
  · exact ho.elim

theorem ok_lrem (hd : decode b pc = .ok (.lrem, 1)) (h0 : pcs.getD i 0 = pc) (h1 : pcs.getD (i + 1) 0 = pc + 1) : z_OpOk tab b nL ret own pcs i (o_divl (fun x y => x - x / y * y)) := by
  intro h O IH l E K p e R s m args below meth c C P hP ls st M ho
  obtain ⟨hx, hb, hml, hown, hts, hr, hlk, hE, hV, hRf, hRl⟩ := C
  unfold o_divl at ho
  split at ho
  · rename_i y x st2
    obtain ⟨hz, ho⟩ := ho
    intro q1 q2 H locs jls hp hs hl
    have hn := hP _ _ _ _ ho q1 (z_vcons trivial (z_vtl (z_vtl q2))) H locs jls hp hs hl
    rw [h1] at hn
    rw [h0]
    exact lv_lrem hx hb hd hz hn
  · exact ho.elim

theorem ok_lshl (hd : decode b pc = .ok (.lshl, 1)) (h0 : pcs.getD i 0 = pc) (h1 : pcs.getD (i + 1) 0 = pc + 1) : z_OpOk tab b nL ret own pcs i (o_lsh (fun x y => x <<< (y.toInt64 &&& 63))) := by
  intro h O IH l E K p e R s m args below meth c C P hP ls st M ho
  obtain ⟨hx, hb, hml, hown, hts, hr, hlk, hE, hV, hRf, hRl⟩ := C
  unfold o_lsh at ho
  split at ho
  · rename_i y x st2
    intro q1 q2 H locs jls hp hs hl
    have hn := hP _ _ _ _ ho q1 (z_vcons trivial (z_vtl (z_vtl q2))) H locs jls hp hs hl
    rw [h1] at hn
    rw [h0]
    exact lv_lshl hx hb hd rfl hn
  · exact ho.elim

theorem ok_lcmp (hd : decode b pc = .ok (.lcmp, 1)) (h0 : pcs.getD i 0 = pc) (h1 : pcs.getD (i + 1) 0 = pc + 1) : z_OpOk tab b nL ret own pcs i (o_lcmp) := by
  intro h O IH l E K p e R s m args below meth c C P hP ls st M ho
  obtain ⟨hx, hb, hml, hown, hts, hr, hlk, hE, hV, hRf, hRl⟩ := C
  unfold o_lcmp at ho
  split at ho
  · rename_i y x st2
    intro q1 q2 H locs jls hp hs hl
    have hn := hP _ _ _ _ ho q1 (z_vcons trivial (z_vtl (z_vtl q2))) H locs jls hp hs hl
    rw [h1] at hn
    rw [h0]
    exact W.lcmp hx hb hd hn
  · exact ho.elim

theorem ok_i2l (hd : decode b pc = .ok (.i2l, 1)) (h0 : pcs.getD i 0 = pc) (h1 : pcs.getD (i + 1) 0 = pc + 1) : z_OpOk tab b nL ret own pcs i (o_i2l) := by
  intro h O IH l E K p e R s m args below meth c C P hP ls st M ho
  obtain ⟨hx, hb, hml, hown, hts, hr, hlk, hE, hV, hRf, hRl⟩ := C
  unfold o_i2l at ho
  split at ho
  · rename_i x st2
    intro q1 q2 H locs jls hp hs hl
    have hn := hP _ _ _ _ ho q1 (z_vcons trivial (z_vtl q2)) H locs jls hp hs hl
    rw [h1] at hn
    rw [h0]
    exact lv_i2l hx hb hd rfl hn
  · exact ho.elim

theorem ok_l2i (hd : decode b pc = .ok (.l2i, 1)) (h0 : pcs.getD i 0 = pc) (h1 : pcs.getD (i + 1) 0 = pc + 1) : z_OpOk tab b nL ret own pcs i (o_l2i) := by
  intro h O IH l E K p e R s m args below meth c C P hP ls st M ho
  obtain ⟨hx, hb, hml, hown, hts, hr, hlk, hE, hV, hRf, hRl⟩ := C
  unfold o_l2i at ho
  split at ho
  · rename_i x st2
    intro q1 q2 H locs jls hp hs hl
    have hn := hP _ _ _ _ ho q1 (z_vcons trivial (z_vtl q2)) H locs jls hp hs hl
    rw [h1] at hn
    rw [h0]
    exact lv_l2i hx hb hd rfl hn
  · exact ho.elim

theorem z_cat1 {E : zE} {v : zV} (h : z_isL v = false) : (z_c E v).category = 1 := by
  rw [z_catc]
  rcases v with x | x | id
  · rfl
  · simp [z_isL] at h
  · rfl
theorem z_catL {E : zE} {v : zV} (h : z_isL v = true) : (z_c E v).category = 2 := by
  rw [z_catc]
  exact z_cat2.mpr h

theorem ok_dup (hd : decode b pc = .ok (.dup, 1)) (h0 : pcs.getD i 0 = pc) (h1 : pcs.getD (i + 1) 0 = pc + 1) : z_OpOk tab b nL ret own pcs i (o_dup) := by
  intro h O IH l E K p e R s m args below meth c C P hP ls st M ho
  obtain ⟨hx, hb, hml, hown, hts, hr, hlk, hE, hV, hRf, hRl⟩ := C
  unfold o_dup at ho
  split at ho
  · rename_i v st2
    intro q1 q2 H locs jls hp hs hl
    have hn := hP _ _ _ _ ho.2 q1 (z_vcons (z_vhd q2) q2) H locs jls hp hs hl
    rw [h1] at hn
    rw [h0]
    exact lv_dup hx hb hd (z_cat1 ho.1) hn
  · exact ho.elim

theorem ok_dup2 (hd : decode b pc = .ok (.dup2, 1)) (h0 : pcs.getD i 0 = pc) (h1 : pcs.getD (i + 1) 0 = pc + 1) : z_OpOk tab b nL ret own pcs i (o_dup2) := by
  intro h O IH l E K p e R s m args below meth c C P hP ls st M ho
  obtain ⟨hx, hb, hml, hown, hts, hr, hlk, hE, hV, hRf, hRl⟩ := C
  unfold o_dup2 at ho
  split at ho
  · rename_i v u st2
    intro q1 q2 H locs jls hp hs hl
    have hn := hP _ _ _ _ ho.2.2 q1 (z_vcons (z_vhd q2) (z_vcons (z_vhd (z_vtl q2)) q2)) H locs jls hp hs hl
    rw [h1] at hn
    rw [h0]
    exact lv_dup2_11 hx hb hd (z_cat1 ho.1) (z_cat1 ho.2.1) hn
  · exact ho.elim

theorem ok_dup2l (hd : decode b pc = .ok (.dup2, 1)) (h0 : pcs.getD i 0 = pc) (h1 : pcs.getD (i + 1) 0 = pc + 1) : z_OpOk tab b nL ret own pcs i (o_dup2l) := by
  intro h O IH l E K p e R s m args below meth c C P hP ls st M ho
  obtain ⟨hx, hb, hml, hown, hts, hr, hlk, hE, hV, hRf, hRl⟩ := C
  unfold o_dup2l at ho
  split at ho
  · rename_i v st2
    intro q1 q2 H locs jls hp hs hl
    have hn := hP _ _ _ _ ho.2 q1 (z_vcons (z_vhd q2) q2) H locs jls hp hs hl
    rw [h1] at hn
    rw [h0]
    exact lv_dup2_2 hx hb hd (z_catL ho.1) hn
  · exact ho.elim

theorem ok_pop (hd : decode b pc = .ok (.pop, 1)) (h0 : pcs.getD i 0 = pc) (h1 : pcs.getD (i + 1) 0 = pc + 1) : z_OpOk tab b nL ret own pcs i (o_pop) := by
  intro h O IH l E K p e R s m args below meth c C P hP ls st M ho
  obtain ⟨hx, hb, hml, hown, hts, hr, hlk, hE, hV, hRf, hRl⟩ := C
  unfold o_pop at ho
  split at ho
  · rename_i v st2
    intro q1 q2 H locs jls hp hs hl
    have hn := hP _ _ _ _ ho.2 q1 (z_vtl q2) H locs jls hp hs hl
    rw [h1] at hn
    rw [h0]
    exact lv_pop hx hb hd (z_cat1 ho.1) hn
  · exact ho.elim

theorem ok_if_eq {off : Int} {t tgt : Nat} (ho2 : (pc : Int) + off = (tgt : Int)) (h2 : pcs.getD t 0 = tgt) (hd : decode b pc = .ok (.ifCond .eq off, 3)) (h0 : pcs.getD i 0 = pc) (h1 : pcs.getD (i + 1) 0 = pc + 3) : z_OpOk tab b nL ret own pcs i (o_if (fun x => x = 0) t) := by
  intro h O IH l E K p e R s m args below meth c C P hP ls st M ho
  obtain ⟨hx, hb, hml, hown, hts, hr, hlk, hE, hV, hRf, hRl⟩ := C
  unfold o_if at ho
  split at ho
  · rename_i x st2
    intro q1 q2 H locs jls hp hs hl
    rw [h0]
    refine lv_if_eq (tgt := tgt) hx hb hd (by rw [ho2]) (fun hc => ?_) (fun hc => ?_)
    · have hn := hP _ _ _ _ (ho.1 hc) q1 (z_vtl q2) H locs jls hp hs hl
      rw [h2] at hn
      exact hn
    · have hn := hP _ _ _ _ (ho.2 hc) q1 (z_vtl q2) H locs jls hp hs hl
      rw [h1] at hn
      exact hn
  · exact ho.elim

theorem ok_icmp_eq {off : Int} {t tgt : Nat} (ho2 : (pc : Int) + off = (tgt : Int)) (h2 : pcs.getD t 0 = tgt) (hd : decode b pc = .ok (.if_icmp .eq off, 3)) (h0 : pcs.getD i 0 = pc) (h1 : pcs.getD (i + 1) 0 = pc + 3) : z_OpOk tab b nL ret own pcs i (o_icmp (fun x y => x = y) t) := by
  intro h O IH l E K p e R s m args below meth c C P hP ls st M ho
  obtain ⟨hx, hb, hml, hown, hts, hr, hlk, hE, hV, hRf, hRl⟩ := C
  unfold o_icmp at ho
  split at ho
  · rename_i y x st2
    intro q1 q2 H locs jls hp hs hl
    rw [h0]
    refine lv_icmp_eq (tgt := tgt) hx hb hd (by rw [ho2]) (fun hc => ?_) (fun hc => ?_)
    · have hn := hP _ _ _ _ (ho.1 hc) q1 (z_vtl (z_vtl q2)) H locs jls hp hs hl
      rw [h2] at hn
      exact hn
    · have hn := hP _ _ _ _ (ho.2 hc) q1 (z_vtl (z_vtl q2)) H locs jls hp hs hl
      rw [h1] at hn
      exact hn
  · exact ho.elim

theorem ok_if_ne {off : Int} {t tgt : Nat} (ho2 : (pc : Int) + off = (tgt : Int)) (h2 : pcs.getD t 0 = tgt) (hd : decode b pc = .ok (.ifCond .ne off, 3)) (h0 : pcs.getD i 0 = pc) (h1 : pcs.getD (i + 1) 0 = pc + 3) : z_OpOk tab b nL ret own pcs i (o_if (fun x => x ≠ 0) t) := by
  intro h O IH l E K p e R s m args below meth c C P hP ls st M ho
  obtain ⟨hx, hb, hml, hown, hts, hr, hlk, hE, hV, hRf, hRl⟩ := C
  unfold o_if at ho
  split at ho
  · rename_i x st2
    intro q1 q2 H locs jls hp hs hl
    rw [h0]
    refine lv_if_ne (tgt := tgt) hx hb hd (by rw [ho2]) (fun hc => ?_) (fun hc => ?_)
    · have hn := hP _ _ _ _ (ho.1 hc) q1 (z_vtl q2) H locs jls hp hs hl
      rw [h2] at hn
      exact hn
    · have hn := hP _ _ _ _ (ho.2 (fun q => q hc)) q1 (z_vtl q2) H locs jls hp hs hl
      rw [h1] at hn
      exact hn
  · exact ho.elim

theorem ok_icmp_ne {off : Int} {t tgt : Nat} (ho2 : (pc : Int) + off = (tgt : Int)) (h2 : pcs.getD t 0 = tgt) (hd : decode b pc = .ok (.if_icmp .ne off, 3)) (h0 : pcs.getD i 0 = pc) (h1 : pcs.getD (i + 1) 0 = pc + 3) : z_OpOk tab b nL ret own pcs i (o_icmp (fun x y => x ≠ y) t) := by
  intro h O IH l E K p e R s m args below meth c C P hP ls st M ho
  obtain ⟨hx, hb, hml, hown, hts, hr, hlk, hE, hV, hRf, hRl⟩ := C
  unfold o_icmp at ho
  split at ho
  · rename_i y x st2
    intro q1 q2 H locs jls hp hs hl
    rw [h0]
    refine lv_icmp_ne (tgt := tgt) hx hb hd (by rw [ho2]) (fun hc => ?_) (fun hc => ?_)
    · have hn := hP _ _ _ _ (ho.1 hc) q1 (z_vtl (z_vtl q2)) H locs jls hp hs hl
      rw [h2] at hn
      exact hn
    · have hn := hP _ _ _ _ (ho.2 (fun q => q hc)) q1 (z_vtl (z_vtl q2)) H locs jls hp hs hl
      rw [h1] at hn
      exact hn
  · exact ho.elim

theorem ok_if_lt {off : Int} {t tgt : Nat} (ho2 : (pc : Int) + off = (tgt : Int)) (h2 : pcs.getD t 0 = tgt) (hd : decode b pc = .ok (.ifCond .lt off, 3)) (h0 : pcs.getD i 0 = pc) (h1 : pcs.getD (i + 1) 0 = pc + 3) : z_OpOk tab b nL ret own pcs i (o_if (fun x => x < 0) t) := by
  intro h O IH l E K p e R s m args below meth c C P hP ls st M ho
  obtain ⟨hx, hb, hml, hown, hts, hr, hlk, hE, hV, hRf, hRl⟩ := C
  unfold o_if at ho
  split at ho
  · rename_i x st2
    intro q1 q2 H locs jls hp hs hl
    rw [h0]
    refine lv_if_lt (tgt := tgt) hx hb hd (by rw [ho2]) (fun hc => ?_) (fun hc => ?_)
    · have hn := hP _ _ _ _ (ho.1 hc) q1 (z_vtl q2) H locs jls hp hs hl
      rw [h2] at hn
      exact hn
    · have hn := hP _ _ _ _ (ho.2 hc) q1 (z_vtl q2) H locs jls hp hs hl
      rw [h1] at hn
      exact hn
  · exact ho.elim

theorem ok_icmp_lt {off : Int} {t tgt : Nat} (ho2 : (pc : Int) + off = (tgt : Int)) (h2 : pcs.getD t 0 = tgt) (hd : decode b pc = .ok (.if_icmp .lt off, 3)) (h0 : pcs.getD i 0 = pc) (h1 : pcs.getD (i + 1) 0 = pc + 3) : z_OpOk tab b nL ret own pcs i (o_icmp (fun x y => x < y) t) := by
  intro h O IH l E K p e R s m args below meth c C P hP ls st M ho
  obtain ⟨hx, hb, hml, hown, hts, hr, hlk, hE, hV, hRf, hRl⟩ := C
  unfold o_icmp at ho
  split at ho
  · rename_i y x st2
    intro q1 q2 H locs jls hp hs hl
    rw [h0]
    refine lv_icmp_lt (tgt := tgt) hx hb hd (by rw [ho2]) (fun hc => ?_) (fun hc => ?_)
    · have hn := hP _ _ _ _ (ho.1 hc) q1 (z_vtl (z_vtl q2)) H locs jls hp hs hl
      rw [h2] at hn
      exact hn
    · have hn := hP _ _ _ _ (ho.2 hc) q1 (z_vtl (z_vtl q2)) H locs jls hp hs hl
      rw [h1] at hn
      exact hn
  · exact ho.elim

theorem ok_if_ge {off : Int} {t tgt : Nat} (ho2 : (pc : Int) + off = (tgt : Int)) (h2 : pcs.getD t 0 = tgt) (hd : decode b pc = .ok (.ifCond .ge off, 3)) (h0 : pcs.getD i 0 = pc) (h1 : pcs.getD (i + 1) 0 = pc + 3) : z_OpOk tab b nL ret own pcs i (o_if (fun x => x ≥ 0) t) := by
  intro h O IH l E K p e R s m args below meth c C P hP ls st M ho
  obtain ⟨hx, hb, hml, hown, hts, hr, hlk, hE, hV, hRf, hRl⟩ := C
  unfold o_if at ho
  split at ho
  · rename_i x st2
    intro q1 q2 H locs jls hp hs hl
    rw [h0]
    refine lv_if_ge (tgt := tgt) hx hb hd (by rw [ho2]) (fun hc => ?_) (fun hc => ?_)
    · have hn := hP _ _ _ _ (ho.1 hc) q1 (z_vtl q2) H locs jls hp hs hl
      rw [h2] at hn
      exact hn
    · have hn := hP _ _ _ _ (ho.2 hc) q1 (z_vtl q2) H locs jls hp hs hl
      rw [h1] at hn
      exact hn
  · exact ho.elim

theorem ok_icmp_ge {off : Int} {t tgt : Nat} (ho2 : (pc : Int) + off = (tgt : Int)) (h2 : pcs.getD t 0 = tgt) (hd : decode b pc = .ok (.if_icmp .ge off, 3)) (h0 : pcs.getD i 0 = pc) (h1 : pcs.getD (i + 1) 0 = pc + 3) : z_OpOk tab b nL ret own pcs i (o_icmp (fun x y => x ≥ y) t) := by
  intro h O IH l E K p e R s m args below meth c C P hP ls st M ho
  obtain ⟨hx, hb, hml, hown, hts, hr, hlk, hE, hV, hRf, hRl⟩ := C
  unfold o_icmp at ho
  split at ho
  · rename_i y x st2
    intro q1 q2 H locs jls hp hs hl
    rw [h0]
    refine lv_icmp_ge (tgt := tgt) hx hb hd (by rw [ho2]) (fun hc => ?_) (fun hc => ?_)
    · have hn := hP _ _ _ _ (ho.1 hc) q1 (z_vtl (z_vtl q2)) H locs jls hp hs hl
      rw [h2] at hn
      exact hn
    · have hn := hP _ _ _ _ (ho.2 hc) q1 (z_vtl (z_vtl q2)) H locs jls hp hs hl
      rw [h1] at hn
      exact hn
  · exact ho.elim

theorem ok_if_gt {off : Int} {t tgt : Nat} (ho2 : (pc : Int) + off = (tgt : Int)) (h2 : pcs.getD t 0 = tgt) (hd : decode b pc = .ok (.ifCond .gt off, 3)) (h0 : pcs.getD i 0 = pc) (h1 : pcs.getD (i + 1) 0 = pc + 3) : z_OpOk tab b nL ret own pcs i (o_if (fun x => x > 0) t) := by
  intro h O IH l E K p e R s m args below meth c C P hP ls st M ho
  obtain ⟨hx, hb, hml, hown, hts, hr, hlk, hE, hV, hRf, hRl⟩ := C
  unfold o_if at ho
  split at ho
  · rename_i x st2
    intro q1 q2 H locs jls hp hs hl
    rw [h0]
    refine lv_if_gt (tgt := tgt) hx hb hd (by rw [ho2]) (fun hc => ?_) (fun hc => ?_)
    · have hn := hP _ _ _ _ (ho.1 hc) q1 (z_vtl q2) H locs jls hp hs hl
      rw [h2] at hn
      exact hn
    · have hn := hP _ _ _ _ (ho.2 hc) q1 (z_vtl q2) H locs jls hp hs hl
      rw [h1] at hn
      exact hn
  · exact ho.elim

theorem ok_icmp_gt {off : Int} {t tgt : Nat} (ho2 : (pc : Int) + off = (tgt : Int)) (h2 : pcs.getD t 0 = tgt) (hd : decode b pc = .ok (.if_icmp .gt off, 3)) (h0 : pcs.getD i 0 = pc) (h1 : pcs.getD (i + 1) 0 = pc + 3) : z_OpOk tab b nL ret own pcs i (o_icmp (fun x y => x > y) t) := by
  intro h O IH l E K p e R s m args below meth c C P hP ls st M ho
  obtain ⟨hx, hb, hml, hown, hts, hr, hlk, hE, hV, hRf, hRl⟩ := C
  unfold o_icmp at ho
  split at ho
  · rename_i y x st2
    intro q1 q2 H locs jls hp hs hl
    rw [h0]
    refine lv_icmp_gt (tgt := tgt) hx hb hd (by rw [ho2]) (fun hc => ?_) (fun hc => ?_)
    · have hn := hP _ _ _ _ (ho.1 hc) q1 (z_vtl (z_vtl q2)) H locs jls hp hs hl
      rw [h2] at hn
      exact hn
    · have hn := hP _ _ _ _ (ho.2 hc) q1 (z_vtl (z_vtl q2)) H locs jls hp hs hl
      rw [h1] at hn
      exact hn
  · exact ho.elim

theorem ok_if_le {off : Int} {t tgt : Nat} (ho2 : (pc : Int) + off = (tgt : Int)) (h2 : pcs.getD t 0 = tgt) (hd : decode b pc = .ok (.ifCond .le off, 3)) (h0 : pcs.getD i 0 = pc) (h1 : pcs.getD (i + 1) 0 = pc + 3) : z_OpOk tab b nL ret own pcs i (o_if (fun x => x ≤ 0) t) := by
  intro h O IH l E K p e R s m args below meth c C P hP ls st M ho
  obtain ⟨hx, hb, hml, hown, hts, hr, hlk, hE, hV, hRf, hRl⟩ := C
  unfold o_if at ho
  split at ho
  · rename_i x st2
    intro q1 q2 H locs jls hp hs hl
    rw [h0]
    refine lv_if_le (tgt := tgt) hx hb hd (by rw [ho2]) (fun hc => ?_) (fun hc => ?_)
    · have hn := hP _ _ _ _ (ho.1 hc) q1 (z_vtl q2) H locs jls hp hs hl
      rw [h2] at hn
      exact hn
    · have hn := hP _ _ _ _ (ho.2 hc) q1 (z_vtl q2) H locs jls hp hs hl
      rw [h1] at hn
      exact hn
  · exact ho.elim

theorem ok_icmp_le {off : Int} {t tgt : Nat} (ho2 : (pc : Int) + off = (tgt : Int)) (h2 : pcs.getD t 0 = tgt) (hd : decode b pc = .ok (.if_icmp .le off, 3)) (h0 : pcs.getD i 0 = pc) (h1 : pcs.getD (i + 1) 0 = pc + 3) : z_OpOk tab b nL ret own pcs i (o_icmp (fun x y => x ≤ y) t) := by
  intro h O IH l E K p e R s m args below meth c C P hP ls st M ho
  obtain ⟨hx, hb, hml, hown, hts, hr, hlk, hE, hV, hRf, hRl⟩ := C
  unfold o_icmp at ho
  split at ho
  · rename_i y x st2
    intro q1 q2 H locs jls hp hs hl
    rw [h0]
    refine lv_icmp_le (tgt := tgt) hx hb hd (by rw [ho2]) (fun hc => ?_) (fun hc => ?_)
    · have hn := hP _ _ _ _ (ho.1 hc) q1 (z_vtl (z_vtl q2)) H locs jls hp hs hl
      rw [h2] at hn
      exact hn
    · have hn := hP _ _ _ _ (ho.2 hc) q1 (z_vtl (z_vtl q2)) H locs jls hp hs hl
      rw [h1] at hn
      exact hn
  · exact ho.elim

theorem ok_ifnull {off : Int} {t tgt : Nat} (ho2 : (pc : Int) + off = (tgt : Int)) (h2 : pcs.getD t 0 = tgt) (hd : decode b pc = .ok (.ifnull off, 3)) (h0 : pcs.getD i 0 = pc) (h1 : pcs.getD (i + 1) 0 = pc + 3) : z_OpOk tab b nL ret own pcs i (o_ifnull t) := by
  intro h O IH l E K p e R s m args below meth c C P hP ls st M ho
  obtain ⟨hx, hb, hml, hown, hts, hr, hlk, hE, hV, hRf, hRl⟩ := C
  unfold o_ifnull at ho
  split at ho
  · rename_i id st2
    intro q1 q2 H locs jls hp hs hl
    rw [h0]
    have e2 : (Sum.inr (Sum.inr id) :: st2).map (z_c E) = z_c E (.inr (.inr id)) :: st2.map (z_c E) := rfl
    rw [e2]
    by_cases hz : id.1 = 0
    · rw [z_cnull hz]
      have hn := hP _ _ _ _ (ho.1 hz) q1 (z_vtl q2) H locs jls hp hs hl
      rw [h2] at hn
      exact lv_ifnullN (tgt := tgt) hx hb hd (by rw [ho2]) hn
    · rw [z_cref hz]
      have hn := hP _ _ _ _ (ho.2 hz) q1 (z_vtl q2) H locs jls hp hs hl
      rw [h1] at hn
      exact lv_ifnull hx hb hd hn
  · exact ho.elim

theorem ok_ifnonnull {off : Int} {t tgt : Nat} (ho2 : (pc : Int) + off = (tgt : Int)) (h2 : pcs.getD t 0 = tgt) (hd : decode b pc = .ok (.ifnonnull off, 3)) (h0 : pcs.getD i 0 = pc) (h1 : pcs.getD (i + 1) 0 = pc + 3) : z_OpOk tab b nL ret own pcs i (o_ifnonnull t) := by
  intro h O IH l E K p e R s m args below meth c C P hP ls st M ho
  obtain ⟨hx, hb, hml, hown, hts, hr, hlk, hE, hV, hRf, hRl⟩ := C
  unfold o_ifnonnull at ho
  split at ho
  · rename_i id st2
    intro q1 q2 H locs jls hp hs hl
    rw [h0]
    have e2 : (Sum.inr (Sum.inr id) :: st2).map (z_c E) = z_c E (.inr (.inr id)) :: st2.map (z_c E) := rfl
    rw [e2]
    by_cases hz : id.1 = 0
    · rw [z_cnull hz]
      have hn := hP _ _ _ _ (ho.2 hz) q1 (z_vtl q2) H locs jls hp hs hl
      rw [h1] at hn
      exact lv_ifnonnullN hx hb hd hn
    · rw [z_cref hz]
      have hn := hP _ _ _ _ (ho.1 hz) q1 (z_vtl q2) H locs jls hp hs hl
      rw [h2] at hn
      exact lv_ifnonnull (tgt := tgt) hx hb hd (by rw [ho2]) hn
  · exact ho.elim

theorem ok_goto {off : Int} {t tgt : Nat} (ho2 : (pc : Int) + off = (tgt : Int)) (h2 : pcs.getD t 0 = tgt) (hd : decode b pc = .ok (.goto off, 3)) (h0 : pcs.getD i 0 = pc) : z_OpOk tab b nL ret own pcs i (o_goto t) := by
  intro h O IH l E K p e R s m args below meth c C P hP ls st M ho
  obtain ⟨hx, hb, hml, hown, hts, hr, hlk, hE, hV, hRf, hRl⟩ := C
  intro q1 q2 H locs jls hp hs hl
  have hn := hP _ _ _ _ ho q1 q2 H locs jls hp hs hl
  rw [h2] at hn
  rw [h0]
  exact lv_goto (tgt := tgt) hx hb hd (by rw [ho2]) hn

end Zops
