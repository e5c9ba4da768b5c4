/-! fields, rows, calls, ends, switches -/
theorem z_catsum (E : zE) : ∀ st : List zV, ((st.map (z_c E)).map fun v => v.category).sum = z_cats st
  | [] => rfl
  | v :: l => by
    simp only [List.map_cons, List.sum_cons, z_cats, z_catc]
    rw [z_catsum E l]
theorem z_pop_spec : ∀ (n : Nat) (st acc as r : List zV), z_pop n st acc = some (as, r) → ∃ a1, as = a1.reverse ++ acc ∧ st = a1 ++ r ∧ a1.length = n
  | 0, st, acc, as, r, h => by
    simp only [z_pop, Option.some.injEq, Prod.mk.injEq] at h
    exact ⟨[], by simp [h.1], by simp [h.2], rfl⟩
  | n + 1, [], acc, as, r, h => by simp [z_pop] at h
  | n + 1, v :: st, acc, as, r, h => by
    simp only [z_pop] at h
    obtain ⟨a1, e1, e2, e3⟩ := z_pop_spec n st (v :: acc) as r h
    exact ⟨v :: a1, by simp [e1], by simp [e2], by simp [e3]⟩
theorem z_envW {E : zE} {s U : State} {H : Heap} {locs : List Loc} (hV : z_env E s) (hS : va_S (z_A E) s.heap H locs) (hU : U.heap = H) (hW : s.WarmedH U.vm) : z_env E U := by
  obtain ⟨hK, hN, f1, f2, f3, f4⟩ := hV
  have hq : ∀ a : Nat, a < s.heap.size → ¬ z_A E a → H[a]? = s.heap[a]? := fun a h1 h2 => hS.2.1 a h1 h2
  refine ⟨va_K.moved hW.alike hK, fun q hq2 => va_Nw.warmM hW (hN q hq2), ?_⟩
  unfold z_SF
  rw [hU]
  exact ⟨(f1.kept hq).moved hW.alike, (f2.kept hq).moved hW.alike, (f3.kept hq).moved hW.alike, (f4.kept hq).moved hW.alike⟩
theorem z_blind (E : zE) (M : zMem) (as : List Value) : FrameBlind (va_Pc as (z_pre E M)) := by
  intro a U g mk h
  obtain ⟨h1, h2, hK, hN, f1, f2, f3, f4⟩ := h
  refine ⟨h1, h2, va_K.moved (u := U) (U := U.calling g mk a) (Vm.Alike.refl U.vm) hK, fun q hq => va_Nw.same (u := U) (U := U.calling g mk a) rfl rfl (hN q hq), ?_⟩
  exact ⟨va_Z.moved (u := U) (U := U.calling g mk a) (Vm.Alike.refl U.vm) f1, va_T.moved (u := U) (U := U.calling g mk a) (Vm.Alike.refl U.vm) f2, va_Z.moved (u := U) (U := U.calling g mk a) (Vm.Alike.refl U.vm) f3, va_T.moved (u := U) (U := U.calling g mk a) (Vm.Alike.refl U.vm) f4⟩
theorem z_after {p : Program} {l : Launch} {e : Env} {R : Room} {s : State} {m : MethodId} {args : Array Value} {below : List Frame} {meth : Method} {c : Code} {H : Heap} {locs : List Loc} {Q : State → Prop} {pc : Nat} {jls : Array Slot} {rest st0 : List Value} {a : Array Value} {E : zE} {K : zK}
    (hr : va_Run p l e R s m args below meth c H locs 0 0 0 0 (F0 m pc jls st0) rest (z_Q E K a) (z_A E)) (hS : va_S (z_A E) s.heap H locs)
    (kk : ∀ (r : Option zV) (M : zMem) (H1 : Heap) (locs1 : List Loc), K r M → z_okr E r → va_P E.1 vwCl (z_ws E M) H1 → va_S (z_A E) s.heap H1 locs1 → W p l e R s m args below meth c H1 locs1 0 0 Q (F0 m (pc + 3) jls ((r.map (z_c E)).toList ++ rest))) : W p l e R s m args below meth c H locs 0 0 Q (F0 m pc jls st0) := by
  intro T hT X
  obtain ⟨v, st₀, t, T', L, h0, X', hL, e1, e2, ⟨r, M, hk, hok, hv, hp, hz⟩, st⟩ := hr T hT X
  cases hv
  obtain ⟨hz1, hz2⟩ := hz
  rw [h0] at hz1 hz2
  have hS1 : va_S (z_A E) s.heap T'.heap (locs ++ L) := ⟨Nat.le_trans hS.1 (by rw [e1]; exact hz1), fun q h1 h2 => by rw [e1, hz2 q (Nat.lt_of_lt_of_le h1 hS.1) h2]; exact hS.2.1 q h1 h2, fun q hq => by
    rcases List.mem_append.mp hq with h | h
    · exact hS.2.2 q h
    · exact hL q h⟩
  obtain ⟨t2, a1, b1⟩ := kk r M T'.heap (locs ++ L) hk hok (by rw [e1]; exact hp) hS1 T' rfl X'
  exact ⟨t2, st t2 a1, b1⟩
theorem z_contI {E : zE} {M : zMem} {id : zId} (h : z_isI id.1 = true) : z_cont E M id = .inl (E.2.1 0, z_len id.1, .inl (M.1 id.1 id.2.1 id.2.2)) ∧ ¬ id.1 = 0 ∧ ¬ id.1 = 50 ∧ ¬ id.1 = 99 := by
  obtain ⟨a, b, c⟩ := id
  unfold z_isI at h
  dsimp only at h
  split at h
  · exact ⟨rfl, by simp, by simp, by simp⟩
  · exact ⟨rfl, by simp, by simp, by simp⟩
  · exact ⟨rfl, by simp, by simp, by simp⟩
  · exact ⟨rfl, by simp, by simp, by simp⟩
  · exact ⟨rfl, by simp, by simp, by simp⟩
  · cases h
theorem z_contJ {E : zE} {M : zMem} {id : zId} (h : z_isJ id.1 = true) : z_cont E M id = .inl (E.2.1 1, 221, .inr (.inl (M.2 id.1))) ∧ ¬ id.1 = 0 ∧ ¬ id.1 = 50 ∧ ¬ id.1 = 99 := by
  obtain ⟨a, b, c⟩ := id
  unfold z_isJ at h
  dsimp only at h
  split at h
  · exact ⟨rfl, by simp, by simp, by simp⟩
  · exact ⟨rfl, by simp, by simp, by simp⟩
  · exact ⟨rfl, by simp, by simp, by simp⟩
  · cases h
theorem z_upd_eq (f : Nat → Int32) (k : Nat) (x : Int32) : upd f k x = fun d => if d = k then x else f d := rfl
theorem z_updL_eq (f : Nat → Int64) (k : Nat) (x : Int64) : vp_updL f k x = fun d => if d = k then x else f d := rfl
theorem z_up_row (M : zMem) (kd w i k : Nat) (x : Int32) : (z_up M kd w i k x).1 kd w i = upd (M.1 kd w i) k x := by
  funext d
  rw [z_upd_eq]
  unfold z_up
  simp
theorem z_upL_row (M : zMem) (kd k : Nat) (x : Int64) : (z_upL M kd k x).2 kd = vp_updL (M.2 kd) k x := by
  funext d
  rw [z_updL_eq]
  unfold z_upL
  simp
theorem z_nar (x : Int32) : narrow .int (.int x) = .int x := rfl
theorem z_narz {x : Int32} (h : x = 0 ∨ x = 1) : narrow .boolean (.int x) = .int x ∧ fits .boolean (.int x) = true ∧ vp_nar .boolean x = x := by
  rcases h with rfl | rfl
  · exact ⟨rfl, rfl, rfl⟩
  · exact ⟨rfl, rfl, rfl⟩
section Zops2
variable {tab : Nat → zT} {b : ByteArray} {nL : Nat} {ret : Option FieldType} {own : String} {pcs : List Nat} {i pc : Nat}

theorem ok_get {kd k idx ci N : Nat} {C nm ds : String} {fn : Bool} {T : u_T} (hkd : ¬ kd = 0 ∧ ¬ kd = 50 ∧ ¬ kd = 99) (hcl : vwCl[ci]? = some (C, T, N)) (hT : T k = (C, nm, ds, fn)) (hkN : k < N) (hin : ∀ w ∈ u_ws C T N, w ∈ zw) (hw : Cond.fieldLink own idx C nm ds ∈ zw) (hv : ∀ (E : zE) (M : zMem) (id : zId), id.1 = kd → ∃ fs, z_cont E M id = .inr (ci, fs) ∧ fs[k]? = some (.int (M.1 kd id.2.1 id.2.2 k))) (hd : decode b pc = .ok (.getfield idx, 3)) (h0 : pcs.getD i 0 = pc) (h1 : pcs.getD (i + 1) 0 = pc + 3) : z_OpOk tab b nL ret own pcs i (o_get kd k) := by
  intro h O IH l E K p e R s m args below meth c C P hP ls st M ho
  obtain ⟨hx, hb, hml, hown, hts, hr, hlk, hE, hV, hRf, hRl⟩ := C
  unfold o_get at ho
  split at ho
  · rename_i id st2
    obtain ⟨hk, ho⟩ := ho
    intro q1 q2 H locs jls hp hs hl
    have hid : id ∈ E.2.2.2 := z_live (z_vhd q2) (by rw [hk]; exact hkd.1) (by rw [hk]; exact hkd.2.1) (by rw [hk]; exact hkd.2.2)
    obtain ⟨q0, hq0, hq1⟩ := z_at hid M
    obtain ⟨fs, e1, e2⟩ := hv E M id hk
    rw [e1] at hq1
    have hn := hP _ _ _ _ ho q1 (z_vcons trivial (z_vtl q2)) H locs jls hp hs hl
    rw [h1] at hn
    rw [h0, List.map_cons, z_cref (by rw [hk]; exact hkd.1)]
    exact va_get (T := T) hx hb hts hin hown hV.1 hp q0 hq1 hcl k hkN (by rw [hT]; exact hts _ hw) (by rw [hT]; exact fun _ h9 => h9) e2 hd hn
  · exact ho.elim

theorem ok_getr {g : Nat → Nat → zId} {kd k idx ci N : Nat} {C nm ds : String} {fn : Bool} {T : u_T} (hkd : ¬ kd = 0 ∧ ¬ kd = 50 ∧ ¬ kd = 99) (hcl : vwCl[ci]? = some (C, T, N)) (hT : T k = (C, nm, ds, fn)) (hkN : k < N) (hin : ∀ w ∈ u_ws C T N, w ∈ zw) (hw : Cond.fieldLink own idx C nm ds ∈ zw) (hv : ∀ (E : zE) (M : zMem) (id : zId), id.1 = kd → ∃ fs, z_cont E M id = .inr (ci, fs) ∧ fs[k]? = some (.ref (E.2.2.1 (g id.2.1 id.2.2)))) (hg : ∀ w i, ¬ (g w i).1 = 0) (hsu : ∀ w i, g w i ∈ z_succ (kd, w, i)) (hd : decode b pc = .ok (.getfield idx, 3)) (h0 : pcs.getD i 0 = pc) (h1 : pcs.getD (i + 1) 0 = pc + 3) : z_OpOk tab b nL ret own pcs i (o_getr kd g) := by
  intro h O IH l E K p e R s m args below meth c C P hP ls st M ho
  obtain ⟨hx, hb, hml, hown, hts, hr, hlk, hE, hV, hRf, hRl⟩ := C
  unfold o_getr at ho
  split at ho
  · rename_i id st2
    obtain ⟨hk, ho⟩ := ho
    intro q1 q2 H locs jls hp hs hl
    have hid : id ∈ E.2.2.2 := z_live (z_vhd q2) (by rw [hk]; exact hkd.1) (by rw [hk]; exact hkd.2.1) (by rw [hk]; exact hkd.2.2)
    obtain ⟨q0, hq0, hq1⟩ := z_at hid M
    obtain ⟨fs, e1, e2⟩ := hv E M id hk
    rw [e1] at hq1
    have hlv : g id.2.1 id.2.2 ∈ E.2.2.2 := hE.2.1 id hid _ (by rw [show id = (kd, id.2.1, id.2.2) by rw [← hk]]; exact hsu _ _)
    have hn := hP _ _ _ _ ho q1 (z_vcons (Or.inr (Or.inr (Or.inr hlv))) (z_vtl q2)) H locs jls hp hs hl
    rw [h1, List.map_cons, z_cref (hg _ _)] at hn
    rw [h0, List.map_cons, z_cref (by rw [hk]; exact hkd.1)]
    exact va_get (T := T) hx hb hts hin hown hV.1 hp q0 hq1 hcl k hkN (by rw [hT]; exact hts _ hw) (by rw [hT]; exact fun _ h9 => h9) e2 hd hn
  · exact ho.elim

theorem ok_put {kd k idx ci N : Nat} {C nm ds : String} {fn : Bool} {T : u_T} (hkd : ¬ kd = 0 ∧ ¬ kd = 50 ∧ ¬ kd = 99) (hcl : vwCl[ci]? = some (C, T, N)) (hT : T k = (C, nm, ds, fn)) (hkN : k < N) (hin : ∀ w ∈ u_ws C T N, w ∈ zw) (hw : Cond.fieldLink own idx C nm ds ∈ zw) {ty0 : Nat → FieldType} (hty : ∀ k, k < N → parseFieldDescriptor (T k).2.2.1 = some (ty0 k)) (hnm : ∀ a, a < N → ∀ b, b < N → a ≠ b → (T a).2.1 ≠ (T b).2.1) (hfn : fn = false) (hv : ∀ (E : zE) (M : zMem) (id : zId) (x : Int32), id.1 = kd → ∃ fs, z_cont E M id = .inr (ci, fs) ∧ k < fs.length ∧ z_cont E (z_up M kd id.2.1 id.2.2 k x) id = .inr (ci, fs.set k (.int x))) (hti : ty0 k = .int) (hd : decode b pc = .ok (.putfield idx, 3)) (h0 : pcs.getD i 0 = pc) (h1 : pcs.getD (i + 1) 0 = pc + 3) : z_OpOk tab b nL ret own pcs i (o_put kd k) := by
  intro h O IH l E K p e R s m args below meth c C P hP ls st M ho
  obtain ⟨hx, hb, hml, hown, hts, hr, hlk, hE, hV, hRf, hRl⟩ := C
  unfold o_put at ho
  split at ho
  · rename_i x id st2
    obtain ⟨hk, ho⟩ := ho
    intro q1 q2 H locs jls hp hs hl
    have hid : id ∈ E.2.2.2 := z_live (z_vhd (z_vtl q2)) (by rw [hk]; exact hkd.1) (by rw [hk]; exact hkd.2.1) (by rw [hk]; exact hkd.2.2)
    obtain ⟨q0, hq0, hq1⟩ := z_at hid M
    obtain ⟨fs, e1, e2, e3⟩ := hv E M id x hk
    rw [e1] at hq1
    rw [h0, List.map_cons, List.map_cons, z_cref (by rw [hk]; exact hkd.1)]
    refine va_put (T := T) (v := .int x) (ty := .int) hx hb hts hin ty0 hty hnm hown hV.1 hp (z_wsD hE M) hs q0 hq1 hcl k hkN (by rw [hT]; exact hts _ hw) (by rw [hT]; exact fun _ h9 => h9) (by rw [hT]; exact hfn) (by rw [hty k hkN, hti]) (z_nar x) rfl e2 hd (fun H1 locs1 hp1 _ hs1 => ?_)
    have hput := z_put hE (M := M) (M2 := z_up M kd id.2.1 id.2.2 k x) hq0 e3 (fun id2 _ hne => z_cont_up (by rw [← hk]; exact hne))
    rw [hput] at hp1
    have hn := hP _ _ _ _ ho q1 (z_vtl (z_vtl q2)) H1 locs1 jls hp1 hs1 hl
    rw [h1] at hn
    exact hn
  · exact ho.elim

theorem ok_putz {kd k idx ci N : Nat} {C nm ds : String} {fn : Bool} {T : u_T} (hkd : ¬ kd = 0 ∧ ¬ kd = 50 ∧ ¬ kd = 99) (hcl : vwCl[ci]? = some (C, T, N)) (hT : T k = (C, nm, ds, fn)) (hkN : k < N) (hin : ∀ w ∈ u_ws C T N, w ∈ zw) (hw : Cond.fieldLink own idx C nm ds ∈ zw) {ty0 : Nat → FieldType} (hty : ∀ k, k < N → parseFieldDescriptor (T k).2.2.1 = some (ty0 k)) (hnm : ∀ a, a < N → ∀ b, b < N → a ≠ b → (T a).2.1 ≠ (T b).2.1) (hfn : fn = false) (hv : ∀ (E : zE) (M : zMem) (id : zId) (x : Int32), id.1 = kd → ∃ fs, z_cont E M id = .inr (ci, fs) ∧ k < fs.length ∧ z_cont E (z_up M kd id.2.1 id.2.2 k x) id = .inr (ci, fs.set k (.int x))) (hti : ty0 k = .boolean) (hd : decode b pc = .ok (.putfield idx, 3)) (h0 : pcs.getD i 0 = pc) (h1 : pcs.getD (i + 1) 0 = pc + 3) : z_OpOk tab b nL ret own pcs i (o_putz kd k) := by
  intro h O IH l E K p e R s m args below meth c C P hP ls st M ho
  obtain ⟨hx, hb, hml, hown, hts, hr, hlk, hE, hV, hRf, hRl⟩ := C
  unfold o_putz at ho
  split at ho
  · rename_i x id st2
    obtain ⟨hk, h01, ho⟩ := ho
    intro q1 q2 H locs jls hp hs hl
    have hid : id ∈ E.2.2.2 := z_live (z_vhd (z_vtl q2)) (by rw [hk]; exact hkd.1) (by rw [hk]; exact hkd.2.1) (by rw [hk]; exact hkd.2.2)
    obtain ⟨q0, hq0, hq1⟩ := z_at hid M
    obtain ⟨fs, e1, e2, e3⟩ := hv E M id x hk
    rw [e1] at hq1
    rw [h0, List.map_cons, List.map_cons, z_cref (by rw [hk]; exact hkd.1)]
    refine va_put (T := T) (v := .int x) (ty := .boolean) hx hb hts hin ty0 hty hnm hown hV.1 hp (z_wsD hE M) hs q0 hq1 hcl k hkN (by rw [hT]; exact hts _ hw) (by rw [hT]; exact fun _ h9 => h9) (by rw [hT]; exact hfn) (by rw [hty k hkN, hti]) (z_narz h01).1 (z_narz h01).2.1 e2 hd (fun H1 locs1 hp1 _ hs1 => ?_)
    have hput := z_put hE (M := M) (M2 := z_up M kd id.2.1 id.2.2 k x) hq0 e3 (fun id2 _ hne => z_cont_up (by rw [← hk]; exact hne))
    rw [hput] at hp1
    have hn := hP _ _ _ _ ho q1 (z_vtl (z_vtl q2)) H1 locs1 jls hp1 hs1 hl
    rw [h1] at hn
    exact hn
  · exact ho.elim

theorem ok_iald (hd : decode b pc = .ok (.iaload, 1)) (h0 : pcs.getD i 0 = pc) (h1 : pcs.getD (i + 1) 0 = pc + 1) : z_OpOk tab b nL ret own pcs i (o_iald) := by
  intro h O IH l E K p e R s m args below meth c C P hP ls st M ho
  obtain ⟨hx, hb, hml, hown, hts, hr, hlk, hE, hV, hRf, hRl⟩ := C
  unfold o_iald at ho
  split at ho
  · rename_i j id st2
    intro q1 q2 H locs jls hp hs hl
    by_cases h50 : id.1 = 50
    · obtain ⟨hid, hj, ho⟩ := ho.1 h50
      have hn := hP _ _ _ _ ho q1 (z_vcons trivial (z_vtl (z_vtl q2))) H locs jls hp hs hl
      rw [h1] at hn
      rw [h0, List.map_cons, List.map_cons, z_cref (by rw [h50]; decide)]
      rcases hid with rfl | rfl
      · exact va_ti hx hb hV.2.2.2.1 hs hj rfl hd hn
      · exact va_ti hx hb hV.2.2.2.2.2 hs hj rfl hd hn
    · obtain ⟨hI, hj, ho⟩ := ho.2 h50
      obtain ⟨hc, g0, g5, g9⟩ := z_contI (E := E) (M := M) hI
      have hid : id ∈ E.2.2.2 := z_live (z_vhd (z_vtl q2)) g0 g5 g9
      obtain ⟨q0, hq0, hq1⟩ := z_at hid M
      rw [hc] at hq1
      have hn := hP _ _ _ _ ho q1 (z_vcons trivial (z_vtl (z_vtl q2))) H locs jls hp hs hl
      rw [h1] at hn
      rw [h0, List.map_cons, List.map_cons, z_cref g0]
      exact va_iald hx hb hV.1 hp q0 0 hq1 rfl hj hd hn
  · exact ho.elim

theorem ok_cald (hd : decode b pc = .ok (.iaload, 1)) (h0 : pcs.getD i 0 = pc) (h1 : pcs.getD (i + 1) 0 = pc + 1) : z_OpOk tab b nL ret own pcs i (o_cald) := by
  intro h O IH l E K p e R s m args below meth c C P hP ls st M ho
  obtain ⟨hx, hb, hml, hown, hts, hr, hlk, hE, hV, hRf, hRl⟩ := C
  unfold o_cald at ho
  split at ho
  · rename_i j id st2
    obtain ⟨h48, hj, ho⟩ := ho
    intro q1 q2 H locs jls hp hs hl
    have hid : id ∈ E.2.2.2 := z_live (z_vhd (z_vtl q2)) (by rw [h48]; decide) (by rw [h48]; decide) (by rw [h48]; decide)
    have hc : z_cont E M id = .inl (E.2.1 0, 13, .inl z_bs) := by
      obtain ⟨a, b, c⟩ := id
      have h48 : a = 48 := h48
      subst h48
      rfl
    obtain ⟨q0, hq0, hq1⟩ := z_at hid M
    rw [hc] at hq1
    have hn := hP _ _ _ _ ho q1 (z_vcons trivial (z_vtl (z_vtl q2))) H locs jls hp hs hl
    rw [h1] at hn
    rw [h0, List.map_cons, List.map_cons, z_cref (by rw [h48]; decide)]
    exact va_iald hx hb hV.1 hp q0 0 hq1 rfl hj hd hn
  · exact ho.elim

theorem ok_zald (hd : decode b pc = .ok (.baload, 1)) (h0 : pcs.getD i 0 = pc) (h1 : pcs.getD (i + 1) 0 = pc + 1) : z_OpOk tab b nL ret own pcs i (o_zald) := by
  intro h O IH l E K p e R s m args below meth c C P hP ls st M ho
  obtain ⟨hx, hb, hml, hown, hts, hr, hlk, hE, hV, hRf, hRl⟩ := C
  unfold o_zald at ho
  split at ho
  · rename_i j id st2
    obtain ⟨hk, hj, ho⟩ := ho
    intro q1 q2 H locs jls hp hs hl
    have hid : id ∈ E.2.2.2 := z_live (z_vhd (z_vtl q2)) (by rw [hk]; decide) (by rw [hk]; decide) (by rw [hk]; decide)
    obtain ⟨q0, hq0, hq1⟩ := z_at hid M
    have hc : z_cont E M id = .inl (E.2.1 4, 24, .inl (M.1 40 id.2.1 id.2.2)) := by
      obtain ⟨a9, w9, i9⟩ := id
      have hk : a9 = 40 := hk
      subst hk
      rfl
    rw [hc] at hq1
    have hn := hP _ _ _ _ ho q1 (z_vcons trivial (z_vtl (z_vtl q2))) H locs jls hp hs hl
    rw [h1] at hn
    rw [h0, List.map_cons, List.map_cons, z_cref (by rw [hk]; decide)]
    exact va_zald hx hb hV.1 hp q0 4 hq1 rfl hj hd hn
  · exact ho.elim

theorem ok_lald (hd : decode b pc = .ok (.laload, 1)) (h0 : pcs.getD i 0 = pc) (h1 : pcs.getD (i + 1) 0 = pc + 1) : z_OpOk tab b nL ret own pcs i (o_lald) := by
  intro h O IH l E K p e R s m args below meth c C P hP ls st M ho
  obtain ⟨hx, hb, hml, hown, hts, hr, hlk, hE, hV, hRf, hRl⟩ := C
  unfold o_lald at ho
  split at ho
  · rename_i j id st2
    obtain ⟨hJ, hj, ho⟩ := ho
    intro q1 q2 H locs jls hp hs hl
    obtain ⟨hc, g0, g5, g9⟩ := z_contJ (E := E) (M := M) hJ
    have hid : id ∈ E.2.2.2 := z_live (z_vhd (z_vtl q2)) g0 g5 g9
    obtain ⟨q0, hq0, hq1⟩ := z_at hid M
    rw [hc] at hq1
    have hn := hP _ _ _ _ ho q1 (z_vcons trivial (z_vtl (z_vtl q2))) H locs jls hp hs hl
    rw [h1] at hn
    rw [h0, List.map_cons, List.map_cons, z_cref g0]
    exact va_lald hx hb hV.1 hp q0 1 hq1 rfl hj hd hn
  · exact ho.elim

theorem ok_aald (hd : decode b pc = .ok (.aaload, 1)) (h0 : pcs.getD i 0 = pc) (h1 : pcs.getD (i + 1) 0 = pc + 1) : z_OpOk tab b nL ret own pcs i (o_aald) := by
  intro h O IH l E K p e R s m args below meth c C P hP ls st M ho
  obtain ⟨hx, hb, hml, hown, hts, hr, hlk, hE, hV, hRf, hRl⟩ := C
  unfold o_aald at ho
  split at ho
  · rename_i j id st2
    obtain ⟨hk, hj, ho⟩ := ho
    intro q1 q2 H locs jls hp hs hl
    have g0 : ¬ id.1 = 0 := by rcases hk with e | e <;> rw [e] <;> decide
    have hid : id ∈ E.2.2.2 := z_live (z_vhd (z_vtl q2)) g0 (by rcases hk with e | e <;> rw [e] <;> decide) (by rcases hk with e | e <;> rw [e] <;> decide)
    obtain ⟨q0, hq0, hq1⟩ := z_at hid M
    have hlt : j.toNatClampNeg < z_len id.1 := Nat.not_le.mp fun q => hj (Or.inr q)
    rw [h0, List.map_cons, List.map_cons, z_cref g0]
    rcases hk with e | e
    · have hc : z_cont E M id = .inl (E.2.1 2, 24, .inr (.inr (.inr (.inr (fun j => some (E.2.2.1 (7, id.2.1, j))))))) := by
        obtain ⟨a9, w9, i9⟩ := id
        have e : a9 = 30 := e
        subst e
        rfl
      rw [hc] at hq1
      rw [e] at ho hj hlt
      have hlv : (7, id.2.1, j.toNatClampNeg) ∈ E.2.2.2 := hE.2.1 id hid _ (by unfold z_succ; rw [e]; exact List.mem_map.mpr ⟨_, List.mem_range.mpr hlt, rfl⟩)
      have hn := hP _ _ _ _ ho q1 (z_vcons (Or.inr (Or.inr (Or.inr hlv))) (z_vtl (z_vtl q2))) H locs jls hp hs hl
      rw [h1, List.map_cons, z_cref (id := z_elt 30 id.2.1 j.toNatClampNeg) (by show ¬ (7 : Nat) = 0; decide)] at hn
      exact va_aldq hx hb hV.1 hp q0 2 hq1 rfl hj hd hn
    · have hc : z_cont E M id = .inl (E.2.1 3, 4, .inr (.inr (.inr (.inr (fun j => some (E.2.2.1 (4, id.2.1, j))))))) := by
        obtain ⟨a9, w9, i9⟩ := id
        have e : a9 = 31 := e
        subst e
        rfl
      rw [hc] at hq1
      rw [e] at ho hj hlt
      have hlv : (4, id.2.1, j.toNatClampNeg) ∈ E.2.2.2 := hE.2.1 id hid _ (by unfold z_succ; rw [e]; exact List.mem_map.mpr ⟨_, List.mem_range.mpr hlt, rfl⟩)
      have hn := hP _ _ _ _ ho q1 (z_vcons (Or.inr (Or.inr (Or.inr hlv))) (z_vtl (z_vtl q2))) H locs jls hp hs hl
      rw [h1, List.map_cons, z_cref (id := z_elt 31 id.2.1 j.toNatClampNeg) (by show ¬ (4 : Nat) = 0; decide)] at hn
      exact va_aldq hx hb hV.1 hp q0 3 hq1 rfl hj hd hn
  · exact ho.elim

theorem ok_iast (hd : decode b pc = .ok (.iastore, 1)) (h0 : pcs.getD i 0 = pc) (h1 : pcs.getD (i + 1) 0 = pc + 1) : z_OpOk tab b nL ret own pcs i (o_iast) := by
  intro h O IH l E K p e R s m args below meth c C P hP ls st M ho
  obtain ⟨hx, hb, hml, hown, hts, hr, hlk, hE, hV, hRf, hRl⟩ := C
  unfold o_iast at ho
  split at ho
  · rename_i x j id st2
    obtain ⟨hI, hj, ho⟩ := ho
    intro q1 q2 H locs jls hp hs hl
    obtain ⟨hc, g0, g5, g9⟩ := z_contI (E := E) (M := M) hI
    have hid : id ∈ E.2.2.2 := z_live (z_vhd (z_vtl (z_vtl q2))) g0 g5 g9
    obtain ⟨q0, hq0, hq1⟩ := z_at hid M
    rw [hc] at hq1
    rw [h0, List.map_cons, List.map_cons, List.map_cons, z_cref g0]
    refine va_iast hx hb hV.1 hp (z_wsD hE M) hs q0 0 hq1 rfl hj hd (fun H1 locs1 hp1 _ hs1 => ?_)
    have hput := z_put hE (M := M) (M2 := z_up M id.1 id.2.1 id.2.2 j.toNatClampNeg x) hq0 (by rw [(z_contI (E := E) hI).1, z_up_row]) (fun id2 _ hne => z_cont_up hne)
    rw [hput] at hp1
    have hn := hP _ _ _ _ ho q1 (z_vtl (z_vtl (z_vtl q2))) H1 locs1 jls hp1 hs1 hl
    rw [h1] at hn
    exact hn
  · exact ho.elim

theorem ok_zast (hd : decode b pc = .ok (.bastore, 1)) (h0 : pcs.getD i 0 = pc) (h1 : pcs.getD (i + 1) 0 = pc + 1) : z_OpOk tab b nL ret own pcs i (o_zast) := by
  intro h O IH l E K p e R s m args below meth c C P hP ls st M ho
  obtain ⟨hx, hb, hml, hown, hts, hr, hlk, hE, hV, hRf, hRl⟩ := C
  unfold o_zast at ho
  split at ho
  · rename_i x j id st2
    obtain ⟨hk, h01, hj, ho⟩ := ho
    intro q1 q2 H locs jls hp hs hl
    have hid : id ∈ E.2.2.2 := z_live (z_vhd (z_vtl (z_vtl q2))) (by rw [hk]; decide) (by rw [hk]; decide) (by rw [hk]; decide)
    obtain ⟨q0, hq0, hq1⟩ := z_at hid M
    have hc : ∀ M, z_cont E M id = .inl (E.2.1 4, 24, .inl (M.1 40 id.2.1 id.2.2)) := fun M => by
      obtain ⟨a9, w9, i9⟩ := id
      have hk : a9 = 40 := hk
      subst hk
      rfl
    rw [hc] at hq1
    rw [h0, List.map_cons, List.map_cons, List.map_cons, z_cref (by rw [hk]; decide)]
    refine va_zast hx hb hV.1 hp (z_wsD hE M) hs q0 4 hq1 rfl hj hd (fun H1 locs1 hp1 _ hs1 => ?_)
    rw [(z_narz h01).2.2] at hp1
    have hput := z_put hE (M := M) (M2 := z_up M 40 id.2.1 id.2.2 j.toNatClampNeg x) hq0 (by rw [hc, z_up_row]) (fun id2 _ hne => z_cont_up (by rw [← hk]; exact hne))
    rw [hput] at hp1
    have hn := hP _ _ _ _ ho q1 (z_vtl (z_vtl (z_vtl q2))) H1 locs1 jls hp1 hs1 hl
    rw [h1] at hn
    exact hn
  · exact ho.elim

theorem ok_last (hd : decode b pc = .ok (.lastore, 1)) (h0 : pcs.getD i 0 = pc) (h1 : pcs.getD (i + 1) 0 = pc + 1) : z_OpOk tab b nL ret own pcs i (o_last) := by
  intro h O IH l E K p e R s m args below meth c C P hP ls st M ho
  obtain ⟨hx, hb, hml, hown, hts, hr, hlk, hE, hV, hRf, hRl⟩ := C
  unfold o_last at ho
  split at ho
  · rename_i x j id st2
    obtain ⟨hJ, hj, ho⟩ := ho
    intro q1 q2 H locs jls hp hs hl
    obtain ⟨hc, g0, g5, g9⟩ := z_contJ (E := E) (M := M) hJ
    have hid : id ∈ E.2.2.2 := z_live (z_vhd (z_vtl (z_vtl q2))) g0 g5 g9
    obtain ⟨q0, hq0, hq1⟩ := z_at hid M
    rw [hc] at hq1
    rw [h0, List.map_cons, List.map_cons, List.map_cons, z_cref g0]
    refine va_last hx hb hV.1 hp (z_wsD hE M) hs q0 1 hq1 rfl hj hd (fun H1 locs1 hp1 _ hs1 => ?_)
    have hput := z_put hE (M := M) (M2 := z_upL M id.1 j.toNatClampNeg x) hq0 (by rw [(z_contJ (E := E) hJ).1, z_upL_row]) (fun id2 h2 hne => z_cont_upL (fun q => hne (hE.2.2.2 id2 h2 id hid hJ q)))
    rw [hput] at hp1
    have hn := hP _ _ _ _ ho q1 (z_vtl (z_vtl (z_vtl q2))) H1 locs1 jls hp1 hs1 hl
    rw [h1] at hn
    exact hn
  · exact ho.elim

theorem ok_gets {idx j : Nat} {nm : String} (hj : (j = 0 ∧ nm = "FIRST_DO") ∨ (j = 1 ∧ nm = "OTHERS_DO")) (hw : Cond.fieldLink own idx "TagReaders$World" nm "[I" ∈ zw) (hd : decode b pc = .ok (.getstatic idx, 3)) (h0 : pcs.getD i 0 = pc) (h1 : pcs.getD (i + 1) 0 = pc + 3) : z_OpOk tab b nL ret own pcs i (o_gets j) := by
  intro h O IH l E K p e R s m args below meth c C P hP ls st M ho
  obtain ⟨hx, hb, hml, hown, hts, hr, hlk, hE, hV, hRf, hRl⟩ := C
  unfold o_gets at ho
  intro q1 q2 H locs jls hp hs hl
  have hn := hP _ _ _ _ ho q1 (z_vcons (Or.inr (Or.inl rfl)) q2) H locs jls hp hs hl
  rw [h1, List.map_cons, z_cref (by show ¬ (50 : Nat) = 0; decide)] at hn
  rw [h0]
  rcases hj with ⟨rfl, rfl⟩ | ⟨rfl, rfl⟩
  · exact va_gets hx hb hV.2.2.1 hs hown (hts _ hw) (fun _ h9 => h9) hd hn
  · exact va_gets hx hb hV.2.2.2.2.1 hs hown (hts _ hw) (fun _ h9 => h9) hd hn

theorem ok_alens (hd : decode b pc = .ok (.arraylength, 1)) (h0 : pcs.getD i 0 = pc) (h1 : pcs.getD (i + 1) 0 = pc + 1) : z_OpOk tab b nL ret own pcs i (o_alens) := by
  intro h O IH l E K p e R s m args below meth c C P hP ls st M ho
  obtain ⟨hx, hb, hml, hown, hts, hr, hlk, hE, hV, hRf, hRl⟩ := C
  unfold o_alens at ho
  split at ho
  · rename_i id st2
    obtain ⟨hid, ho⟩ := ho
    intro q1 q2 H locs jls hp hs hl
    have hn := hP _ _ _ _ ho q1 (z_vcons trivial (z_vtl q2)) H locs jls hp hs hl
    rw [h1] at hn
    rcases hid with rfl | rfl
    · rw [h0, List.map_cons, z_cref (by simp)]
      exact va_tlen hx hb hV.2.2.2.1 hs rfl hd hn
    · rw [h0, List.map_cons, z_cref (by simp)]
      exact va_tlen hx hb hV.2.2.2.2.2 hs rfl hd hn
  · exact ho.elim

theorem ok_mmax {idx : Nat} (w1 : Cond.methodLink own idx Lib.Math.max.name ∈ zw) (w2 : Cond.static Lib.Math.max.name ∈ zw) (w3 : Cond.initialized "java/lang/Math" ∈ zw) (w4 : Cond.code Lib.Math.max.name Lib.Math.max.code 2 (some .int) ∈ zw) (hd : decode b pc = .ok (.invokestatic idx, 3)) (h0 : pcs.getD i 0 = pc) (h1 : pcs.getD (i + 1) 0 = pc + 3) : z_OpOk tab b nL ret own pcs i (o_mmax) := by
  intro h O IH l E K p e R s m args below meth c C P hP ls st M ho
  obtain ⟨hx, hb, hml, hown, hts, hr, hlk, hE, hV, hRf, hRl⟩ := C
  unfold o_mmax at ho
  split at ho
  · rename_i y x st2
    obtain ⟨hc8, ho⟩ := ho
    intro q1 q2 H locs jls hp hs hl
    have hn := hP _ _ _ _ ho q1 (z_vcons trivial (z_vtl (z_vtl q2))) H locs jls hp hs hl
    rw [h1] at hn
    rw [h0]
    exact va_mmax hx hb (hml.trans hl.1.symm) hown (hts _ w1) (hts _ w2) (hts _ w3) (hts _ w4) (by omega) (by rw [z_catsum, hRl]; omega) (Nat.zero_le _) (Nat.zero_le _) hd hn
  · exact ho.elim

theorem ok_mmin {idx : Nat} (w1 : Cond.methodLink own idx Lib.Math.min.name ∈ zw) (w2 : Cond.static Lib.Math.min.name ∈ zw) (w3 : Cond.initialized "java/lang/Math" ∈ zw) (w4 : Cond.code Lib.Math.min.name Lib.Math.min.code 2 (some .int) ∈ zw) (hd : decode b pc = .ok (.invokestatic idx, 3)) (h0 : pcs.getD i 0 = pc) (h1 : pcs.getD (i + 1) 0 = pc + 3) : z_OpOk tab b nL ret own pcs i (o_mmin) := by
  intro h O IH l E K p e R s m args below meth c C P hP ls st M ho
  obtain ⟨hx, hb, hml, hown, hts, hr, hlk, hE, hV, hRf, hRl⟩ := C
  unfold o_mmin at ho
  split at ho
  · rename_i y x st2
    obtain ⟨hc8, ho⟩ := ho
    intro q1 q2 H locs jls hp hs hl
    have hn := hP _ _ _ _ ho q1 (z_vcons trivial (z_vtl (z_vtl q2))) H locs jls hp hs hl
    rw [h1] at hn
    rw [h0]
    exact va_mmin hx hb (hml.trans hl.1.symm) hown (hts _ w1) (hts _ w2) (hts _ w3) (hts _ w4) (by omega) (by rw [z_catsum, hRl]; omega) (Nat.zero_le _) (Nat.zero_le _) hd hn
  · exact ho.elim

theorem ok_copy {idx kd n : Nat} (hI : z_isI kd = true) (hn0 : n ≤ z_len kd) (hn1 : n < 2 ^ 31) (w1 : Cond.methodLink own idx arraycopyName ∈ zw) (w2 : Cond.native arraycopyName ∈ zw) (w3 : Cond.static arraycopyName ∈ zw) (w4 : Cond.initialized "java/lang/System" ∈ zw) (hd : decode b pc = .ok (.invokestatic idx, 3)) (h0 : pcs.getD i 0 = pc) (h1 : pcs.getD (i + 1) 0 = pc + 3) : z_OpOk tab b nL ret own pcs i (o_copy kd n) := by
  intro h O IH l E K p e R s m args below meth c C P hP ls st M ho
  obtain ⟨hx, hb, hml, hown, hts, hr, hlk, hE, hV, hRf, hRl⟩ := C
  unfold o_copy at ho
  split at ho
  · rename_i c0 d0 t a0 f st2
    obtain ⟨ht, hf, rfl, rfl, rfl, hc8, ho⟩ := ho
    intro q1 q2 H locs jls hp hs hl
    have hIt : z_isI t.1 = true := by rw [ht]; exact hI
    have hIf : z_isI f.1 = true := by rw [hf]; exact hI
    obtain ⟨hct, g0, g5, g9⟩ := z_contI (E := E) (M := M) hIt
    obtain ⟨hcf, f0, f5, f9⟩ := z_contI (E := E) (M := M) hIf
    have hidt : t ∈ E.2.2.2 := z_live (z_vhd (z_vtl (z_vtl q2))) g0 g5 g9
    have hidf : f ∈ E.2.2.2 := z_live (z_vhd (z_vtl (z_vtl (z_vtl (z_vtl q2))))) f0 f5 f9
    obtain ⟨qt, hqt, hqt1⟩ := z_at hidt M
    obtain ⟨qf, hqf, hqf1⟩ := z_at hidf M
    rw [hct, ht] at hqt1
    rw [hcf, hf] at hqf1
    rw [h0, List.map_cons, List.map_cons, List.map_cons, List.map_cons, List.map_cons, z_cref g0, z_cref f0]
    have hcl : (nI n).toNatClampNeg = n := nI_clamp hn1
    have hz : (0 : Int32).toNatClampNeg = 0 := rfl
    have hwd : nativeFrameWords "java/lang/System" "arraycopy" 5 = 7 := by decide +kernel
    have hlo : ((st2.map (z_c E)).map fun v => v.category).sum + (nativeFrameWords "java/lang/System" "arraycopy" 5 + 11) ≤ R.locals := by
      rw [z_catsum, hwd, hRl]
      omega
    refine va_copyi (sp := 0) (dp := 0) (n := nI n) hx hb (hml.trans hl.1.symm) hown (hts _ w1) (hts _ w2) (hts _ w3) (hts _ w4) hV.1 hp (z_wsD hE M) hs qf qt 0 0 hqf1 hqt1 rfl rfl rfl (by decide) (by decide) (nI_pos hn1) (by rw [hcl, hz, Nat.zero_add]; exact hn0) (by rw [hcl, hz, Nat.zero_add]; exact hn0) (fun _ _ => rfl) (by omega) hlo hd (fun H1 locs1 hp1 _ hs1 => ?_)
    have hput := z_put hE (M := M) (M2 := z_cp M kd t.2.1 t.2.2 (fun j => if j < n then M.1 kd f.2.1 f.2.2 j else M.1 kd t.2.1 t.2.2 j)) hqt (x := .inl (E.2.1 0, z_len kd, .inl (va_cpy (M.1 kd f.2.1 f.2.2) (M.1 kd t.2.1 t.2.2) (0 : Int32).toNatClampNeg (0 : Int32).toNatClampNeg (nI n).toNatClampNeg))) (by
      rw [(z_contI (E := E) hIt).1, ht]
      congr 4
      funext j
      unfold z_cp va_cpy
      rw [hcl, hz]
      simp) (fun id2 _ hne => z_cont_cp (by rw [← ht]; exact hne))
    rw [hput] at hp1
    have hn := hP _ _ _ _ ho q1 (z_vtl (z_vtl (z_vtl (z_vtl (z_vtl q2))))) H1 locs1 jls hp1 hs1 hl
    rw [h1] at hn
    exact hn
  · exact ho.elim

theorem ok_callS {k n idx : Nat} (hcode : Cond.code (tab k).1 (tab k).2.1 (tab k).2.2.1 (tab k).2.2.2 ∈ zw) (hini : Cond.initialized (tab k).1.cls ∈ zw) (hdc : (tab k).1.cls ≠ "java/lang/invoke/MethodHandle" ∧ (tab k).1.cls ≠ "java/lang/invoke/VarHandle" ∧ (parseMethodDescriptor (tab k).1.desc).map (fun d => d.parameters.length) = some n) (hmax : (tab k).2.2.1 ≤ 45) (hl9 : Cond.methodLink own idx (tab k).1 ∈ zw) (hst : Cond.static (tab k).1 ∈ zw) (hd : decode b pc = .ok (.invokestatic idx, 3)) (h0 : pcs.getD i 0 = pc) (h1 : pcs.getD (i + 1) 0 = pc + 3) : z_OpOk tab b nL ret own pcs i (o_call k n) := by
  intro h O IH l E K p e R s m args below meth c C P hP ls st M ho
  obtain ⟨hx, hb, hml, hown, hts, hr, hlk, hE, hV, hRf, hRl⟩ := C
  unfold o_call at ho
  split at ho
  · exact ho.elim
  · rename_i as st2 hpop
    obtain ⟨hc8, ho⟩ := ho
    intro q1 q2 H locs jls hp hs hl
    obtain ⟨a1, e1, e2, e3⟩ := z_pop_spec n st [] as st2 hpop
    rw [List.append_nil] at e1
    have hq2 : ∀ v, v ∈ st2 → z_vok E v := fun v hv => q2 v (by rw [e2]; exact List.mem_append_right _ hv)
    have hqa : ∀ v, v ∈ as → z_vok E v := fun v hv => q2 v (by rw [e2]; exact List.mem_append_left _ (by rw [e1] at hv; exact List.mem_reverse.mp hv))
    have hM := IH k l E as M _ hE hqa ho
    have hlen : (as.map (z_c E)).length = n := by rw [List.length_map, e1, List.length_reverse, e3]
    have hst0 : (F0 m pc jls (st.map (z_c E))).stack = (as.map (z_c E)).reverse ++ st2.map (z_c E) := by
      show st.map (z_c E) = _
      rw [e2, List.map_append, e1, List.map_reverse, List.reverse_reverse]
    rw [h0]
    refine z_after (va_runS ⟨hx, hb, hml, hown, hts⟩ hM ⟨callB_of (y := (tab k).1) (bytes := (tab k).2.1) (maxL := (tab k).2.2.1) (ret := (tab k).2.2.2) (ws' := zw) n hts (zw_call hcode) rfl rfl rfl (hts _ hini) (hts _ hl9) hdc ⟨by show h + 1 ≤ R.frames; omega, by show 8 + ((tab k).2.2.1 + 11) + 64 * h ≤ R.locals; omega⟩, hts _ hst⟩ ⟨z_blind E M _, fun U hU hW => ⟨rfl, by rw [hU]; exact hp, z_envW hV hs hU hW⟩⟩ rfl hlen hl.1 hst0 (lv_room (by rw [z_catsum]; exact hc8)) hd ⟨Nat.zero_le _, Nat.zero_le _⟩) hs (fun r M1 H1 locs1 hK hok hp1 hs1 => ?_)
    have hn := hP _ _ _ _ hK q1 (by
      cases r with
      | none => exact hq2
      | some v => exact z_vcons (hok v rfl) hq2) H1 locs1 jls hp1 hs1 hl
    rw [h1] at hn
    cases r with
    | none => exact hn
    | some v => exact hn

theorem ok_callN {k n idx : Nat} (hcode : Cond.code (tab k).1 (tab k).2.1 (tab k).2.2.1 (tab k).2.2.2 ∈ zw) (hini : Cond.initialized (tab k).1.cls ∈ zw) (hdc : (tab k).1.cls ≠ "java/lang/invoke/MethodHandle" ∧ (tab k).1.cls ≠ "java/lang/invoke/VarHandle" ∧ (parseMethodDescriptor (tab k).1.desc).map (fun d => d.parameters.length) = some n) (hmax : (tab k).2.2.1 ≤ 45) {host : String} (hl9 : (own, idx, (tab k).1, host) ∈ z_nws) (hst : Cond.static (tab k).1 ∈ zw) (hd : decode b pc = .ok (.invokestatic idx, 3)) (h0 : pcs.getD i 0 = pc) (h1 : pcs.getD (i + 1) 0 = pc + 3) : z_OpOk tab b nL ret own pcs i (o_call k n) := by
  intro h O IH l E K p e R s m args below meth c C P hP ls st M ho
  obtain ⟨hx, hb, hml, hown, hts, hr, hlk, hE, hV, hRf, hRl⟩ := C
  unfold o_call at ho
  split at ho
  · exact ho.elim
  · rename_i as st2 hpop
    obtain ⟨hc8, ho⟩ := ho
    intro q1 q2 H locs jls hp hs hl
    obtain ⟨a1, e1, e2, e3⟩ := z_pop_spec n st [] as st2 hpop
    rw [List.append_nil] at e1
    have hq2 : ∀ v, v ∈ st2 → z_vok E v := fun v hv => q2 v (by rw [e2]; exact List.mem_append_right _ hv)
    have hqa : ∀ v, v ∈ as → z_vok E v := fun v hv => q2 v (by rw [e2]; exact List.mem_append_left _ (by rw [e1] at hv; exact List.mem_reverse.mp hv))
    have hM := IH k l E as M _ hE hqa ho
    have hlen : (as.map (z_c E)).length = n := by rw [List.length_map, e1, List.length_reverse, e3]
    have hst0 : (F0 m pc jls (st.map (z_c E))).stack = (as.map (z_c E)).reverse ++ st2.map (z_c E) := by
      show st.map (z_c E) = _
      rw [e2, List.map_append, e1, List.map_reverse, List.reverse_reverse]
    rw [h0]
    refine z_after (va_runSN ⟨hx, hb, hml, hown, hts⟩ hM ⟨va_cnB (y := (tab k).1) (bytes := (tab k).2.1) (maxL := (tab k).2.2.1) (ret := (tab k).2.2.2) (ws' := zw) n hts (zw_call hcode) rfl rfl rfl (hV.2.1 _ hl9) (hts _ hini) hdc ⟨by show h + 1 ≤ R.frames; omega, by show 8 + ((tab k).2.2.1 + 11) + 64 * h ≤ R.locals; omega⟩, hts _ hst, trivial⟩ ⟨z_blind E M _, fun U hU hW => ⟨rfl, by rw [hU]; exact hp, z_envW hV hs hU hW⟩⟩ rfl hlen hl.1 hst0 (lv_room (by rw [z_catsum]; exact hc8)) hd ⟨Nat.zero_le _, Nat.zero_le _⟩) hs (fun r M1 H1 locs1 hK hok hp1 hs1 => ?_)
    have hn := hP _ _ _ _ hK q1 (by
      cases r with
      | none => exact hq2
      | some v => exact z_vcons (hok v rfl) hq2) H1 locs1 jls hp1 hs1 hl
    rw [h1] at hn
    cases r with
    | none => exact hn
    | some v => exact hn

theorem ok_callv {kd k n idx ci N : Nat} {C : String} {T : u_T} (hkd : ¬ kd = 0 ∧ ¬ kd = 50 ∧ ¬ kd = 99) (hcl : vwCl[ci]? = some (C, T, N)) (hv : ∀ (E : zE) (M : zMem) (id : zId), id.1 = kd → ∃ fs, z_cont E M id = .inr (ci, fs)) (hcode : Cond.code (tab k).1 (tab k).2.1 (tab k).2.2.1 (tab k).2.2.2 ∈ zw) (hini : Cond.initialized (tab k).1.cls ∈ zw) (hdc : (tab k).1.cls ≠ "java/lang/invoke/MethodHandle" ∧ (tab k).1.cls ≠ "java/lang/invoke/VarHandle" ∧ (parseMethodDescriptor (tab k).1.desc).map (fun d => d.parameters.length) = some n) (hmax : (tab k).2.2.1 ≤ 45) (hl9 : Cond.methodLink own idx (tab k).1 ∈ zw) (hin9 : Cond.instanceMethod (tab k).1 ∈ zw) (hsel : Cond.selects C (tab k).1 (tab k).1 ∈ zw) (hd : decode b pc = .ok (.invokevirtual idx, 3)) (h0 : pcs.getD i 0 = pc) (h1 : pcs.getD (i + 1) 0 = pc + 3) : z_OpOk tab b nL ret own pcs i (o_callv kd k (n + 1)) := by
  intro h O IH l E K p e R s m args below meth c C P hP ls st M ho
  obtain ⟨hx, hb, hml, hown, hts, hr, hlk, hE, hV, hRf, hRl⟩ := C
  unfold o_callv at ho
  split at ho
  · rename_i id as st2 hpop
    obtain ⟨hk, hc8, ho⟩ := ho
    intro q1 q2 H locs jls hp hs hl
    obtain ⟨a1, e1, e2, e3⟩ := z_pop_spec (n + 1) st [] _ st2 hpop
    rw [List.append_nil] at e1
    have hq2 : ∀ v, v ∈ st2 → z_vok E v := fun v hv => q2 v (by rw [e2]; exact List.mem_append_right _ hv)
    have hqa : ∀ v, v ∈ (.inr (.inr id) :: as : List zV) → z_vok E v := fun v hv => q2 v (by rw [e2]; exact List.mem_append_left _ (by rw [e1] at hv; exact List.mem_reverse.mp hv))
    have hid : id ∈ E.2.2.2 := z_live (z_vhd hqa) (by rw [hk]; exact hkd.1) (by rw [hk]; exact hkd.2.1) (by rw [hk]; exact hkd.2.2)
    obtain ⟨q0, hq0, hq1⟩ := z_at hid M
    obtain ⟨fs, hfs⟩ := hv E M id hk
    rw [hfs] at hq1
    have hM := IH k l E _ M _ hE hqa ho
    unfold z_Met at hM
    rw [List.map_cons, z_cref (by rw [hk]; exact hkd.1)] at hM
    have hlen : (as.map (z_c E)).length = n := by
      have := congrArg List.length e1
      simp only [List.length_cons, List.length_reverse, e3] at this
      rw [List.length_map]
      omega
    have hst0 : (F0 m pc jls (st.map (z_c E))).stack = (as.map (z_c E)).reverse ++ .ref (E.2.2.1 id) :: st2.map (z_c E) := by
      show st.map (z_c E) = _
      have e4 : a1 = (Sum.inr (Sum.inr id) :: as : List zV).reverse := by rw [e1, List.reverse_reverse]
      rw [e2, List.map_append, e4, List.map_reverse, List.map_cons, z_cref (by rw [hk]; exact hkd.1)]
      simp
    rw [h0]
    refine z_after (va_runV ⟨hx, hb, hml, hown, hts⟩ hM ⟨callB_of (y := (tab k).1) (bytes := (tab k).2.1) (maxL := (tab k).2.2.1) (ret := (tab k).2.2.2) (ws' := zw) n hts (zw_call hcode) rfl rfl rfl (hts _ hini) (hts _ hl9) hdc ⟨by show h + 1 ≤ R.frames; omega, by show 8 + ((tab k).2.2.1 + 11) + 64 * h ≤ R.locals; omega⟩, hts _ hin9, hts _ hsel⟩ ⟨z_blind E M _, va_recv hV.1 hp hcl hq1, fun U hU hW => ⟨rfl, by rw [hU]; exact hp, z_envW hV hs hU hW⟩⟩ rfl hlen hl.1 hst0 (lv_room (by rw [z_catsum]; exact hc8)) hd ⟨Nat.zero_le _, Nat.zero_le _⟩) hs (fun r M1 H1 locs1 hK hok hp1 hs1 => ?_)
    have hn := hP _ _ _ _ hK q1 (by
      cases r with
      | none => exact hq2
      | some v => exact z_vcons (hok v rfl) hq2) H1 locs1 jls hp1 hs1 hl
    rw [h1] at hn
    cases r with
    | none => exact hn
    | some v => exact hn
  · exact ho.elim

theorem ok_ret (hret : ret = none) (hd : decode b pc = .ok (.return_, 1)) (h0 : pcs.getD i 0 = pc) : z_OpOk tab b nL ret own pcs i (o_ret) := by
  intro h O IH l E K p e R s m args below meth c C P hP ls st M ho
  obtain ⟨hx, hb, hml, hown, hts, hr, hlk, hE, hV, hRf, hRl⟩ := C
  unfold o_ret at ho
  split at ho
  · intro q1 q2 H locs jls hp hs hl
    rw [h0]
    exact W.vret hx hb (hr.trans hret) (fun t ht hW => ⟨none, M, ho, fun v hv => (by cases hv), rfl, by rw [ht]; exact hp, hs.F ht⟩) hs.2.2 hd hlk
  · exact ho.elim

theorem ok_iret (hret : ret = some .int) (hd : decode b pc = .ok (.ireturn, 1)) (h0 : pcs.getD i 0 = pc) : z_OpOk tab b nL ret own pcs i (o_iret) := by
  intro h O IH l E K p e R s m args below meth c C P hP ls st M ho
  obtain ⟨hx, hb, hml, hown, hts, hr, hlk, hE, hV, hRf, hRl⟩ := C
  unfold o_iret at ho
  split at ho
  · rename_i x
    intro q1 q2 H locs jls hp hs hl
    rw [h0]
    exact W.iret hx hb (hr.trans hret) (fun t ht hW => ⟨some (.inl x), M, ho, fun v hv => by cases hv; trivial, rfl, by rw [ht]; exact hp, hs.F ht⟩) hs.2.2 hd hlk
  · exact ho.elim

theorem ok_zret (hret : ret = some .boolean) (hd : decode b pc = .ok (.ireturn, 1)) (h0 : pcs.getD i 0 = pc) : z_OpOk tab b nL ret own pcs i (o_zret) := by
  intro h O IH l E K p e R s m args below meth c C P hP ls st M ho
  obtain ⟨hx, hb, hml, hown, hts, hr, hlk, hE, hV, hRf, hRl⟩ := C
  unfold o_zret at ho
  split at ho
  · rename_i x
    obtain ⟨h01, ho⟩ := ho
    intro q1 q2 H locs jls hp hs hl
    rw [h0]
    exact W.zret hx hb (hr.trans hret) (z_narz h01).1 (fun t ht hW => ⟨some (.inl x), M, ho, fun v hv => by cases hv; trivial, rfl, by rw [ht]; exact hp, hs.F ht⟩) hs.2.2 hd hlk
  · exact ho.elim

theorem ok_lret (hret : ret = some .long) (hd : decode b pc = .ok (.lreturn, 1)) (h0 : pcs.getD i 0 = pc) : z_OpOk tab b nL ret own pcs i (o_lret) := by
  intro h O IH l E K p e R s m args below meth c C P hP ls st M ho
  obtain ⟨hx, hb, hml, hown, hts, hr, hlk, hE, hV, hRf, hRl⟩ := C
  unfold o_lret at ho
  split at ho
  · rename_i x
    intro q1 q2 H locs jls hp hs hl
    rw [h0]
    exact W.lret hx hb (hr.trans hret) (fun t ht hW => ⟨some (.inr (.inl x)), M, ho, fun v hv => by cases hv; trivial, rfl, by rw [ht]; exact hp, hs.F ht⟩) hs.2.2 hd hlk
  · exact ho.elim

theorem ok_aret {cn : String} (hret : ret = some (.object cn)) (hd : decode b pc = .ok (.areturn, 1)) (h0 : pcs.getD i 0 = pc) : z_OpOk tab b nL ret own pcs i (o_aret) := by
  intro h O IH l E K p e R s m args below meth c C P hP ls st M ho
  obtain ⟨hx, hb, hml, hown, hts, hr, hlk, hE, hV, hRf, hRl⟩ := C
  unfold o_aret at ho
  split at ho
  · rename_i id
    obtain ⟨h9, h5, ho⟩ := ho
    intro q1 q2 H locs jls hp hs hl
    rw [h0]
    have hrv : z_c E (.inr (.inr id)) = .null ∨ ∃ a, z_c E (.inr (.inr id)) = .ref a := by
      by_cases hz : id.1 = 0
      · exact Or.inl (z_cnull hz)
      · exact Or.inr ⟨_, z_cref hz⟩
    exact W.aret hx hb (hr.trans hret) (Or.inl ⟨_, rfl⟩) hrv (fun t ht hW => ⟨some (.inr (.inr id)), M, ho, fun v hv => by cases hv; exact z_vhd q2, rfl, by rw [ht]; exact hp, hs.F ht⟩) hs.2.2 hd hlk
  · exact ho.elim

theorem z_cases_spec {x : Int32} {f : Nat → Prop} {d : Nat} : ∀ (ts : List Nat) (lo : Nat), lo + ts.length < 2 ^ 31 → z_cases x f d (lo : Int) ts → (∃ (j t : Nat), ts[j]? = some t ∧ x.toInt = (lo : Int) + j ∧ f t) ∨ ((∀ j : Nat, j < ts.length → ¬ x.toInt = (lo : Int) + j) ∧ f d)
  | [], lo, _, h => Or.inr ⟨fun j hj => by simp at hj, h⟩
  | t :: ts, lo, hlo, h => by
    obtain ⟨h1, h2⟩ := h
    have hlo2 : lo < 2 ^ 31 := by simp only [List.length_cons] at hlo; omega
    have e1 : Int32.ofInt (lo : Int) = nI lo := rfl
    by_cases hx : x = Int32.ofInt (lo : Int)
    · refine Or.inl ⟨0, t, rfl, ?_, h1 hx⟩
      rw [hx, e1, nI_toInt hlo2]
      simp
    · have h3 := h2 hx
      rw [show (lo : Int) + 1 = ((lo + 1 : Nat) : Int) by omega] at h3
      rcases z_cases_spec ts (lo + 1) (by simp only [List.length_cons] at hlo; omega) h3 with ⟨j, t2, g1, g2, g3⟩ | ⟨g1, g2⟩
      · exact Or.inl ⟨j + 1, t2, by simpa using g1, by rw [g2]; omega, g3⟩
      · refine Or.inr ⟨fun j hj => ?_, g2⟩
        cases j with
        | zero =>
          intro hq
          apply hx
          rw [e1]
          apply Int32.toInt_inj.mp
          rw [hq, nI_toInt hlo2]
          simp
        | succ j =>
          intro hq
          exact g1 j (by simpa using hj) (by rw [hq]; omega)

theorem ok_tsw {dflt hi : Int} {lo : Nat} {offs : Array Int} {len : Nat} {ts : List Nat} {d : Nat} (hd : decode b pc = .ok (.tableswitch dflt (lo : Int) hi offs, len)) (h0 : pcs.getD i 0 = pc) (hlo : lo + ts.length < 2 ^ 31) (hhi : hi = (lo : Int) + ts.length - 1) (htab : (List.range ts.length).all (fun j => decide (offs[j]? = some ((pcs.getD (ts.getD j 0) 0 : Nat) - (pc : Int)))) = true) (hdf : (pc : Int) + dflt = ((pcs.getD d 0 : Nat) : Int)) : z_OpOk tab b nL ret own pcs i (o_tsw (lo : Int) ts d) := by
  intro h O IH l E K p e R s m args below meth c C P hP ls st M ho
  obtain ⟨hx, hb, hml, hown, hts, hr, hlk, hE, hV, hRf, hRl⟩ := C
  unfold o_tsw at ho
  split at ho
  · rename_i x st2
    intro q1 q2 H locs jls hp hs hl
    rw [h0]
    rcases z_cases_spec ts lo hlo ho with ⟨j, t, g1, g2, g3⟩ | ⟨g1, g2⟩
    · have hn := hP _ _ _ _ g3 q1 (z_vtl q2) H locs jls hp hs hl
      have hj : j < ts.length := (List.getElem?_eq_some_iff.mp g1).1
      have hof := of_decide_eq_true (List.all_eq_true.mp htab j (List.mem_range.mpr hj))
      have hg : ts.getD j 0 = t := by simp [g1]
      rw [hg] at hof
      refine lv_tableIn (off := (pcs.getD t 0 : Nat) - (pc : Int)) (tgt := pcs.getD t 0) hx hb hd (by omega) (by omega) ?_ (by omega) hn
      rw [show (x.toInt - (lo : Int)).toNat = j by omega]
      exact hof
    · have hn := hP _ _ _ _ g2 q1 (z_vtl q2) H locs jls hp hs hl
      refine lv_tableOut (tgt := pcs.getD d 0) hx hb hd ?_ hdf hn
      by_cases q : x.toInt < (lo : Int)
      · exact Or.inl q
      · refine Or.inr ?_
        have := g1 (x.toInt - lo).toNat
        by_cases hq : (x.toInt - lo).toNat < ts.length
        · exact absurd (by omega) (this hq)
        · omega
  · exact ho.elim

end Zops2
