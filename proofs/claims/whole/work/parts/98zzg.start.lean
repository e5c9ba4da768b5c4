/-! the start -/
def z_lst0 : List zId := ([(10, 0, 0), (1, 0, 0), (45, 0, 0), (46, 0, 0), (48, 0, 0)] ++ z_nid 0) ++ z_l10
theorem z_lst0a : ∀ id, id ∈ z_lst0 → (id.1 = 10 → id = (10, 0, 0)) ∧ ¬ id.2.1 = 1 ∧ ¬ id.2.1 = 2 := by decide +kernel
theorem z_lst0b : ∀ id, id ∈ ([(10, 0, 0), (1, 0, 0), (45, 0, 0), (46, 0, 0), (48, 0, 0)] ++ z_nid 0 : List zId) → ¬ id.1 = 11 ∧ ¬ id.1 = 24 ∧ ¬ id.1 = 40 ∧ ¬ id.1 = 47 := by decide +kernel
theorem z_b4c : ∀ id, id ∈ ([(10, 0, 0), (1, 0, 0), (45, 0, 0), (46, 0, 0), (48, 0, 0)] : List zId) → ∀ id2, id2 ∈ z_succ id → id2 ∈ ([(10, 0, 0), (1, 0, 0), (45, 0, 0), (46, 0, 0), (48, 0, 0)] : List zId) ++ z_nid 0 := by decide +kernel
theorem z_b4k : ∀ id, id ∈ ([(10, 0, 0), (1, 0, 0), (45, 0, 0), (46, 0, 0), (48, 0, 0)] : List zId) → ¬ id.1 = 0 ∧ ¬ id.1 = 50 ∧ ¬ id.1 = 99 := by decide +kernel
theorem z_b4j : ∀ id2, id2 ∈ ([(10, 0, 0), (1, 0, 0), (45, 0, 0), (46, 0, 0), (48, 0, 0)] : List zId) → ∀ id, id ∈ ([(10, 0, 0), (1, 0, 0), (45, 0, 0), (46, 0, 0), (48, 0, 0)] : List zId) → z_isJ id.1 = true → id2.1 = id.1 → id2 = id := by decide +kernel
def z_Eb (E : zE) (qx ch qa qb qe h1 : Nat) : zE := (E.1, E.2.1, (fun id => if id.1 = 50 then E.2.2.1 id else if id.1 = 10 then qx else if id.1 = 1 then ch else if id.1 = 45 then qa else if id.1 = 46 then qb else if id.1 = 48 then qe else h1), [(10, 0, 0), (1, 0, 0), (45, 0, 0), (46, 0, 0), (48, 0, 0)])
def z_F10 (E : zE) (qm r0 r1 r2 z cr : Nat) : va_W := [(qm, .inr (8, [.ref r0, .ref r1, .ref r2, .int 0, .ref z, .int 0, .int 0, .ref cr])), (r0, .inl (E.2.1 0, 33214, .inl r_0)), (r1, .inl (E.2.1 0, 33214, .inl (fun _ => 0))), (r2, .inl (E.2.1 0, 33214, .inl (fun _ => 0))), (z, .inl (E.2.1 4, 24, .inl (fun _ => 0))), (cr, .inl (E.2.1 1, 221, .inr (.inl (fun _ => 0))))]
set_option maxRecDepth 100000 in
theorem z_first {A : Nat → Prop} {E : zE} {H : Heap} {qx ch qa qb qe h1 qT qR qj ij qc qm r0 r1 r2 z cr : Nat} {ad : Nat → Nat} {f : Nat → Nat → Nat}
    (hP : va_P E.1 vwCl ((([(qx, .inr (7, [.ref ch, .ref h1, .null, .null])), (ch, .inr (0, [.ref qa, .ref qb, .ref qe])), (qa, .inl (E.2.1 1, 221, .inr (.inl tW))), (qb, .inl (E.2.1 1, 221, .inr (.inl tC))), (qe, .inl (E.2.1 0, 13, .inl z_bs))] : va_W) ++ (z_w6c E ch h1 qT qR qj ij qc ad f ++ z_tgs ad 24 ++ z_rds f (E.2.1 0) 4)) ++ z_F10 E qm r0 r1 r2 z cr) H)
    (hD : va_D A ((([(qx, .inr (7, [.ref ch, .ref h1, .null, .null])), (ch, .inr (0, [.ref qa, .ref qb, .ref qe])), (qa, .inl (E.2.1 1, 221, .inr (.inl tW))), (qb, .inl (E.2.1 1, 221, .inr (.inl tC))), (qe, .inl (E.2.1 0, 13, .inl z_bs))] : va_W) ++ (z_w6c E ch h1 qT qR qj ij qc ad f ++ z_tgs ad 24 ++ z_rds f (E.2.1 0) 4)) ++ z_F10 E qm r0 r1 r2 z cr)) :
    ∃ E2 : zE, E2.1 = E.1 ∧ E2.2.1 = E.2.1 ∧ (∀ i, E2.2.2.1 (50, 0, i) = E.2.2.1 (50, 0, i)) ∧ E2.2.2.1 (10, 0, 0) = qx ∧ E2.2.2.1 (11, 0, 0) = qm ∧ z_wld E2 0 0 ∧ va_P E2.1 vwCl (z_ws E2 J_0) H ∧ va_D A (z_ws E2 J_0) := by
  have e4 : z_ws (z_Eb E qx ch qa qb qe h1) J_0 = [(qx, .inr (7, [.ref ch, .ref h1, .null, .null])), (ch, .inr (0, [.ref qa, .ref qb, .ref qe])), (qa, .inl (E.2.1 1, 221, .inr (.inl tW))), (qb, .inl (E.2.1 1, 221, .inr (.inl tC))), (qe, .inl (E.2.1 0, 13, .inl z_bs))] := rfl
  rw [← e4, List.append_assoc (z_w6c E ch h1 qT qR qj ij qc ad f)] at hP hD
  have hD1 : va_D A (z_ws (z_Eb E qx ch qa qb qe h1) J_0 ++ (z_w6c E ch h1 qT qR qj ij qc ad f ++ (z_tgs ad 24 ++ z_rds f (E.2.1 0) 4))) := ⟨fun i j x y hi hj e => hD.1 i j x y (by rw [List.getElem?_append_left (List.getElem?_eq_some_iff.mp hi).1]; exact hi) (by rw [List.getElem?_append_left (List.getElem?_eq_some_iff.mp hj).1]; exact hj) e, fun k q hk => hD.2 k q (by rw [List.getElem?_append_left (List.getElem?_eq_some_iff.mp hk).1]; exact hk)⟩
  obtain ⟨-, -, g3⟩ := z_grow (E := z_Eb E qx ch qa qb qe h1) (M := J_0) (A := A) (w := 0) (.inl rfl) z_b4c z_b4k z_b4j rfl (List.mem_cons_of_mem _ List.mem_cons_self) (fun id hid => by
    rcases List.mem_cons.mp hid with q | q
    · rw [q]; exact ⟨rfl, rfl⟩
    · rcases List.mem_cons.mp q with q | q
      · rw [q]; exact ⟨rfl, rfl⟩
      · rcases List.mem_cons.mp q with q | q
        · rw [q]; exact ⟨rfl, rfl⟩
        · rcases List.mem_cons.mp q with q | q
          · rw [q]; exact ⟨rfl, rfl⟩
          · rw [List.mem_singleton.mp q]; exact ⟨rfl, rfl⟩) (va_Pl hP) hD1
  have eW : z_ws (z_grw (z_Eb E qx ch qa qb qe h1) h1 qT qR qj ij qc ad f 0) J_0 = z_ws (z_Eb E qx ch qa qb qe h1) J_0 ++ (z_w6 E ch h1 qT qR qj ij qc ad f ++ (z_tgs ad 24 ++ z_rds f (E.2.1 0) 4)) := by
    have hn := z_nwc (E := z_Eb E qx ch qa qb qe h1) (M := J_0) (ch := ch) (h1 := h1) (qT := qT) (qR := qR) (qj := qj) (ij := ij) (qc := qc) (ad := ad) (f := f) (w := 0) (.inl rfl) rfl
    rw [Mw_J0] at hn
    show (((z_Eb E qx ch qa qb qe h1).2.2.2 ++ z_nid 0).map (fun id => ((z_grw (z_Eb E qx ch qa qb qe h1) h1 qT qR qj ij qc ad f 0).2.2.1 id, z_cont (z_grw (z_Eb E qx ch qa qb qe h1) h1 qT qR qj ij qc ad f 0) J_0 id))) = _
    rw [List.map_append, hn]
    rfl
  have hP2 : va_P E.1 vwCl (z_ws (z_grw (z_Eb E qx ch qa qb qe h1) h1 qT qR qj ij qc ad f 0) J_0 ++ z_F10 E qm r0 r1 r2 z cr) H := by
    rw [eW]
    exact va_P.app (va_P.app (va_Pl (va_Pl hP)) (z_w6of (va_Pr (va_Pl hP)))) (va_Pr hP)
  have hD2 : va_D A (z_ws (z_grw (z_Eb E qx ch qa qb qe h1) h1 qT qR qj ij qc ad f 0) J_0 ++ z_F10 E qm r0 r1 r2 z cr) := by
    rw [eW]
    exact va_Dad hD (by
      simp only [List.map_append]
      rfl)
  obtain ⟨y1, y2, y3⟩ := z_gref (E := z_grw (z_Eb E qx ch qa qb qe h1) h1 qT qR qj ij qc ad f 0) (M := J_0) (qm := qm) (r0 := r0) (r1 := r1) (r2 := r2) (z := z) (cr := cr) (F := z_F10 E qm r0 r1 r2 z cr) g3 z_lst0b rfl hP2 hD2
  exact ⟨z_gr (z_grw (z_Eb E qx ch qa qb qe h1) h1 qT qR qj ij qc ad f 0) qm r0 r1 r2 z cr, rfl, rfl, fun _ => rfl, rfl, rfl, ⟨y3, List.mem_append_left _ (List.mem_append_left _ List.mem_cons_self), List.mem_append_right _ List.mem_cons_self, fun id h => (z_lst0a id h).1, fun _ id h => (z_lst0a id h).2.1, fun z => absurd rfl z, fun _ id h => (z_lst0a id h).2.2, fun z => absurd rfl z⟩, y1, y2⟩
set_option maxHeartbeats 8000000 in
set_option maxRecDepth 100000 in
theorem whole_walk {p : Program} {e : Env} {s : State} {m : MethodId} {below : List Frame} {meth : Method} {c : Code} (l : Launch) {b L : Nat} {xs : Nat → Int32} (C : ll_C p s m meth c b L xs) (E : zE) (hV : z_eA E (fun q : Nat => s.heap.size ≤ q) s) : W p l e room_1 s m #[Value.ref b] below meth c s.heap [] 0 0 (lw_Z below #[Value.ref b] s) (entryFrame m ([Value.ref b] : List Value).toArray 4) := by
  obtain ⟨hx, hb, hr, hml, hown, htz, hX, hbl, hlk, hL⟩ := id C
  have hA : ∀ q : Nat, s.heap.size ≤ q → (fun q : Nat => s.heap.size ≤ q) q := fun _ h => h
  have hS : va_S (fun q : Nat => s.heap.size ≤ q) s.heap s.heap [] := va_S.rf
  have hP : va_P E.1 vwCl [] s.heap := fun k q h => by simp at h
  have hD : va_D (fun q : Nat => s.heap.size ≤ q) [] := ⟨fun i j p q h => by simp at h, fun k q h => by simp at h⟩
  have hl := lv_entry ([.ref b]) (n := 4) (Nat.le_of_ble_eq_true rfl)
  rw [lg_entry_eq]
  generalize (lg_sl ([.ref b]) ++ List.replicate (4 - (lg_sl ([.ref b])).length) Slot.unset).toArray = ls at hl ⊢
  have hl : lv_has ls 4 [(0, .ref b)] := hl
  clear hA
  generalize hAe : (fun q : Nat => s.heap.size ≤ q) = A at hS hD hV
  have hA : ∀ q : Nat, s.heap.size ≤ q → A q := fun q h => by
    rw [← hAe]
    exact h
  refine va_new (ci := 7) (fs := [.null, .null, .null, .null]) (C := RX9) (T := TX9) (N := 4) hx hb htz iw_X9 tyX9 tyX9_ok hown (htz (Cond.classLink RL 7 RX9) qw_902) (htz (Cond.instantiable RX9 4) qw_903) (htz (Cond.initialized RX9) qw_22) hV.1 hP hD hS hA rfl (fun j hj => by rcases (show j = 0 ∨ j = 1 ∨ j = 2 ∨ j = 3 by omega) with rfl | rfl | rfl | rfl <;> rfl) (Nat.le_of_ble_eq_true rfl) (Nat.le_of_ble_eq_true rfl) dL_law_0 (fun qx H hP hD hS => ?_)
  have hP : va_P E.1 vwCl [(qx, .inr (7, [.null, .null, .null, .null]))] H := hP
  have hD : va_D A [(qx, .inr (7, [.null, .null, .null, .null]))] := hD
  refine lv_dup hx hb dL_law_3 rfl ?_
  have hPc := hP
  have hDc := hD
  have hFc := va_free (wc := [(qx, .inr (7, [.null, .null, .null, .null]))]) hD hS hA [0] rfl
  refine va_callv (va_runI (As := []) (rest := [.ref qx]) ⟨hx, hb, hml, hown, htz⟩ (c_X9_init l E qx H.size) (cwI 0 htz (zw_call qw_908) rfl rfl rfl (htz (Cond.initialized RX9) qw_22) (htz (Cond.methodLink RL 9 yX9_init) qw_906) (htz (Cond.instanceMethod yX9_init) qw_907) rfl (by decide +kernel) ⟨Nat.le_of_ble_eq_true rfl, Nat.le_of_ble_eq_true rfl⟩) ⟨fun a U g mk q => by obtain ⟨q0, q1, qP, qV, qD⟩ := q; exact ⟨q0, q1, qP, z_eA_call qV, qD⟩, fun U hU hW => ⟨rfl, by rw [hU], by rw [hU]; exact hPc, z_eA_narrow (z_eA_move hV hS hU hW) hFc, hDc.weaken (fun _ _ _ _ => trivial)⟩⟩ rfl rfl hl.1 rfl (lv_room (Nat.le_of_ble_eq_true rfl)) dL_law_4 ⟨Nat.le_of_ble_eq_true rfl, Nat.le_of_ble_eq_true rfl⟩) hS (fun q _ h => hFc q h) hFc (fun u t H1 locs ht hvm hw hB hz1 hk1 hS => ?_)
  obtain ⟨ch, qa, qb, qe, h1, qT, qR, qj, ij, qc, ad, f, hP1, hD1⟩ := hB
  rw [ht] at hP1
  obtain ⟨hP, hD⟩ := va_join (wr := []) (w1 := (([(qx, .inr (7, [.ref ch, .ref h1, .null, .null])), (ch, .inr (0, [.ref qa, .ref qb, .ref qe])), (qa, .inl (E.2.1 1, 221, .inr (.inl tW))), (qb, .inl (E.2.1 1, 221, .inr (.inl tC))), (qe, .inl (E.2.1 0, 13, .inl z_bs))] : va_W) ++ (z_w6c E ch h1 qT qR qj ij qc ad f ++ z_tgs ad 24 ++ z_rds f (E.2.1 0) 4))) hP hD [0] [] rfl rfl (by decide) (by decide) hk1 hFc hP1 hD1
  have hP : va_P E.1 vwCl (([(qx, .inr (7, [.ref ch, .ref h1, .null, .null])), (ch, .inr (0, [.ref qa, .ref qb, .ref qe])), (qa, .inl (E.2.1 1, 221, .inr (.inl tW))), (qb, .inl (E.2.1 1, 221, .inr (.inl tC))), (qe, .inl (E.2.1 0, 13, .inl z_bs))] : va_W) ++ (z_w6c E ch h1 qT qR qj ij qc ad f ++ z_tgs ad 24 ++ z_rds f (E.2.1 0) 4)) H1 := hP
  have hD : va_D A (([(qx, .inr (7, [.ref ch, .ref h1, .null, .null])), (ch, .inr (0, [.ref qa, .ref qb, .ref qe])), (qa, .inl (E.2.1 1, 221, .inr (.inl tW))), (qb, .inl (E.2.1 1, 221, .inr (.inl tC))), (qe, .inl (E.2.1 0, 13, .inl z_bs))] : va_W) ++ (z_w6c E ch h1 qT qR qj ij qc ad f ++ z_tgs ad 24 ++ z_rds f (E.2.1 0) 4)) := hD
  generalize hWS : (([(qx, .inr (7, [.ref ch, .ref h1, .null, .null])), (ch, .inr (0, [.ref qa, .ref qb, .ref qe])), (qa, .inl (E.2.1 1, 221, .inr (.inl tW))), (qb, .inl (E.2.1 1, 221, .inr (.inl tC))), (qe, .inl (E.2.1 0, 13, .inl z_bs))] : va_W) ++ (z_w6c E ch h1 qT qR qj ij qc ad f ++ z_tgs ad 24 ++ z_rds f (E.2.1 0) 4)) = WS at hP hD
  clear hP1 hD1 hPc hDc hFc hk1
  refine lv_astore_n (lv' := [(1, .ref qx), (0, .ref b)]) hx hb dL_law_7 rfl hl (by decide) rfl (fun ls hl => ?_)
  refine va_new (ci := 8) (fs := [.null, .null, .null, .int 0, .null, .int 0, .int 0, .null]) (C := RX10) (T := TX10) (N := 8) hx hb htz iw_X10 tyX10 tyX10_ok hown (htz (Cond.classLink RL 10 RX10) qw_904) (htz (Cond.instantiable RX10 8) qw_905) (htz (Cond.initialized RX10) qw_618) hV.1 hP hD hS hA rfl (fun j hj => by rcases (show j = 0 ∨ j = 1 ∨ j = 2 ∨ j = 3 ∨ j = 4 ∨ j = 5 ∨ j = 6 ∨ j = 7 by omega) with rfl | rfl | rfl | rfl | rfl | rfl | rfl | rfl <;> rfl) (Nat.le_of_ble_eq_true rfl) (Nat.le_of_ble_eq_true rfl) dL_law_8 (fun qm H hP hD hS => ?_)
  refine lv_dup hx hb dL_law_11 rfl ?_
  have hPc := vx_lastP hP
  have hDc := vx_lastD hD
  have hFc := va_free (wc := [(qm, (.inr (8, [.null, .null, .null, .int 0, .null, .int 0, .int 0, .null]) : va_E))]) hD hS hA [WS.length] vx_lastC
  refine va_callv (va_runI (As := []) (rest := [.ref qm]) ⟨hx, hb, hml, hown, htz⟩ (c_X10_init l E qm H.size) (cwI 0 htz (zw_call qw_962) rfl rfl rfl (htz (Cond.initialized RX10) qw_618) (htz (Cond.methodLink RL 12 yX10_init) qw_960) (htz (Cond.instanceMethod yX10_init) qw_961) rfl (by decide +kernel) ⟨Nat.le_of_ble_eq_true rfl, Nat.le_of_ble_eq_true rfl⟩) ⟨fun a U g mk q => by obtain ⟨q0, q1, qP, qV, qD⟩ := q; exact ⟨q0, q1, qP, z_eA_call qV, qD⟩, fun U hU hW => ⟨rfl, by rw [hU], by rw [hU]; exact hPc, z_eA_narrow (z_eA_move hV hS hU hW) hFc, hDc.weaken (fun _ _ _ _ => trivial)⟩⟩ rfl rfl hl.1 rfl (lv_room (Nat.le_of_ble_eq_true rfl)) dL_law_12 ⟨Nat.le_of_ble_eq_true rfl, Nat.le_of_ble_eq_true rfl⟩) hS (fun q _ h => hFc q h) hFc (fun u t H1 locs ht hvm hw hB hz1 hk1 hS => ?_)
  obtain ⟨r0, r1, r2, z, cr, hP1, hD1⟩ := hB
  rw [ht] at hP1
  obtain ⟨hP, hD⟩ := vx_last hP hD hk1 hFc hP1 hD1
  subst hWS
  obtain ⟨E2, g1, g2, g3, g4, g5, g6, g7, g8⟩ := z_first (qm := qm) (r0 := r0) (r1 := r1) (r2 := r2) (z := z) (cr := cr) hP hD
  refine lv_astore_n (lv' := [(2, .ref qm), (1, .ref qx), (0, .ref b)]) hx hb dL_law_15 rfl hl (by decide) rfl (fun ls hl => ?_)
  refine lv_iconst (v := 0) hx hb dL_law_16 (by decide) ?_
  refine lv_istore_n (lv' := [(3, .int (nI (7 * 0))), (2, .ref qm), (1, .ref qx), (0, .ref b)]) hx hb dL_law_17 rfl hl (by decide) rfl (fun ls hl => ?_)
  rw [← g4, ← g5] at hl
  have hV2 := z_eA_E hV g1 g2 g3
  have hA2 := z_A_of g8
  subst hAe
  exact ll_loop C 513 0 (by omega) E2 J_0 _ _ _ ⟨g6, SB_0, g7, hS, hA2, hV2⟩ hl
set_option maxHeartbeats 8000000 in
set_option maxRecDepth 100000 in
theorem whole_start {p : Program} {e : Env} {s : State} {m : MethodId} {below : List Frame} {meth : Method} {c : Code} (l : Launch) (hflags : l.flags = flags0) {b L : Nat} {xs : Nat → Int32} (hL : L ≤ 3584) (C0 : lw_At p s m meth c b L xs) : W p l e room_1 s m #[Value.ref b] below meth c s.heap [] 0 0 (lw_Z below #[Value.ref b] s) (entryFrame m ([Value.ref b] : List Value).toArray 4) := by
  obtain ⟨hx, hb, hr, hml, hown, hts, hX, hbl, hlocks, hgv⟩ := id C0
  have htz : ∀ w ∈ zw, w.before #[Value.ref b] s = true := fun w hw => hts w (zw_tbl w hw)
  have C : ll_C p s m meth c b L xs := ⟨hx, hb, hr, hml, hown, htz, hX, hbl, hlocks, hL⟩
  obtain ⟨c0, i0, hK0⟩ := u_known (C := RX0) (T := TX0) (N := 3) (n := 3) htz iw_X0 (htz (Cond.instantiable RX0 3) qw_913)
  obtain ⟨c1, i1, hK1⟩ := u_known (C := RX1) (T := TX1) (N := 2) (n := 2) htz iw_X1 (htz (Cond.instantiable RX1 2) qw_935)
  obtain ⟨c2, i2, hK2⟩ := u_known (C := RX2) (T := TX2) (N := 2) (n := 2) htz iw_X2 (htz (Cond.instantiable RX2 2) qw_952)
  obtain ⟨c3, i3, hK3⟩ := u_known (C := RX3) (T := TX3) (N := 18) (n := 18) htz iw_X3 (htz (Cond.instantiable RX3 18) qw_938)
  obtain ⟨c4, i4, hK4⟩ := u_known (C := RX6) (T := TX6) (N := 10) (n := 10) htz iw_X6 (htz (Cond.instantiable RX6 10) qw_937)
  obtain ⟨c5, i5, hK5⟩ := u_known (C := RX7) (T := TX7) (N := 3) (n := 3) htz iw_X7 (htz (Cond.instantiable RX7 3) qw_950)
  obtain ⟨c6, i6, hK6⟩ := u_known (C := RX8) (T := TX8) (N := 9) (n := 9) htz iw_X8 (htz (Cond.instantiable RX8 9) qw_915)
  obtain ⟨c7, i7, hK7⟩ := u_known (C := RX9) (T := TX9) (N := 4) (n := 4) htz iw_X9 (htz (Cond.instantiable RX9 4) qw_903)
  obtain ⟨c8, i8, hK8⟩ := u_known (C := RX10) (T := TX10) (N := 8) (n := 8) htz iw_X10 (htz (Cond.instantiable RX10 8) qw_905)
  obtain ⟨dC, dI, hKc⟩ : ∃ (dC : Nat → ClassId) (dI : Nat → Nat → Nat), ∀ (k : Nat) (q : vw_C), vwCl[k]? = some q → u_Kn s q.1 q.2.1 q.2.2 (dC k) (dI k) := by
    refine ⟨fun k => match k with | 0 => c0 | 1 => c1 | 2 => c2 | 3 => c3 | 4 => c4 | 5 => c5 | 6 => c6 | 7 => c7 | 8 => c8 | _ => c0, fun k => match k with | 0 => i0 | 1 => i1 | 2 => i2 | 3 => i3 | 4 => i4 | 5 => i5 | 6 => i6 | 7 => i7 | 8 => i8 | _ => i0, ?_⟩
    intro k q hq
    match k, hq with
    | 0, hq => cases hq; exact hK0
    | 1, hq => cases hq; exact hK1
    | 2, hq => cases hq; exact hK2
    | 3, hq => cases hq; exact hK3
    | 4, hq => cases hq; exact hK4
    | 5, hq => cases hq; exact hK5
    | 6, hq => cases hq; exact hK6
    | 7, hq => cases hq; exact hK7
    | 8, hq => cases hq; exact hK8
    | k + 9, hq => simp [vwCl] at hq
  obtain ⟨aI, a1, a2⟩ := vx_arrI (htz (Cond.arrayClass .int) qw_921)
  obtain ⟨aJ, j1, j2⟩ := vx_arrJ (htz (Cond.arrayClass .long) qw_920)
  obtain ⟨aZ, z1, z2⟩ := vx_arrZ (htz (Cond.arrayClass .boolean) qw_964)
  have oT : va_AO "TagReaders$Tag" s := va_AO.of (hts (.arrayOver (.object "TagReaders$Tag")) (List.mem_append_right _ (List.mem_of_getElem? (i := 69) (by decide +kernel))))
  have oR : va_AO "TagReaders$Reader" s := va_AO.of (hts (.arrayOver (.object "TagReaders$Reader")) (List.mem_append_right _ (List.mem_of_getElem? (i := 71) (by decide +kernel))))
  obtain ⟨aT, t1, t2⟩ := vx_arrO oT
  obtain ⟨aR, r1, r2⟩ := vx_arrO oR
  have hg := flat_of_before _ hgv
  have hA0 : ∀ a : Nat, a < s.heap.size → ¬ (fun q : Nat => s.heap.size ≤ q) a := fun a h => Nat.not_le.mpr h
  obtain ⟨b0, e0, T0⟩ := va_Tof (args := #[Value.ref b]) (s := s) (tm := (.static "TagReaders$World" "FIRST_DO" "[I")) (ty := .int) (N := 8) (f := fun j => .int (z_sd 0 j)) (A := fun q : Nat => s.heap.size ≤ q) (by decide) (hg (.arrayOf (.static "TagReaders$World" "FIRST_DO" "[I") .int) (by decide +kernel)) (va_eqt (hg (.eq (.length (.static "TagReaders$World" "FIRST_DO" "[I")) (.int 8)) (by decide +kernel))) (fun j hj => by
    rcases (show j = 0 ∨ j = 1 ∨ j = 2 ∨ j = 3 ∨ j = 4 ∨ j = 5 ∨ j = 6 ∨ j = 7 by omega) with rfl | rfl | rfl | rfl | rfl | rfl | rfl | rfl
    · exact va_eqt (hg (.eq (.elem (.static "TagReaders$World" "FIRST_DO" "[I") (.int 0)) (.int 1)) (by decide +kernel))
    · exact va_eqt (hg (.eq (.elem (.static "TagReaders$World" "FIRST_DO" "[I") (.int 1)) (.int 1)) (by decide +kernel))
    · exact va_eqt (hg (.eq (.elem (.static "TagReaders$World" "FIRST_DO" "[I") (.int 2)) (.int 0)) (by decide +kernel))
    · exact va_eqt (hg (.eq (.elem (.static "TagReaders$World" "FIRST_DO" "[I") (.int 3)) (.int 3)) (by decide +kernel))
    · exact va_eqt (hg (.eq (.elem (.static "TagReaders$World" "FIRST_DO" "[I") (.int 4)) (.int 2)) (by decide +kernel))
    · exact va_eqt (hg (.eq (.elem (.static "TagReaders$World" "FIRST_DO" "[I") (.int 5)) (.int 2)) (by decide +kernel))
    · exact va_eqt (hg (.eq (.elem (.static "TagReaders$World" "FIRST_DO" "[I") (.int 6)) (.int 0)) (by decide +kernel))
    · exact va_eqt (hg (.eq (.elem (.static "TagReaders$World" "FIRST_DO" "[I") (.int 7)) (.int 0)) (by decide +kernel))) hA0
  have Z0 : va_Z "TagReaders$World" "FIRST_DO" "[I" (.ref b0) (fun q : Nat => s.heap.size ≤ q) s s.heap := va_Zof (hts (.laysStatic "TagReaders$World" "FIRST_DO" "[I") (List.mem_append_right _ (List.mem_of_getElem? (i := 457) (by decide +kernel)))) (htz (Cond.initialized RX8) qw_124) e0 hA0
  obtain ⟨b1, e1, T1⟩ := va_Tof (args := #[Value.ref b]) (s := s) (tm := (.static "TagReaders$World" "OTHERS_DO" "[I")) (ty := .int) (N := 8) (f := fun j => .int (z_sd 1 j)) (A := fun q : Nat => s.heap.size ≤ q) (by decide) (hg (.arrayOf (.static "TagReaders$World" "OTHERS_DO" "[I") .int) (by decide +kernel)) (va_eqt (hg (.eq (.length (.static "TagReaders$World" "OTHERS_DO" "[I")) (.int 8)) (by decide +kernel))) (fun j hj => by
    rcases (show j = 0 ∨ j = 1 ∨ j = 2 ∨ j = 3 ∨ j = 4 ∨ j = 5 ∨ j = 6 ∨ j = 7 by omega) with rfl | rfl | rfl | rfl | rfl | rfl | rfl | rfl
    · exact va_eqt (hg (.eq (.elem (.static "TagReaders$World" "OTHERS_DO" "[I") (.int 0)) (.int 2)) (by decide +kernel))
    · exact va_eqt (hg (.eq (.elem (.static "TagReaders$World" "OTHERS_DO" "[I") (.int 1)) (.int 0)) (by decide +kernel))
    · exact va_eqt (hg (.eq (.elem (.static "TagReaders$World" "OTHERS_DO" "[I") (.int 2)) (.int 2)) (by decide +kernel))
    · exact va_eqt (hg (.eq (.elem (.static "TagReaders$World" "OTHERS_DO" "[I") (.int 3)) (.int 0)) (by decide +kernel))
    · exact va_eqt (hg (.eq (.elem (.static "TagReaders$World" "OTHERS_DO" "[I") (.int 4)) (.int 1)) (by decide +kernel))
    · exact va_eqt (hg (.eq (.elem (.static "TagReaders$World" "OTHERS_DO" "[I") (.int 5)) (.int 0)) (by decide +kernel))
    · exact va_eqt (hg (.eq (.elem (.static "TagReaders$World" "OTHERS_DO" "[I") (.int 6)) (.int 1)) (by decide +kernel))
    · exact va_eqt (hg (.eq (.elem (.static "TagReaders$World" "OTHERS_DO" "[I") (.int 7)) (.int 3)) (by decide +kernel))) hA0
  have Z1 : va_Z "TagReaders$World" "OTHERS_DO" "[I" (.ref b1) (fun q : Nat => s.heap.size ≤ q) s s.heap := va_Zof (hts (.laysStatic "TagReaders$World" "OTHERS_DO" "[I") (List.mem_append_right _ (List.mem_of_getElem? (i := 473) (by decide +kernel)))) (htz (Cond.initialized RX8) qw_124) e1 hA0
  have hV : z_eA ((dC, dI), (fun k => match k with | 0 => aI | 1 => aJ | 2 => aT | 3 => aR | _ => aZ), (fun id => if id.2.2 = 0 then b0 else b1), []) (fun q : Nat => s.heap.size ≤ q) s := by
    refine ⟨⟨hKc, fun k q hk => ?_⟩, fun q hq => va_Nw.of rfl (hts _ (nws_mem q hq)), ⟨Z0, T0, Z1, T1⟩, oT, oR⟩
    match k, hk with
    | 0, hk => cases hk; exact ⟨a1, a2⟩
    | 1, hk => cases hk; exact ⟨j1, j2⟩
    | 2, hk => cases hk; exact ⟨t1, t2⟩
    | 3, hk => cases hk; exact ⟨r1, r2⟩
    | 4, hk => cases hk; exact ⟨z1, z2⟩
    | k + 5, hk => simp [z_tys] at hk
  exact whole_walk l C _ hV
