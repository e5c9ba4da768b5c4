/-! the law: from its start to its end -/
theorem nws_mem : ∀ q, q ∈ z_nws → Cond.methodLinkNest q.1 q.2.1 q.2.2.1 q.2.2.2 ∈ lw_tbl := List.forall_mem_cons.mpr ⟨List.mem_append_right _ (List.mem_of_getElem? (i := 74) (by decide +kernel)), List.forall_mem_cons.mpr ⟨List.mem_append_right _ (List.mem_of_getElem? (i := 87) (by decide +kernel)), List.forall_mem_cons.mpr ⟨List.mem_append_right _ (List.mem_of_getElem? (i := 144) (by decide +kernel)), List.forall_mem_cons.mpr ⟨List.mem_append_right _ (List.mem_of_getElem? (i := 167) (by decide +kernel)), List.forall_mem_cons.mpr ⟨List.mem_append_right _ (List.mem_of_getElem? (i := 343) (by decide +kernel)), List.forall_mem_cons.mpr ⟨List.mem_append_right _ (List.mem_of_getElem? (i := 458) (by decide +kernel)), List.forall_mem_cons.mpr ⟨List.mem_append_right _ (List.mem_of_getElem? (i := 465) (by decide +kernel)), List.forall_mem_cons.mpr ⟨List.mem_append_right _ (List.mem_of_getElem? (i := 720) (by decide +kernel)), List.forall_mem_cons.mpr ⟨List.mem_append_right _ (List.mem_of_getElem? (i := 789) (by decide +kernel)), List.forall_mem_cons.mpr ⟨List.mem_append_right _ (List.mem_of_getElem? (i := 848) (by decide +kernel)), fun _ h => absurd h List.not_mem_nil⟩⟩⟩⟩⟩⟩⟩⟩⟩⟩
theorem and63 (x : Int32) : ∃ q, q < 64 ∧ x &&& 63 = nI q := by
  refine ⟨(x &&& 63).toBitVec.toNat, ?_, mem_nI _⟩
  show (x.toBitVec &&& (63 : Int32).toBitVec).toNat < 64
  rw [BitVec.toNat_and]
  exact Nat.lt_of_le_of_lt Nat.and_le_right (by decide)
theorem ll_gt {L k : Nat} (hL : L ≤ 3584) (hk : k ≤ 4000) : (Int32.ofNat L - 7 < nI k) ↔ L < k + 7 := by
  have e : (Int32.ofNat L - 7 : Int32).toInt = (L : Int) - 7 := by
    rw [Int32.toInt_sub, show (Int32.ofNat L).toInt = (L : Int) from nI_toInt (by omega), show (7 : Int32).toInt = 7 by decide]
    unfold Int.bmod
    dsimp only
    split <;> omega
  rw [Int32.lt_iff_toInt_lt, e, nI_toInt (by omega)]
  omega
section LL
variable {p : Program} {l : Launch} {e : Env} {s : State} {m : MethodId} {below : List Frame} {meth : Method} {c : Code} {b L : Nat} {xs : Nat → Int32} {H : Heap} {locs : List Loc} {Q : State → Prop} {jls : Array Slot} {E : zE} {M : zMem} {bd i cells slots : Nat}
set_option maxHeartbeats 4000000 in
set_option maxRecDepth 100000 in
theorem ll_step (C : ll_C p s m meth c b L xs) (S : ll_S s E M bd H locs) (hbd : bd < 2000000000) (hl : ll_H jls E b i) (hi : i + 6 < L) (hcs : cells + 70 ≤ 176566 ∧ slots + 7120 ≤ 8572552) (kk : ll_K p l e s m b below meth c Q E bd cells slots jls) : W p l e room_1 s m #[Value.ref b] below meth c H locs cells slots Q (F0 m 27 jls []) := by
  obtain ⟨hx, hb, hr, hml, hown, htz, hX, hbl, hlk, hL⟩ := id C
  obtain ⟨hw, hSB, hP, hS, hA, hV⟩ := id S
  refine lv_aload_n hx hb dL_law_27 rfl (lv_at hl 3 rfl) ?_
  refine lv_iload_n hx hb dL_law_28 rfl (lv_at hl 0 rfl) ?_
  refine va_sld (A := fun q : Nat => s.heap.size ≤ q) hx hb hX hbl (Nat.not_le.mpr hbl) hS (i := nI i) (vp_in_nI (by omega) (by omega)) dL_law_29 ?_
  rw [nI_clamp (by omega)]
  refine lv_bipush (v := 63) hx hb dL_law_30 (by decide) ?_
  refine lv_iand hx hb dL_law_32 ?_
  obtain ⟨q, hq, eq⟩ := and63 (xs i)
  rw [eq]
  by_cases h40 : q < 40
  · rcases (show q = 0 ∨ q = 1 ∨ q = 2 ∨ q = 3 ∨ q = 4 ∨ q = 5 ∨ q = 6 ∨ q = 7 ∨ q = 8 ∨ q = 9 ∨ q = 10 ∨ q = 11 ∨ q = 12 ∨ q = 13 ∨ q = 14 ∨ q = 15 ∨ q = 16 ∨ q = 17 ∨ q = 18 ∨ q = 19 ∨ q = 20 ∨ q = 21 ∨ q = 22 ∨ q = 23 ∨ q = 24 ∨ q = 25 ∨ q = 26 ∨ q = 27 ∨ q = 28 ∨ q = 29 ∨ q = 30 ∨ q = 31 ∨ q = 32 ∨ q = 33 ∨ q = 34 ∨ q = 35 ∨ q = 36 ∨ q = 37 ∨ q = 38 ∨ q = 39 by omega) with rfl | rfl | rfl | rfl | rfl | rfl | rfl | rfl | rfl | rfl | rfl | rfl | rfl | rfl | rfl | rfl | rfl | rfl | rfl | rfl | rfl | rfl | rfl | rfl | rfl | rfl | rfl | rfl | rfl | rfl | rfl | rfl | rfl | rfl | rfl | rfl | rfl | rfl | rfl | rfl
    · exact lv_tableIn (off := 175) (tgt := 208) hx hb dL_law_33 (by decide) (by decide) (by decide +kernel) (by decide) (ll_c0 C S hbd hl hi hcs kk)
    · exact lv_tableIn (off := 208) (tgt := 241) hx hb dL_law_33 (by decide) (by decide) (by decide +kernel) (by decide) (ll_c1 C S hbd hl hi hcs kk)
    · exact lv_tableIn (off := 231) (tgt := 264) hx hb dL_law_33 (by decide) (by decide) (by decide +kernel) (by decide) (ll_c2 C S hbd hl hi hcs kk)
    · exact lv_tableIn (off := 274) (tgt := 307) hx hb dL_law_33 (by decide) (by decide) (by decide +kernel) (by decide) (ll_c3 C S hbd hl hi hcs kk)
    · exact lv_tableIn (off := 317) (tgt := 350) hx hb dL_law_33 (by decide) (by decide) (by decide +kernel) (by decide) (ll_c4 C S hbd hl hi hcs kk)
    · exact lv_tableIn (off := 340) (tgt := 373) hx hb dL_law_33 (by decide) (by decide) (by decide +kernel) (by decide) (ll_c5 C S hbd hl hi hcs kk)
    · exact lv_tableIn (off := 373) (tgt := 406) hx hb dL_law_33 (by decide) (by decide) (by decide +kernel) (by decide) (ll_c6 C S hbd hl hi hcs kk)
    · exact lv_tableIn (off := 422) (tgt := 455) hx hb dL_law_33 (by decide) (by decide) (by decide +kernel) (by decide) (ll_c7 C S hbd hl hi hcs kk)
    · exact lv_tableIn (off := 497) (tgt := 530) hx hb dL_law_33 (by decide) (by decide) (by decide +kernel) (by decide) (ll_c8 C S hbd hl hi hcs kk)
    · exact lv_tableIn (off := 560) (tgt := 593) hx hb dL_law_33 (by decide) (by decide) (by decide +kernel) (by decide) (ll_c9 C S hbd hl hi hcs kk)
    · exact lv_tableIn (off := 623) (tgt := 656) hx hb dL_law_33 (by decide) (by decide) (by decide +kernel) (by decide) (ll_c10 C S hbd hl hi hcs kk)
    · exact lv_tableIn (off := 646) (tgt := 679) hx hb dL_law_33 (by decide) (by decide) (by decide +kernel) (by decide) (ll_c11 C S hbd hl hi hcs kk)
    · exact lv_tableIn (off := 669) (tgt := 702) hx hb dL_law_33 (by decide) (by decide) (by decide +kernel) (by decide) (ll_c12 C S hbd hl hi hcs kk)
    · exact lv_tableIn (off := 702) (tgt := 735) hx hb dL_law_33 (by decide) (by decide) (by decide +kernel) (by decide) (ll_c13 C S hbd hl hi hcs kk)
    · exact lv_tableIn (off := 745) (tgt := 778) hx hb dL_law_33 (by decide) (by decide) (by decide +kernel) (by decide) (ll_c14 C S hbd hl hi hcs kk)
    · exact lv_tableIn (off := 778) (tgt := 811) hx hb dL_law_33 (by decide) (by decide) (by decide +kernel) (by decide) (ll_c15 C S hbd hl hi hcs kk)
    · exact lv_tableIn (off := 821) (tgt := 854) hx hb dL_law_33 (by decide) (by decide) (by decide +kernel) (by decide) (ll_c16 C S hbd hl hi hcs kk)
    · exact lv_tableIn (off := 864) (tgt := 897) hx hb dL_law_33 (by decide) (by decide) (by decide +kernel) (by decide) (ll_c17 C S hbd hl hi hcs kk)
    · exact lv_tableIn (off := 887) (tgt := 920) hx hb dL_law_33 (by decide) (by decide) (by decide +kernel) (by decide) (ll_c18 C S hbd hl hi hcs kk)
    · exact lv_tableIn (off := 910) (tgt := 943) hx hb dL_law_33 (by decide) (by decide) (by decide +kernel) (by decide) (ll_c19 C S hbd hl hi hcs kk)
    · exact lv_tableIn (off := 923) (tgt := 956) hx hb dL_law_33 (by decide) (by decide) (by decide +kernel) (by decide) (ll_c20 C S hbd hl hi hcs kk)
    · exact lv_tableIn (off := 956) (tgt := 989) hx hb dL_law_33 (by decide) (by decide) (by decide +kernel) (by decide) (ll_c21 C S hbd hl hi hcs kk)
    · exact lv_tableIn (off := 1009) (tgt := 1042) hx hb dL_law_33 (by decide) (by decide) (by decide +kernel) (by decide) (ll_c22 C S hbd hl hi hcs kk)
    · exact lv_tableIn (off := 1062) (tgt := 1095) hx hb dL_law_33 (by decide) (by decide) (by decide +kernel) (by decide) (ll_c23 C S hbd hl hi hcs kk)
    · exact lv_tableIn (off := 1085) (tgt := 1118) hx hb dL_law_33 (by decide) (by decide) (by decide +kernel) (by decide) (ll_c24 C S hbd hl hi hcs kk)
    · exact lv_tableIn (off := 1129) (tgt := 1162) hx hb dL_law_33 (by decide) (by decide) (by decide +kernel) (by decide) (ll_c25 C S hbd hl hi hcs kk)
    · exact lv_tableIn (off := 1173) (tgt := 1206) hx hb dL_law_33 (by decide) (by decide) (by decide +kernel) (by decide) (ll_c26 C S hbd hl hi hcs kk)
    · exact lv_tableIn (off := 1196) (tgt := 1229) hx hb dL_law_33 (by decide) (by decide) (by decide +kernel) (by decide) (ll_c27 C S hbd hl hi hcs kk)
    · exact lv_tableIn (off := 1239) (tgt := 1272) hx hb dL_law_33 (by decide) (by decide) (by decide +kernel) (by decide) (ll_c28 C S hbd hl hi hcs kk)
    · exact lv_tableIn (off := 1262) (tgt := 1295) hx hb dL_law_33 (by decide) (by decide) (by decide +kernel) (by decide) (ll_c29 C S hbd hl hi hcs kk)
    · exact lv_tableIn (off := 1285) (tgt := 1318) hx hb dL_law_33 (by decide) (by decide) (by decide +kernel) (by decide) (ll_c30 C S hbd hl hi hcs kk)
    · exact lv_tableIn (off := 1318) (tgt := 1351) hx hb dL_law_33 (by decide) (by decide) (by decide +kernel) (by decide) (ll_c31 C S hbd hl hi hcs kk)
    · exact lv_tableIn (off := 1351) (tgt := 1384) hx hb dL_law_33 (by decide) (by decide) (by decide +kernel) (by decide) (ll_c32 C S hbd hl hi hcs kk)
    · exact lv_tableIn (off := 1384) (tgt := 1417) hx hb dL_law_33 (by decide) (by decide) (by decide +kernel) (by decide) (ll_c33 C S hbd hl hi hcs kk)
    · exact lv_tableIn (off := 1417) (tgt := 1450) hx hb dL_law_33 (by decide) (by decide) (by decide +kernel) (by decide) (ll_c34 C S hbd hl hi hcs kk)
    · exact lv_tableIn (off := 1450) (tgt := 1483) hx hb dL_law_33 (by decide) (by decide) (by decide +kernel) (by decide) (ll_c35 C S hbd hl hi hcs kk)
    · exact lv_tableIn (off := 1483) (tgt := 1516) hx hb dL_law_33 (by decide) (by decide) (by decide +kernel) (by decide) (ll_c36 C S hbd hl hi hcs kk)
    · exact lv_tableIn (off := 1506) (tgt := 1539) hx hb dL_law_33 (by decide) (by decide) (by decide +kernel) (by decide) (ll_c37 C S hbd hl hi hcs kk)
    · exact lv_tableIn (off := 1529) (tgt := 1562) hx hb dL_law_33 (by decide) (by decide) (by decide +kernel) (by decide) (ll_c38 C S hbd hl hi hcs kk)
    · exact lv_tableIn (off := 1568) (tgt := 1601) hx hb dL_law_33 (by decide) (by decide) (by decide +kernel) (by decide) (ll_c39 C S hbd hl hi hcs kk)
  · refine lv_tableOut (tgt := 1624) hx hb dL_law_33 (Or.inr ?_) (by decide) ?_
    · rw [nI_toInt (by omega)]
      omega
    · refine W.widen (k := cells + 70) (n := slots + 7120) (by omega) (by omega) ?_
      exact kk E M H locs ext_rf ⟨hw, SB_M hSB (by omega), hP, hS, hA, hV⟩
set_option maxRecDepth 100000 in
theorem ll_head {n : Nat} (C : ll_C p s m meth c b L xs) (S : ll_S s E M bd H locs) (hl : ll_H jls E b (7 * n)) (hn : n ≤ 513)
    (kx : L < 7 * n + 7 → W p l e room_1 s m #[Value.ref b] below meth c H locs cells slots Q (F0 m 1630 jls []))
    (kk : 7 * n + 7 ≤ L → W p l e room_1 s m #[Value.ref b] below meth c H locs cells slots Q (F0 m 27 jls [])) : W p l e room_1 s m #[Value.ref b] below meth c H locs cells slots Q (F0 m 18 jls []) := by
  obtain ⟨hx, hb, hr, hml, hown, htz, hX, hbl, hlk, hL⟩ := C
  obtain ⟨hw, hSB, hP, hS, hA, hV⟩ := S
  refine lv_iload_n hx hb dL_law_18 rfl (lv_at hl 0 rfl) ?_
  refine lv_aload_n hx hb dL_law_19 rfl (lv_at hl 3 rfl) ?_
  refine va_slen (A := fun q : Nat => s.heap.size ≤ q) hx hb hX hbl (Nat.not_le.mpr hbl) hS dL_law_20 ?_
  refine lv_bipush (v := 7) hx hb dL_law_21 (by decide) ?_
  refine lv_isub hx hb dL_law_23 ?_
  have key := ll_gt (L := L) (k := 7 * n) hL (by omega)
  exact lv_icmp_gt (tgt := 1630) hx hb dL_law_24 (by decide) (fun z => kx (key.mp z)) (fun z => kk (Nat.not_lt.mp (fun y => z (key.mpr y))))
end LL
set_option maxRecDepth 100000 in
theorem ll_loop {p : Program} {l : Launch} {e : Env} {s : State} {m : MethodId} {below : List Frame} {meth : Method} {c : Code} {b L : Nat} {xs : Nat → Int32} (C : ll_C p s m meth c b L xs) : ∀ (f n : Nat), n + f = 513 → ∀ (E : zE) (M : zMem) (H : Heap) (locs : List Loc) (jls : Array Slot), ll_S s E M (1000 * n) H locs → ll_H jls E b (7 * n) → W p l e room_1 s m #[Value.ref b] below meth c H locs (81 + 70 * n) (107477 + 7120 * n) (lw_Z below #[Value.ref b] s) (F0 m 18 jls []) := by
  obtain ⟨hx, hb, hr, hml, hown, htz, hX, hbl, hlk, hL⟩ := id C
  have ex : ∀ n, n ≤ 513 → ∀ (E : zE) (M : zMem) (H : Heap) (locs : List Loc) (jls : Array Slot), ll_S s E M (1000 * n) H locs → W p l e room_1 s m #[Value.ref b] below meth c H locs (81 + 70 * n) (107477 + 7120 * n) (lw_Z below #[Value.ref b] s) (F0 m 1630 jls []) := fun n hn E M H locs jls S => by
    refine lv_iconst (v := 1) hx hb dL_law_1630 (by decide) ?_
    refine va_forget (fun q hq => S.2.2.2.1.2.2 q hq) ?_
    refine W.widen (k := 176566) (n := 8572552) (by omega) (by omega) ?_
    exact lw_ret hx hb hr hlk dL_law_1631
  intro f
  induction f with
  | zero =>
    intro n hn E M H locs jls S hl
    exact ll_head C S hl (by omega) (fun _ => ex n (by omega) E M H locs jls S) (fun z => absurd z (by omega))
  | succ f ih =>
    intro n hn E M H locs jls S hl
    refine ll_head C S hl (by omega) (fun _ => ex n (by omega) E M H locs jls S) (fun z => ?_)
    refine ll_step C S (by omega) hl (by omega) ⟨by omega, by omega⟩ (fun E2 M2 H1 locs1 hxt S2 => ?_)
    have hl2 : lv_has jls 4 [(3, .int (nI (7 * n))), (2, .ref (E2.2.2.1 (11, 0, 0))), (1, .ref (E2.2.2.1 (10, 0, 0))), (0, .ref b)] := by
      rw [hxt.2.2.2.1, hxt.2.2.2.2]
      exact hl
    refine lv_iinc (v := nI (7 * (n + 1))) (lv' := [(3, .int (nI (7 * (n + 1)))), (2, .ref (E2.2.2.1 (11, 0, 0))), (1, .ref (E2.2.2.1 (10, 0, 0))), (0, .ref b)]) hx hb dL_law_1624 hl2 (k := 0) rfl (by rw [show 7 * (n + 1) = 7 * n + 7 by omega, ← nI_add (7 * n) 7]; rfl) (by decide) rfl (fun ls hl3 => ?_)
    refine lv_goto (tgt := 18) hx hb dL_law_1627 (by decide) ?_
    refine W.widen (k := 81 + 70 * (n + 1)) (n := 107477 + 7120 * (n + 1)) (by omega) (by omega) ?_
    exact ih (n + 1) (by omega) E2 M2 H1 locs1 ls (by rw [show 1000 * (n + 1) = 1000 * n + 1000 by omega]; exact S2) hl3
