/-! the law's calls -/
section LL
variable {p : Program} {l : Launch} {e : Env} {s : State} {m : MethodId} {below : List Frame} {meth : Method} {c : Code} {b L : Nat} {xs : Nat → Int32} {H : Heap} {locs : List Loc} {Q : State → Prop} {jls : Array Slot} {E : zE} {M : zMem} {bd i cells slots : Nat}
set_option maxHeartbeats 4000000 in
set_option maxRecDepth 100000 in
theorem ll_c0 (C : ll_C p s m meth c b L xs) (S : ll_S s E M bd H locs) (hbd : bd < 2000000000) (hl : ll_H jls E b i) (hi : i + 6 < L) (hcs : cells + 70 ≤ 176566 ∧ slots + 7120 ≤ 8572552) (kk : ll_K p l e s m b below meth c Q E bd cells slots jls) : W p l e room_1 s m #[Value.ref b] below meth c H locs cells slots Q (F0 m 208 jls []) := by
  obtain ⟨hx, hb, hr, hml, hown, htz, hX, hbl, hlk, hL⟩ := id C
  obtain ⟨hw, hSB, hP, hS, hA, hV⟩ := id S
  obtain ⟨hE, hin10, hin11, -⟩ := id hw
  obtain ⟨v, J2, J3, z1, z2, sb, j10, x, rfl⟩ := two_set (k := xs (i + 1)) (v := xs (i + 2)) hSB
  refine lv_aload_n hx hb dL_law_208 rfl (lv_at hl 2 rfl) ?_
  refine ll_arg (pc := 209) (k := 1) C hS hl (by omega) dL_law_209 dL_law_210 dL_law_211 (by decide) dL_law_212 dL_law_213 ?_
  refine ll_arg (pc := 214) (k := 2) C hS hl (by omega) dL_law_214 dL_law_215 dL_law_216 (by decide) dL_law_217 dL_law_218 ?_
  refine z_cV (E := E) (M := M) (M2 := J2) (id := (10, 0, 0)) (as := [.inl (xs (i + 1)), .inl (xs (i + 2))]) (r := some (.inl x)) (k := 120) (n := 2) (rest := []) (ci := 7) (C := RX9) (T := TX9) (N := 4) hx hb hml hown htz z1 qw_968 qw_22 ⟨by decide +kernel, by decide +kernel, by decide +kernel⟩ (Nat.le_of_ble_eq_true rfl) qw_965 qw_966 qw_967 hE hin10 (by decide) (z_vokI rfl) rfl rfl ⟨_, rfl⟩ hP hS hA hV ⟨Nat.le_of_ble_eq_true rfl, Nat.le_of_ble_eq_true rfl⟩ ⟨by show cells ≤ 176566; omega, by show slots ≤ 8572552; omega⟩ hl.1 (Nat.le_of_ble_eq_true rfl) dL_law_219 rfl (fun H locs _ hP _ _ hS => ?_)
  refine W.eq (g2 := F0 m 222 jls [.int x]) rfl ?_
  refine lv_aload_n hx hb dL_law_222 rfl (lv_at hl 1 rfl) ?_
  refine ll_arg (pc := 223) (k := 1) C hS hl (by omega) dL_law_223 dL_law_224 dL_law_225 (by decide) dL_law_226 dL_law_227 ?_
  refine ll_arg (pc := 228) (k := 2) C hS hl (by omega) dL_law_228 dL_law_229 dL_law_230 (by decide) dL_law_231 dL_law_232 ?_
  refine z_cV (E := E) (M := J2) (M2 := J3) (id := (11, 0, 0)) (as := [.inl (xs (i + 1)), .inl (xs (i + 2))]) (r := some (.inl x)) (k := 179) (n := 2) (rest := [.int x]) (ci := 8) (C := RX10) (T := TX10) (N := 8) hx hb hml hown htz z2 qw_972 qw_618 ⟨by decide +kernel, by decide +kernel, by decide +kernel⟩ (Nat.le_of_ble_eq_true rfl) qw_969 qw_970 qw_971 hE hin11 (by decide) (z_vokI rfl) rfl rfl ⟨_, rfl⟩ hP hS hA hV ⟨Nat.le_of_ble_eq_true rfl, Nat.le_of_ble_eq_true rfl⟩ ⟨by show cells ≤ 176566; omega, by show slots ≤ 8572552; omega⟩ hl.1 (Nat.le_of_ble_eq_true rfl) dL_law_233 rfl (fun H locs _ hP _ _ hS => ?_)
  refine W.eq (g2 := F0 m 236 jls [.int x, .int x]) rfl ?_
  refine lv_icmp_eq (tgt := 1624) hx hb dL_law_236 (by decide) (fun _ => ?_) (fun z => absurd rfl z)
  refine W.widen (k := cells + 70) (n := slots + 7120) (by omega) (by omega) ?_
  exact kk E J3 H locs ext_rf ⟨by rw [j10.1, j10.2]; exact hw, sb, hP, hS, hA, hV⟩
set_option maxHeartbeats 4000000 in
set_option maxRecDepth 100000 in
theorem ll_c1 (C : ll_C p s m meth c b L xs) (S : ll_S s E M bd H locs) (hbd : bd < 2000000000) (hl : ll_H jls E b i) (hi : i + 6 < L) (hcs : cells + 70 ≤ 176566 ∧ slots + 7120 ≤ 8572552) (kk : ll_K p l e s m b below meth c Q E bd cells slots jls) : W p l e room_1 s m #[Value.ref b] below meth c H locs cells slots Q (F0 m 241 jls []) := by
  obtain ⟨hx, hb, hr, hml, hown, htz, hX, hbl, hlk, hL⟩ := id C
  obtain ⟨hw, hSB, hP, hS, hA, hV⟩ := id S
  obtain ⟨hE, hin10, hin11, -⟩ := id hw
  obtain ⟨v, J2, J3, z1, z2, sb, j10, x, rfl⟩ := two_state (v := xs (i + 1)) hSB
  refine lv_aload_n hx hb dL_law_241 rfl (lv_at hl 2 rfl) ?_
  refine ll_arg (pc := 242) (k := 1) C hS hl (by omega) dL_law_242 dL_law_243 dL_law_244 (by decide) dL_law_245 dL_law_246 ?_
  refine z_cV (E := E) (M := M) (M2 := J2) (id := (10, 0, 0)) (as := [.inl (xs (i + 1))]) (r := some (.inl x)) (k := 121) (n := 1) (rest := []) (ci := 7) (C := RX9) (T := TX9) (N := 4) hx hb hml hown htz z1 qw_976 qw_22 ⟨by decide +kernel, by decide +kernel, by decide +kernel⟩ (Nat.le_of_ble_eq_true rfl) qw_973 qw_974 qw_975 hE hin10 (by decide) (z_vokI rfl) rfl rfl ⟨_, rfl⟩ hP hS hA hV ⟨Nat.le_of_ble_eq_true rfl, Nat.le_of_ble_eq_true rfl⟩ ⟨by show cells ≤ 176566; omega, by show slots ≤ 8572552; omega⟩ hl.1 (Nat.le_of_ble_eq_true rfl) dL_law_247 rfl (fun H locs _ hP _ _ hS => ?_)
  refine W.eq (g2 := F0 m 250 jls [.int x]) rfl ?_
  refine lv_aload_n hx hb dL_law_250 rfl (lv_at hl 1 rfl) ?_
  refine ll_arg (pc := 251) (k := 1) C hS hl (by omega) dL_law_251 dL_law_252 dL_law_253 (by decide) dL_law_254 dL_law_255 ?_
  refine z_cV (E := E) (M := J2) (M2 := J3) (id := (11, 0, 0)) (as := [.inl (xs (i + 1))]) (r := some (.inl x)) (k := 180) (n := 1) (rest := [.int x]) (ci := 8) (C := RX10) (T := TX10) (N := 8) hx hb hml hown htz z2 qw_980 qw_618 ⟨by decide +kernel, by decide +kernel, by decide +kernel⟩ (Nat.le_of_ble_eq_true rfl) qw_977 qw_978 qw_979 hE hin11 (by decide) (z_vokI rfl) rfl rfl ⟨_, rfl⟩ hP hS hA hV ⟨Nat.le_of_ble_eq_true rfl, Nat.le_of_ble_eq_true rfl⟩ ⟨by show cells ≤ 176566; omega, by show slots ≤ 8572552; omega⟩ hl.1 (Nat.le_of_ble_eq_true rfl) dL_law_256 rfl (fun H locs _ hP _ _ hS => ?_)
  refine W.eq (g2 := F0 m 259 jls [.int x, .int x]) rfl ?_
  refine lv_icmp_eq (tgt := 1624) hx hb dL_law_259 (by decide) (fun _ => ?_) (fun z => absurd rfl z)
  refine W.widen (k := cells + 70) (n := slots + 7120) (by omega) (by omega) ?_
  exact kk E J3 H locs ext_rf ⟨by rw [j10.1, j10.2]; exact hw, sb, hP, hS, hA, hV⟩
set_option maxHeartbeats 4000000 in
set_option maxRecDepth 100000 in
theorem ll_c2 (C : ll_C p s m meth c b L xs) (S : ll_S s E M bd H locs) (hbd : bd < 2000000000) (hl : ll_H jls E b i) (hi : i + 6 < L) (hcs : cells + 70 ≤ 176566 ∧ slots + 7120 ≤ 8572552) (kk : ll_K p l e s m b below meth c Q E bd cells slots jls) : W p l e room_1 s m #[Value.ref b] below meth c H locs cells slots Q (F0 m 264 jls []) := by
  obtain ⟨hx, hb, hr, hml, hown, htz, hX, hbl, hlk, hL⟩ := id C
  obtain ⟨hw, hSB, hP, hS, hA, hV⟩ := id S
  obtain ⟨hE, hin10, hin11, -⟩ := id hw
  obtain ⟨v, J2, J3, z1, z2, sb, j10, x, rfl⟩ := two_tune (r := xs (i + 1)) (k := xs (i + 2)) (v := xs (i + 3)) hSB
  refine lv_aload_n hx hb dL_law_264 rfl (lv_at hl 2 rfl) ?_
  refine ll_arg (pc := 265) (k := 1) C hS hl (by omega) dL_law_265 dL_law_266 dL_law_267 (by decide) dL_law_268 dL_law_269 ?_
  refine ll_arg (pc := 270) (k := 2) C hS hl (by omega) dL_law_270 dL_law_271 dL_law_272 (by decide) dL_law_273 dL_law_274 ?_
  refine ll_arg (pc := 275) (k := 3) C hS hl (by omega) dL_law_275 dL_law_276 dL_law_277 (by decide) dL_law_278 dL_law_279 ?_
  refine z_cV (E := E) (M := M) (M2 := J2) (id := (10, 0, 0)) (as := [.inl (xs (i + 1)), .inl (xs (i + 2)), .inl (xs (i + 3))]) (r := some (.inl x)) (k := 122) (n := 3) (rest := []) (ci := 7) (C := RX9) (T := TX9) (N := 4) hx hb hml hown htz z1 qw_984 qw_22 ⟨by decide +kernel, by decide +kernel, by decide +kernel⟩ (Nat.le_of_ble_eq_true rfl) qw_981 qw_982 qw_983 hE hin10 (by decide) (z_vokI rfl) rfl rfl ⟨_, rfl⟩ hP hS hA hV ⟨Nat.le_of_ble_eq_true rfl, Nat.le_of_ble_eq_true rfl⟩ ⟨by show cells ≤ 176566; omega, by show slots ≤ 8572552; omega⟩ hl.1 (Nat.le_of_ble_eq_true rfl) dL_law_280 rfl (fun H locs _ hP _ _ hS => ?_)
  refine W.eq (g2 := F0 m 283 jls [.int x]) rfl ?_
  refine lv_aload_n hx hb dL_law_283 rfl (lv_at hl 1 rfl) ?_
  refine ll_arg (pc := 284) (k := 1) C hS hl (by omega) dL_law_284 dL_law_285 dL_law_286 (by decide) dL_law_287 dL_law_288 ?_
  refine ll_arg (pc := 289) (k := 2) C hS hl (by omega) dL_law_289 dL_law_290 dL_law_291 (by decide) dL_law_292 dL_law_293 ?_
  refine ll_arg (pc := 294) (k := 3) C hS hl (by omega) dL_law_294 dL_law_295 dL_law_296 (by decide) dL_law_297 dL_law_298 ?_
  refine z_cV (E := E) (M := J2) (M2 := J3) (id := (11, 0, 0)) (as := [.inl (xs (i + 1)), .inl (xs (i + 2)), .inl (xs (i + 3))]) (r := some (.inl x)) (k := 181) (n := 3) (rest := [.int x]) (ci := 8) (C := RX10) (T := TX10) (N := 8) hx hb hml hown htz z2 qw_988 qw_618 ⟨by decide +kernel, by decide +kernel, by decide +kernel⟩ (Nat.le_of_ble_eq_true rfl) qw_985 qw_986 qw_987 hE hin11 (by decide) (z_vokI rfl) rfl rfl ⟨_, rfl⟩ hP hS hA hV ⟨Nat.le_of_ble_eq_true rfl, Nat.le_of_ble_eq_true rfl⟩ ⟨by show cells ≤ 176566; omega, by show slots ≤ 8572552; omega⟩ hl.1 (Nat.le_of_ble_eq_true rfl) dL_law_299 rfl (fun H locs _ hP _ _ hS => ?_)
  refine W.eq (g2 := F0 m 302 jls [.int x, .int x]) rfl ?_
  refine lv_icmp_eq (tgt := 1624) hx hb dL_law_302 (by decide) (fun _ => ?_) (fun z => absurd rfl z)
  refine W.widen (k := cells + 70) (n := slots + 7120) (by omega) (by omega) ?_
  exact kk E J3 H locs ext_rf ⟨by rw [j10.1, j10.2]; exact hw, sb, hP, hS, hA, hV⟩
set_option maxHeartbeats 4000000 in
set_option maxRecDepth 100000 in
theorem ll_c3 (C : ll_C p s m meth c b L xs) (S : ll_S s E M bd H locs) (hbd : bd < 2000000000) (hl : ll_H jls E b i) (hi : i + 6 < L) (hcs : cells + 70 ≤ 176566 ∧ slots + 7120 ≤ 8572552) (kk : ll_K p l e s m b below meth c Q E bd cells slots jls) : W p l e room_1 s m #[Value.ref b] below meth c H locs cells slots Q (F0 m 307 jls []) := by
  obtain ⟨hx, hb, hr, hml, hown, htz, hX, hbl, hlk, hL⟩ := id C
  obtain ⟨hw, hSB, hP, hS, hA, hV⟩ := id S
  obtain ⟨hE, hin10, hin11, -⟩ := id hw
  obtain ⟨v, J2, J3, z1, z2, sb, j10, x, rfl⟩ := two_tag (t := xs (i + 1)) (x := xs (i + 2)) (r := xs (i + 3)) hSB
  refine lv_aload_n hx hb dL_law_307 rfl (lv_at hl 2 rfl) ?_
  refine ll_arg (pc := 308) (k := 1) C hS hl (by omega) dL_law_308 dL_law_309 dL_law_310 (by decide) dL_law_311 dL_law_312 ?_
  refine ll_arg (pc := 313) (k := 2) C hS hl (by omega) dL_law_313 dL_law_314 dL_law_315 (by decide) dL_law_316 dL_law_317 ?_
  refine ll_arg (pc := 318) (k := 3) C hS hl (by omega) dL_law_318 dL_law_319 dL_law_320 (by decide) dL_law_321 dL_law_322 ?_
  refine z_cV (E := E) (M := M) (M2 := J2) (id := (10, 0, 0)) (as := [.inl (xs (i + 1)), .inl (xs (i + 2)), .inl (xs (i + 3))]) (r := some (.inl x)) (k := 123) (n := 3) (rest := []) (ci := 7) (C := RX9) (T := TX9) (N := 4) hx hb hml hown htz z1 qw_992 qw_22 ⟨by decide +kernel, by decide +kernel, by decide +kernel⟩ (Nat.le_of_ble_eq_true rfl) qw_989 qw_990 qw_991 hE hin10 (by decide) (z_vokI rfl) rfl rfl ⟨_, rfl⟩ hP hS hA hV ⟨Nat.le_of_ble_eq_true rfl, Nat.le_of_ble_eq_true rfl⟩ ⟨by show cells ≤ 176566; omega, by show slots ≤ 8572552; omega⟩ hl.1 (Nat.le_of_ble_eq_true rfl) dL_law_323 rfl (fun H locs _ hP _ _ hS => ?_)
  refine W.eq (g2 := F0 m 326 jls [.int x]) rfl ?_
  refine lv_aload_n hx hb dL_law_326 rfl (lv_at hl 1 rfl) ?_
  refine ll_arg (pc := 327) (k := 1) C hS hl (by omega) dL_law_327 dL_law_328 dL_law_329 (by decide) dL_law_330 dL_law_331 ?_
  refine ll_arg (pc := 332) (k := 2) C hS hl (by omega) dL_law_332 dL_law_333 dL_law_334 (by decide) dL_law_335 dL_law_336 ?_
  refine ll_arg (pc := 337) (k := 3) C hS hl (by omega) dL_law_337 dL_law_338 dL_law_339 (by decide) dL_law_340 dL_law_341 ?_
  refine z_cV (E := E) (M := J2) (M2 := J3) (id := (11, 0, 0)) (as := [.inl (xs (i + 1)), .inl (xs (i + 2)), .inl (xs (i + 3))]) (r := some (.inl x)) (k := 183) (n := 3) (rest := [.int x]) (ci := 8) (C := RX10) (T := TX10) (N := 8) hx hb hml hown htz z2 qw_996 qw_618 ⟨by decide +kernel, by decide +kernel, by decide +kernel⟩ (Nat.le_of_ble_eq_true rfl) qw_993 qw_994 qw_995 hE hin11 (by decide) (z_vokI rfl) rfl rfl ⟨_, rfl⟩ hP hS hA hV ⟨Nat.le_of_ble_eq_true rfl, Nat.le_of_ble_eq_true rfl⟩ ⟨by show cells ≤ 176566; omega, by show slots ≤ 8572552; omega⟩ hl.1 (Nat.le_of_ble_eq_true rfl) dL_law_342 rfl (fun H locs _ hP _ _ hS => ?_)
  refine W.eq (g2 := F0 m 345 jls [.int x, .int x]) rfl ?_
  refine lv_icmp_eq (tgt := 1624) hx hb dL_law_345 (by decide) (fun _ => ?_) (fun z => absurd rfl z)
  refine W.widen (k := cells + 70) (n := slots + 7120) (by omega) (by omega) ?_
  exact kk E J3 H locs ext_rf ⟨by rw [j10.1, j10.2]; exact hw, sb, hP, hS, hA, hV⟩
set_option maxHeartbeats 4000000 in
set_option maxRecDepth 100000 in
theorem ll_c4 (C : ll_C p s m meth c b L xs) (S : ll_S s E M bd H locs) (hbd : bd < 2000000000) (hl : ll_H jls E b i) (hi : i + 6 < L) (hcs : cells + 70 ≤ 176566 ∧ slots + 7120 ≤ 8572552) (kk : ll_K p l e s m b below meth c Q E bd cells slots jls) : W p l e room_1 s m #[Value.ref b] below meth c H locs cells slots Q (F0 m 350 jls []) := by
  obtain ⟨hx, hb, hr, hml, hown, htz, hX, hbl, hlk, hL⟩ := id C
  obtain ⟨hw, hSB, hP, hS, hA, hV⟩ := id S
  obtain ⟨hE, hin10, hin11, -⟩ := id hw
  obtain ⟨v, J2, J3, z1, z2, sb, j10, x, rfl⟩ := two_gone (t := xs (i + 1)) hSB
  refine lv_aload_n hx hb dL_law_350 rfl (lv_at hl 2 rfl) ?_
  refine ll_arg (pc := 351) (k := 1) C hS hl (by omega) dL_law_351 dL_law_352 dL_law_353 (by decide) dL_law_354 dL_law_355 ?_
  refine z_cV (E := E) (M := M) (M2 := J2) (id := (10, 0, 0)) (as := [.inl (xs (i + 1))]) (r := some (.inl x)) (k := 124) (n := 1) (rest := []) (ci := 7) (C := RX9) (T := TX9) (N := 4) hx hb hml hown htz z1 qw_1000 qw_22 ⟨by decide +kernel, by decide +kernel, by decide +kernel⟩ (Nat.le_of_ble_eq_true rfl) qw_997 qw_998 qw_999 hE hin10 (by decide) (z_vokI rfl) rfl rfl ⟨_, rfl⟩ hP hS hA hV ⟨Nat.le_of_ble_eq_true rfl, Nat.le_of_ble_eq_true rfl⟩ ⟨by show cells ≤ 176566; omega, by show slots ≤ 8572552; omega⟩ hl.1 (Nat.le_of_ble_eq_true rfl) dL_law_356 rfl (fun H locs _ hP _ _ hS => ?_)
  refine W.eq (g2 := F0 m 359 jls [.int x]) rfl ?_
  refine lv_aload_n hx hb dL_law_359 rfl (lv_at hl 1 rfl) ?_
  refine ll_arg (pc := 360) (k := 1) C hS hl (by omega) dL_law_360 dL_law_361 dL_law_362 (by decide) dL_law_363 dL_law_364 ?_
  refine z_cV (E := E) (M := J2) (M2 := J3) (id := (11, 0, 0)) (as := [.inl (xs (i + 1))]) (r := some (.inl x)) (k := 184) (n := 1) (rest := [.int x]) (ci := 8) (C := RX10) (T := TX10) (N := 8) hx hb hml hown htz z2 qw_1004 qw_618 ⟨by decide +kernel, by decide +kernel, by decide +kernel⟩ (Nat.le_of_ble_eq_true rfl) qw_1001 qw_1002 qw_1003 hE hin11 (by decide) (z_vokI rfl) rfl rfl ⟨_, rfl⟩ hP hS hA hV ⟨Nat.le_of_ble_eq_true rfl, Nat.le_of_ble_eq_true rfl⟩ ⟨by show cells ≤ 176566; omega, by show slots ≤ 8572552; omega⟩ hl.1 (Nat.le_of_ble_eq_true rfl) dL_law_365 rfl (fun H locs _ hP _ _ hS => ?_)
  refine W.eq (g2 := F0 m 368 jls [.int x, .int x]) rfl ?_
  refine lv_icmp_eq (tgt := 1624) hx hb dL_law_368 (by decide) (fun _ => ?_) (fun z => absurd rfl z)
  refine W.widen (k := cells + 70) (n := slots + 7120) (by omega) (by omega) ?_
  exact kk E J3 H locs ext_rf ⟨by rw [j10.1, j10.2]; exact hw, sb, hP, hS, hA, hV⟩
set_option maxHeartbeats 4000000 in
set_option maxRecDepth 100000 in
theorem ll_c5 (C : ll_C p s m meth c b L xs) (S : ll_S s E M bd H locs) (hbd : bd < 2000000000) (hl : ll_H jls E b i) (hi : i + 6 < L) (hcs : cells + 70 ≤ 176566 ∧ slots + 7120 ≤ 8572552) (kk : ll_K p l e s m b below meth c Q E bd cells slots jls) : W p l e room_1 s m #[Value.ref b] below meth c H locs cells slots Q (F0 m 373 jls []) := by
  obtain ⟨hx, hb, hr, hml, hown, htz, hX, hbl, hlk, hL⟩ := id C
  obtain ⟨hw, hSB, hP, hS, hA, hV⟩ := id S
  obtain ⟨hE, hin10, hin11, -⟩ := id hw
  obtain ⟨v, J2, J3, z1, z2, sb, j10, x, rfl⟩ := two_move (t := xs (i + 1)) (x := xs (i + 2)) hSB
  refine lv_aload_n hx hb dL_law_373 rfl (lv_at hl 2 rfl) ?_
  refine ll_arg (pc := 374) (k := 1) C hS hl (by omega) dL_law_374 dL_law_375 dL_law_376 (by decide) dL_law_377 dL_law_378 ?_
  refine ll_arg (pc := 379) (k := 2) C hS hl (by omega) dL_law_379 dL_law_380 dL_law_381 (by decide) dL_law_382 dL_law_383 ?_
  refine z_cV (E := E) (M := M) (M2 := J2) (id := (10, 0, 0)) (as := [.inl (xs (i + 1)), .inl (xs (i + 2))]) (r := some (.inl x)) (k := 125) (n := 2) (rest := []) (ci := 7) (C := RX9) (T := TX9) (N := 4) hx hb hml hown htz z1 qw_1008 qw_22 ⟨by decide +kernel, by decide +kernel, by decide +kernel⟩ (Nat.le_of_ble_eq_true rfl) qw_1005 qw_1006 qw_1007 hE hin10 (by decide) (z_vokI rfl) rfl rfl ⟨_, rfl⟩ hP hS hA hV ⟨Nat.le_of_ble_eq_true rfl, Nat.le_of_ble_eq_true rfl⟩ ⟨by show cells ≤ 176566; omega, by show slots ≤ 8572552; omega⟩ hl.1 (Nat.le_of_ble_eq_true rfl) dL_law_384 rfl (fun H locs _ hP _ _ hS => ?_)
  refine W.eq (g2 := F0 m 387 jls [.int x]) rfl ?_
  refine lv_aload_n hx hb dL_law_387 rfl (lv_at hl 1 rfl) ?_
  refine ll_arg (pc := 388) (k := 1) C hS hl (by omega) dL_law_388 dL_law_389 dL_law_390 (by decide) dL_law_391 dL_law_392 ?_
  refine ll_arg (pc := 393) (k := 2) C hS hl (by omega) dL_law_393 dL_law_394 dL_law_395 (by decide) dL_law_396 dL_law_397 ?_
  refine z_cV (E := E) (M := J2) (M2 := J3) (id := (11, 0, 0)) (as := [.inl (xs (i + 1)), .inl (xs (i + 2))]) (r := some (.inl x)) (k := 186) (n := 2) (rest := [.int x]) (ci := 8) (C := RX10) (T := TX10) (N := 8) hx hb hml hown htz z2 qw_1012 qw_618 ⟨by decide +kernel, by decide +kernel, by decide +kernel⟩ (Nat.le_of_ble_eq_true rfl) qw_1009 qw_1010 qw_1011 hE hin11 (by decide) (z_vokI rfl) rfl rfl ⟨_, rfl⟩ hP hS hA hV ⟨Nat.le_of_ble_eq_true rfl, Nat.le_of_ble_eq_true rfl⟩ ⟨by show cells ≤ 176566; omega, by show slots ≤ 8572552; omega⟩ hl.1 (Nat.le_of_ble_eq_true rfl) dL_law_398 rfl (fun H locs _ hP _ _ hS => ?_)
  refine W.eq (g2 := F0 m 401 jls [.int x, .int x]) rfl ?_
  refine lv_icmp_eq (tgt := 1624) hx hb dL_law_401 (by decide) (fun _ => ?_) (fun z => absurd rfl z)
  refine W.widen (k := cells + 70) (n := slots + 7120) (by omega) (by omega) ?_
  exact kk E J3 H locs ext_rf ⟨by rw [j10.1, j10.2]; exact hw, sb, hP, hS, hA, hV⟩
set_option maxHeartbeats 4000000 in
set_option maxRecDepth 100000 in
theorem ll_c6 (C : ll_C p s m meth c b L xs) (S : ll_S s E M bd H locs) (hbd : bd < 2000000000) (hl : ll_H jls E b i) (hi : i + 6 < L) (hcs : cells + 70 ≤ 176566 ∧ slots + 7120 ≤ 8572552) (kk : ll_K p l e s m b below meth c Q E bd cells slots jls) : W p l e room_1 s m #[Value.ref b] below meth c H locs cells slots Q (F0 m 406 jls []) := by
  obtain ⟨hx, hb, hr, hml, hown, htz, hX, hbl, hlk, hL⟩ := id C
  obtain ⟨hw, hSB, hP, hS, hA, hV⟩ := id S
  obtain ⟨hE, hin10, hin11, -⟩ := id hw
  obtain ⟨v, J2, J3, z1, z2, sb, j10, x, rfl⟩ := two_power (r := xs (i + 1)) (v := (if xs (i + 2) = 0 then 0 else 1)) hSB (by omega) b01
  refine lv_aload_n hx hb dL_law_406 rfl (lv_at hl 2 rfl) ?_
  refine ll_arg (pc := 407) (k := 1) C hS hl (by omega) dL_law_407 dL_law_408 dL_law_409 (by decide) dL_law_410 dL_law_411 ?_
  refine ll_arg (pc := 412) (k := 2) C hS hl (by omega) dL_law_412 dL_law_413 dL_law_414 (by decide) dL_law_415 dL_law_416 ?_
  refine ll_bool (pc := 417) C dL_law_417 dL_law_420 dL_law_421 dL_law_424 ?_
  refine z_cV (E := E) (M := M) (M2 := J2) (id := (10, 0, 0)) (as := [.inl (xs (i + 1)), .inl ((if xs (i + 2) = 0 then 0 else 1))]) (r := some (.inl x)) (k := 126) (n := 2) (rest := []) (ci := 7) (C := RX9) (T := TX9) (N := 4) hx hb hml hown htz z1 qw_1016 qw_22 ⟨by decide +kernel, by decide +kernel, by decide +kernel⟩ (Nat.le_of_ble_eq_true rfl) qw_1013 qw_1014 qw_1015 hE hin10 (by decide) (z_vokI rfl) rfl rfl ⟨_, rfl⟩ hP hS hA hV ⟨Nat.le_of_ble_eq_true rfl, Nat.le_of_ble_eq_true rfl⟩ ⟨by show cells ≤ 176566; omega, by show slots ≤ 8572552; omega⟩ hl.1 (Nat.le_of_ble_eq_true rfl) dL_law_425 rfl (fun H locs _ hP _ _ hS => ?_)
  refine W.eq (g2 := F0 m 428 jls [.int x]) rfl ?_
  refine lv_aload_n hx hb dL_law_428 rfl (lv_at hl 1 rfl) ?_
  refine ll_arg (pc := 429) (k := 1) C hS hl (by omega) dL_law_429 dL_law_430 dL_law_431 (by decide) dL_law_432 dL_law_433 ?_
  refine ll_arg (pc := 434) (k := 2) C hS hl (by omega) dL_law_434 dL_law_435 dL_law_436 (by decide) dL_law_437 dL_law_438 ?_
  refine ll_bool (pc := 439) C dL_law_439 dL_law_442 dL_law_443 dL_law_446 ?_
  refine z_cV (E := E) (M := J2) (M2 := J3) (id := (11, 0, 0)) (as := [.inl (xs (i + 1)), .inl ((if xs (i + 2) = 0 then 0 else 1))]) (r := some (.inl x)) (k := 190) (n := 2) (rest := [.int x]) (ci := 8) (C := RX10) (T := TX10) (N := 8) hx hb hml hown htz z2 qw_1020 qw_618 ⟨by decide +kernel, by decide +kernel, by decide +kernel⟩ (Nat.le_of_ble_eq_true rfl) qw_1017 qw_1018 qw_1019 hE hin11 (by decide) (z_vokI rfl) rfl rfl ⟨_, rfl⟩ hP hS hA hV ⟨Nat.le_of_ble_eq_true rfl, Nat.le_of_ble_eq_true rfl⟩ ⟨by show cells ≤ 176566; omega, by show slots ≤ 8572552; omega⟩ hl.1 (Nat.le_of_ble_eq_true rfl) dL_law_447 rfl (fun H locs _ hP _ _ hS => ?_)
  refine W.eq (g2 := F0 m 450 jls [.int x, .int x]) rfl ?_
  refine lv_icmp_eq (tgt := 1624) hx hb dL_law_450 (by decide) (fun _ => ?_) (fun z => absurd rfl z)
  refine W.widen (k := cells + 70) (n := slots + 7120) (by omega) (by omega) ?_
  exact kk E J3 H locs ext_rf ⟨by rw [j10.1, j10.2]; exact hw, sb, hP, hS, hA, hV⟩
set_option maxHeartbeats 4000000 in
set_option maxRecDepth 100000 in
theorem ll_c7 (C : ll_C p s m meth c b L xs) (S : ll_S s E M bd H locs) (hbd : bd < 2000000000) (hl : ll_H jls E b i) (hi : i + 6 < L) (hcs : cells + 70 ≤ 176566 ∧ slots + 7120 ≤ 8572552) (kk : ll_K p l e s m b below meth c Q E bd cells slots jls) : W p l e room_1 s m #[Value.ref b] below meth c H locs cells slots Q (F0 m 455 jls []) := by
  obtain ⟨hx, hb, hr, hml, hown, htz, hX, hbl, hlk, hL⟩ := id C
  obtain ⟨hw, hSB, hP, hS, hA, hV⟩ := id S
  obtain ⟨hE, hin10, hin11, -⟩ := id hw
  obtain ⟨v, J2, J3, z1, z2, sb, j10, x, rfl⟩ := two_select (r := xs (i + 1)) (f := xs (i + 2)) (a := xs (i + 3)) (p := xs (i + 4)) (n := xs (i + 5)) (v := xs (i + 6)) hSB (by omega)
  refine lv_aload_n hx hb dL_law_455 rfl (lv_at hl 2 rfl) ?_
  refine ll_arg (pc := 456) (k := 1) C hS hl (by omega) dL_law_456 dL_law_457 dL_law_458 (by decide) dL_law_459 dL_law_460 ?_
  refine ll_arg (pc := 461) (k := 2) C hS hl (by omega) dL_law_461 dL_law_462 dL_law_463 (by decide) dL_law_464 dL_law_465 ?_
  refine ll_arg (pc := 466) (k := 3) C hS hl (by omega) dL_law_466 dL_law_467 dL_law_468 (by decide) dL_law_469 dL_law_470 ?_
  refine ll_arg (pc := 471) (k := 4) C hS hl (by omega) dL_law_471 dL_law_472 dL_law_473 (by decide) dL_law_474 dL_law_475 ?_
  refine ll_arg (pc := 476) (k := 5) C hS hl (by omega) dL_law_476 dL_law_477 dL_law_478 (by decide) dL_law_479 dL_law_480 ?_
  refine ll_arg6 (pc := 481) (k := 6) C hS hl (by omega) dL_law_481 dL_law_482 dL_law_483 (by decide) dL_law_485 dL_law_486 ?_
  refine z_cV (E := E) (M := M) (M2 := J2) (id := (10, 0, 0)) (as := [.inl (xs (i + 1)), .inl (xs (i + 2)), .inl (xs (i + 3)), .inl (xs (i + 4)), .inl (xs (i + 5)), .inl (xs (i + 6))]) (r := some (.inl x)) (k := 127) (n := 6) (rest := []) (ci := 7) (C := RX9) (T := TX9) (N := 4) hx hb hml hown htz z1 qw_1024 qw_22 ⟨by decide +kernel, by decide +kernel, by decide +kernel⟩ (Nat.le_of_ble_eq_true rfl) qw_1021 qw_1022 qw_1023 hE hin10 (by decide) (z_vokI rfl) rfl rfl ⟨_, rfl⟩ hP hS hA hV ⟨Nat.le_of_ble_eq_true rfl, Nat.le_of_ble_eq_true rfl⟩ ⟨by show cells ≤ 176566; omega, by show slots ≤ 8572552; omega⟩ hl.1 (Nat.le_of_ble_eq_true rfl) dL_law_487 rfl (fun H locs _ hP _ _ hS => ?_)
  refine W.eq (g2 := F0 m 490 jls [.int x]) rfl ?_
  refine lv_aload_n hx hb dL_law_490 rfl (lv_at hl 1 rfl) ?_
  refine ll_arg (pc := 491) (k := 1) C hS hl (by omega) dL_law_491 dL_law_492 dL_law_493 (by decide) dL_law_494 dL_law_495 ?_
  refine ll_arg (pc := 496) (k := 2) C hS hl (by omega) dL_law_496 dL_law_497 dL_law_498 (by decide) dL_law_499 dL_law_500 ?_
  refine ll_arg (pc := 501) (k := 3) C hS hl (by omega) dL_law_501 dL_law_502 dL_law_503 (by decide) dL_law_504 dL_law_505 ?_
  refine ll_arg (pc := 506) (k := 4) C hS hl (by omega) dL_law_506 dL_law_507 dL_law_508 (by decide) dL_law_509 dL_law_510 ?_
  refine ll_arg (pc := 511) (k := 5) C hS hl (by omega) dL_law_511 dL_law_512 dL_law_513 (by decide) dL_law_514 dL_law_515 ?_
  refine ll_arg6 (pc := 516) (k := 6) C hS hl (by omega) dL_law_516 dL_law_517 dL_law_518 (by decide) dL_law_520 dL_law_521 ?_
  refine z_cV (E := E) (M := J2) (M2 := J3) (id := (11, 0, 0)) (as := [.inl (xs (i + 1)), .inl (xs (i + 2)), .inl (xs (i + 3)), .inl (xs (i + 4)), .inl (xs (i + 5)), .inl (xs (i + 6))]) (r := some (.inl x)) (k := 197) (n := 6) (rest := [.int x]) (ci := 8) (C := RX10) (T := TX10) (N := 8) hx hb hml hown htz z2 qw_1028 qw_618 ⟨by decide +kernel, by decide +kernel, by decide +kernel⟩ (Nat.le_of_ble_eq_true rfl) qw_1025 qw_1026 qw_1027 hE hin11 (by decide) (z_vokI rfl) rfl rfl ⟨_, rfl⟩ hP hS hA hV ⟨Nat.le_of_ble_eq_true rfl, Nat.le_of_ble_eq_true rfl⟩ ⟨by show cells ≤ 176566; omega, by show slots ≤ 8572552; omega⟩ hl.1 (Nat.le_of_ble_eq_true rfl) dL_law_522 rfl (fun H locs _ hP _ _ hS => ?_)
  refine W.eq (g2 := F0 m 525 jls [.int x, .int x]) rfl ?_
  refine lv_icmp_eq (tgt := 1624) hx hb dL_law_525 (by decide) (fun _ => ?_) (fun z => absurd rfl z)
  refine W.widen (k := cells + 70) (n := slots + 7120) (by omega) (by omega) ?_
  exact kk E J3 H locs ext_rf ⟨by rw [j10.1, j10.2]; exact hw, sb, hP, hS, hA, hV⟩
set_option maxHeartbeats 4000000 in
set_option maxRecDepth 100000 in
theorem ll_c8 (C : ll_C p s m meth c b L xs) (S : ll_S s E M bd H locs) (hbd : bd < 2000000000) (hl : ll_H jls E b i) (hi : i + 6 < L) (hcs : cells + 70 ≤ 176566 ∧ slots + 7120 ≤ 8572552) (kk : ll_K p l e s m b below meth c Q E bd cells slots jls) : W p l e room_1 s m #[Value.ref b] below meth c H locs cells slots Q (F0 m 530 jls []) := by
  obtain ⟨hx, hb, hr, hml, hown, htz, hX, hbl, hlk, hL⟩ := id C
  obtain ⟨hw, hSB, hP, hS, hA, hV⟩ := id S
  obtain ⟨hE, hin10, hin11, -⟩ := id hw
  obtain ⟨v, J2, J3, z1, z2, sb, j10, x, rfl⟩ := two_put (r := xs (i + 1)) (t := xs (i + 2)) (p := xs (i + 3)) (n := xs (i + 4)) (v := xs (i + 5)) hSB
  refine lv_aload_n hx hb dL_law_530 rfl (lv_at hl 2 rfl) ?_
  refine ll_arg (pc := 531) (k := 1) C hS hl (by omega) dL_law_531 dL_law_532 dL_law_533 (by decide) dL_law_534 dL_law_535 ?_
  refine ll_arg (pc := 536) (k := 2) C hS hl (by omega) dL_law_536 dL_law_537 dL_law_538 (by decide) dL_law_539 dL_law_540 ?_
  refine ll_arg (pc := 541) (k := 3) C hS hl (by omega) dL_law_541 dL_law_542 dL_law_543 (by decide) dL_law_544 dL_law_545 ?_
  refine ll_arg (pc := 546) (k := 4) C hS hl (by omega) dL_law_546 dL_law_547 dL_law_548 (by decide) dL_law_549 dL_law_550 ?_
  refine ll_arg (pc := 551) (k := 5) C hS hl (by omega) dL_law_551 dL_law_552 dL_law_553 (by decide) dL_law_554 dL_law_555 ?_
  refine z_cV (E := E) (M := M) (M2 := J2) (id := (10, 0, 0)) (as := [.inl (xs (i + 1)), .inl (xs (i + 2)), .inl (xs (i + 3)), .inl (xs (i + 4)), .inl (xs (i + 5))]) (r := some (.inl x)) (k := 128) (n := 5) (rest := []) (ci := 7) (C := RX9) (T := TX9) (N := 4) hx hb hml hown htz z1 qw_1032 qw_22 ⟨by decide +kernel, by decide +kernel, by decide +kernel⟩ (Nat.le_of_ble_eq_true rfl) qw_1029 qw_1030 qw_1031 hE hin10 (by decide) (z_vokI rfl) rfl rfl ⟨_, rfl⟩ hP hS hA hV ⟨Nat.le_of_ble_eq_true rfl, Nat.le_of_ble_eq_true rfl⟩ ⟨by show cells ≤ 176566; omega, by show slots ≤ 8572552; omega⟩ hl.1 (Nat.le_of_ble_eq_true rfl) dL_law_556 rfl (fun H locs _ hP _ _ hS => ?_)
  refine W.eq (g2 := F0 m 559 jls [.int x]) rfl ?_
  refine lv_aload_n hx hb dL_law_559 rfl (lv_at hl 1 rfl) ?_
  refine ll_arg (pc := 560) (k := 1) C hS hl (by omega) dL_law_560 dL_law_561 dL_law_562 (by decide) dL_law_563 dL_law_564 ?_
  refine ll_arg (pc := 565) (k := 2) C hS hl (by omega) dL_law_565 dL_law_566 dL_law_567 (by decide) dL_law_568 dL_law_569 ?_
  refine ll_arg (pc := 570) (k := 3) C hS hl (by omega) dL_law_570 dL_law_571 dL_law_572 (by decide) dL_law_573 dL_law_574 ?_
  refine ll_arg (pc := 575) (k := 4) C hS hl (by omega) dL_law_575 dL_law_576 dL_law_577 (by decide) dL_law_578 dL_law_579 ?_
  refine ll_arg (pc := 580) (k := 5) C hS hl (by omega) dL_law_580 dL_law_581 dL_law_582 (by decide) dL_law_583 dL_law_584 ?_
  refine z_cV (E := E) (M := J2) (M2 := J3) (id := (11, 0, 0)) (as := [.inl (xs (i + 1)), .inl (xs (i + 2)), .inl (xs (i + 3)), .inl (xs (i + 4)), .inl (xs (i + 5))]) (r := some (.inl x)) (k := 198) (n := 5) (rest := [.int x]) (ci := 8) (C := RX10) (T := TX10) (N := 8) hx hb hml hown htz z2 qw_1036 qw_618 ⟨by decide +kernel, by decide +kernel, by decide +kernel⟩ (Nat.le_of_ble_eq_true rfl) qw_1033 qw_1034 qw_1035 hE hin11 (by decide) (z_vokI rfl) rfl rfl ⟨_, rfl⟩ hP hS hA hV ⟨Nat.le_of_ble_eq_true rfl, Nat.le_of_ble_eq_true rfl⟩ ⟨by show cells ≤ 176566; omega, by show slots ≤ 8572552; omega⟩ hl.1 (Nat.le_of_ble_eq_true rfl) dL_law_585 rfl (fun H locs _ hP _ _ hS => ?_)
  refine W.eq (g2 := F0 m 588 jls [.int x, .int x]) rfl ?_
  refine lv_icmp_eq (tgt := 1624) hx hb dL_law_588 (by decide) (fun _ => ?_) (fun z => absurd rfl z)
  refine W.widen (k := cells + 70) (n := slots + 7120) (by omega) (by omega) ?_
  exact kk E J3 H locs ext_rf ⟨by rw [j10.1, j10.2]; exact hw, sb, hP, hS, hA, hV⟩
set_option maxHeartbeats 4000000 in
set_option maxRecDepth 100000 in
theorem ll_c9 (C : ll_C p s m meth c b L xs) (S : ll_S s E M bd H locs) (hbd : bd < 2000000000) (hl : ll_H jls E b i) (hi : i + 6 < L) (hcs : cells + 70 ≤ 176566 ∧ slots + 7120 ≤ 8572552) (kk : ll_K p l e s m b below meth c Q E bd cells slots jls) : W p l e room_1 s m #[Value.ref b] below meth c H locs cells slots Q (F0 m 593 jls []) := by
  obtain ⟨hx, hb, hr, hml, hown, htz, hX, hbl, hlk, hL⟩ := id C
  obtain ⟨hw, hSB, hP, hS, hA, hV⟩ := id S
  obtain ⟨hE, hin10, hin11, -⟩ := id hw
  obtain ⟨v, J2, J3, z1, z2, sb, j10, x, rfl⟩ := two_begin (r := xs (i + 1)) (se := xs (i + 2)) (ta := xs (i + 3)) (so := xs (i + 4)) (mo := xs (i + 5)) hSB (by omega)
  refine lv_aload_n hx hb dL_law_593 rfl (lv_at hl 2 rfl) ?_
  refine ll_arg (pc := 594) (k := 1) C hS hl (by omega) dL_law_594 dL_law_595 dL_law_596 (by decide) dL_law_597 dL_law_598 ?_
  refine ll_arg (pc := 599) (k := 2) C hS hl (by omega) dL_law_599 dL_law_600 dL_law_601 (by decide) dL_law_602 dL_law_603 ?_
  refine ll_arg (pc := 604) (k := 3) C hS hl (by omega) dL_law_604 dL_law_605 dL_law_606 (by decide) dL_law_607 dL_law_608 ?_
  refine ll_arg (pc := 609) (k := 4) C hS hl (by omega) dL_law_609 dL_law_610 dL_law_611 (by decide) dL_law_612 dL_law_613 ?_
  refine ll_arg (pc := 614) (k := 5) C hS hl (by omega) dL_law_614 dL_law_615 dL_law_616 (by decide) dL_law_617 dL_law_618 ?_
  refine z_cV (E := E) (M := M) (M2 := J2) (id := (10, 0, 0)) (as := [.inl (xs (i + 1)), .inl (xs (i + 2)), .inl (xs (i + 3)), .inl (xs (i + 4)), .inl (xs (i + 5))]) (r := some (.inl x)) (k := 129) (n := 5) (rest := []) (ci := 7) (C := RX9) (T := TX9) (N := 4) hx hb hml hown htz z1 qw_1040 qw_22 ⟨by decide +kernel, by decide +kernel, by decide +kernel⟩ (Nat.le_of_ble_eq_true rfl) qw_1037 qw_1038 qw_1039 hE hin10 (by decide) (z_vokI rfl) rfl rfl ⟨_, rfl⟩ hP hS hA hV ⟨Nat.le_of_ble_eq_true rfl, Nat.le_of_ble_eq_true rfl⟩ ⟨by show cells ≤ 176566; omega, by show slots ≤ 8572552; omega⟩ hl.1 (Nat.le_of_ble_eq_true rfl) dL_law_619 rfl (fun H locs _ hP _ _ hS => ?_)
  refine W.eq (g2 := F0 m 622 jls [.int x]) rfl ?_
  refine lv_aload_n hx hb dL_law_622 rfl (lv_at hl 1 rfl) ?_
  refine ll_arg (pc := 623) (k := 1) C hS hl (by omega) dL_law_623 dL_law_624 dL_law_625 (by decide) dL_law_626 dL_law_627 ?_
  refine ll_arg (pc := 628) (k := 2) C hS hl (by omega) dL_law_628 dL_law_629 dL_law_630 (by decide) dL_law_631 dL_law_632 ?_
  refine ll_arg (pc := 633) (k := 3) C hS hl (by omega) dL_law_633 dL_law_634 dL_law_635 (by decide) dL_law_636 dL_law_637 ?_
  refine ll_arg (pc := 638) (k := 4) C hS hl (by omega) dL_law_638 dL_law_639 dL_law_640 (by decide) dL_law_641 dL_law_642 ?_
  refine ll_arg (pc := 643) (k := 5) C hS hl (by omega) dL_law_643 dL_law_644 dL_law_645 (by decide) dL_law_646 dL_law_647 ?_
  refine z_cV (E := E) (M := J2) (M2 := J3) (id := (11, 0, 0)) (as := [.inl (xs (i + 1)), .inl (xs (i + 2)), .inl (xs (i + 3)), .inl (xs (i + 4)), .inl (xs (i + 5))]) (r := some (.inl x)) (k := 208) (n := 5) (rest := [.int x]) (ci := 8) (C := RX10) (T := TX10) (N := 8) hx hb hml hown htz z2 qw_1044 qw_618 ⟨by decide +kernel, by decide +kernel, by decide +kernel⟩ (Nat.le_of_ble_eq_true rfl) qw_1041 qw_1042 qw_1043 hE hin11 (by decide) (z_vokI rfl) rfl rfl ⟨_, rfl⟩ hP hS hA hV ⟨Nat.le_of_ble_eq_true rfl, Nat.le_of_ble_eq_true rfl⟩ ⟨by show cells ≤ 176566; omega, by show slots ≤ 8572552; omega⟩ hl.1 (Nat.le_of_ble_eq_true rfl) dL_law_648 rfl (fun H locs _ hP _ _ hS => ?_)
  refine W.eq (g2 := F0 m 651 jls [.int x, .int x]) rfl ?_
  refine lv_icmp_eq (tgt := 1624) hx hb dL_law_651 (by decide) (fun _ => ?_) (fun z => absurd rfl z)
  refine W.widen (k := cells + 70) (n := slots + 7120) (by omega) (by omega) ?_
  exact kk E J3 H locs ext_rf ⟨by rw [j10.1, j10.2]; exact hw, sb, hP, hS, hA, hV⟩
set_option maxHeartbeats 4000000 in
set_option maxRecDepth 100000 in
theorem ll_c10 (C : ll_C p s m meth c b L xs) (S : ll_S s E M bd H locs) (hbd : bd < 2000000000) (hl : ll_H jls E b i) (hi : i + 6 < L) (hcs : cells + 70 ≤ 176566 ∧ slots + 7120 ≤ 8572552) (kk : ll_K p l e s m b below meth c Q E bd cells slots jls) : W p l e room_1 s m #[Value.ref b] below meth c H locs cells slots Q (F0 m 656 jls []) := by
  obtain ⟨hx, hb, hr, hml, hown, htz, hX, hbl, hlk, hL⟩ := id C
  obtain ⟨hw, hSB, hP, hS, hA, hV⟩ := id S
  obtain ⟨hE, hin10, hin11, -⟩ := id hw
  obtain ⟨v, J2, J3, z1, z2, sb, j10, x, rfl⟩ := two_stop (r := xs (i + 1)) hSB (by omega)
  refine lv_aload_n hx hb dL_law_656 rfl (lv_at hl 2 rfl) ?_
  refine ll_arg (pc := 657) (k := 1) C hS hl (by omega) dL_law_657 dL_law_658 dL_law_659 (by decide) dL_law_660 dL_law_661 ?_
  refine z_cV (E := E) (M := M) (M2 := J2) (id := (10, 0, 0)) (as := [.inl (xs (i + 1))]) (r := some (.inl x)) (k := 130) (n := 1) (rest := []) (ci := 7) (C := RX9) (T := TX9) (N := 4) hx hb hml hown htz z1 qw_1048 qw_22 ⟨by decide +kernel, by decide +kernel, by decide +kernel⟩ (Nat.le_of_ble_eq_true rfl) qw_1045 qw_1046 qw_1047 hE hin10 (by decide) (z_vokI rfl) rfl rfl ⟨_, rfl⟩ hP hS hA hV ⟨Nat.le_of_ble_eq_true rfl, Nat.le_of_ble_eq_true rfl⟩ ⟨by show cells ≤ 176566; omega, by show slots ≤ 8572552; omega⟩ hl.1 (Nat.le_of_ble_eq_true rfl) dL_law_662 rfl (fun H locs _ hP _ _ hS => ?_)
  refine W.eq (g2 := F0 m 665 jls [.int x]) rfl ?_
  refine lv_aload_n hx hb dL_law_665 rfl (lv_at hl 1 rfl) ?_
  refine ll_arg (pc := 666) (k := 1) C hS hl (by omega) dL_law_666 dL_law_667 dL_law_668 (by decide) dL_law_669 dL_law_670 ?_
  refine z_cV (E := E) (M := J2) (M2 := J3) (id := (11, 0, 0)) (as := [.inl (xs (i + 1))]) (r := some (.inl x)) (k := 191) (n := 1) (rest := [.int x]) (ci := 8) (C := RX10) (T := TX10) (N := 8) hx hb hml hown htz z2 qw_1052 qw_618 ⟨by decide +kernel, by decide +kernel, by decide +kernel⟩ (Nat.le_of_ble_eq_true rfl) qw_1049 qw_1050 qw_1051 hE hin11 (by decide) (z_vokI rfl) rfl rfl ⟨_, rfl⟩ hP hS hA hV ⟨Nat.le_of_ble_eq_true rfl, Nat.le_of_ble_eq_true rfl⟩ ⟨by show cells ≤ 176566; omega, by show slots ≤ 8572552; omega⟩ hl.1 (Nat.le_of_ble_eq_true rfl) dL_law_671 rfl (fun H locs _ hP _ _ hS => ?_)
  refine W.eq (g2 := F0 m 674 jls [.int x, .int x]) rfl ?_
  refine lv_icmp_eq (tgt := 1624) hx hb dL_law_674 (by decide) (fun _ => ?_) (fun z => absurd rfl z)
  refine W.widen (k := cells + 70) (n := slots + 7120) (by omega) (by omega) ?_
  exact kk E J3 H locs ext_rf ⟨by rw [j10.1, j10.2]; exact hw, sb, hP, hS, hA, hV⟩
set_option maxHeartbeats 4000000 in
set_option maxRecDepth 100000 in
theorem ll_c11 (C : ll_C p s m meth c b L xs) (S : ll_S s E M bd H locs) (hbd : bd < 2000000000) (hl : ll_H jls E b i) (hi : i + 6 < L) (hcs : cells + 70 ≤ 176566 ∧ slots + 7120 ≤ 8572552) (kk : ll_K p l e s m b below meth c Q E bd cells slots jls) : W p l e room_1 s m #[Value.ref b] below meth c H locs cells slots Q (F0 m 679 jls []) := by
  obtain ⟨hx, hb, hr, hml, hown, htz, hX, hbl, hlk, hL⟩ := id C
  obtain ⟨hw, hSB, hP, hS, hA, hV⟩ := id S
  obtain ⟨hE, hin10, hin11, -⟩ := id hw
  obtain ⟨v, J2, J3, z1, z2, sb, j10, x, rfl⟩ := two_tick (n := xs (i + 1)) hSB (by omega)
  refine lv_aload_n hx hb dL_law_679 rfl (lv_at hl 2 rfl) ?_
  refine ll_arg (pc := 680) (k := 1) C hS hl (by omega) dL_law_680 dL_law_681 dL_law_682 (by decide) dL_law_683 dL_law_684 ?_
  refine z_cV (E := E) (M := M) (M2 := J2) (id := (10, 0, 0)) (as := [.inl (xs (i + 1))]) (r := some (.inl x)) (k := 131) (n := 1) (rest := []) (ci := 7) (C := RX9) (T := TX9) (N := 4) hx hb hml hown htz z1 qw_1056 qw_22 ⟨by decide +kernel, by decide +kernel, by decide +kernel⟩ (Nat.le_of_ble_eq_true rfl) qw_1053 qw_1054 qw_1055 hE hin10 (by decide) (z_vokI rfl) rfl rfl ⟨_, rfl⟩ hP hS hA hV ⟨Nat.le_of_ble_eq_true rfl, Nat.le_of_ble_eq_true rfl⟩ ⟨by show cells ≤ 176566; omega, by show slots ≤ 8572552; omega⟩ hl.1 (Nat.le_of_ble_eq_true rfl) dL_law_685 rfl (fun H locs _ hP _ _ hS => ?_)
  refine W.eq (g2 := F0 m 688 jls [.int x]) rfl ?_
  refine lv_aload_n hx hb dL_law_688 rfl (lv_at hl 1 rfl) ?_
  refine ll_arg (pc := 689) (k := 1) C hS hl (by omega) dL_law_689 dL_law_690 dL_law_691 (by decide) dL_law_692 dL_law_693 ?_
  refine z_cV (E := E) (M := J2) (M2 := J3) (id := (11, 0, 0)) (as := [.inl (xs (i + 1))]) (r := some (.inl x)) (k := 221) (n := 1) (rest := [.int x]) (ci := 8) (C := RX10) (T := TX10) (N := 8) hx hb hml hown htz z2 qw_1060 qw_618 ⟨by decide +kernel, by decide +kernel, by decide +kernel⟩ (Nat.le_of_ble_eq_true rfl) qw_1057 qw_1058 qw_1059 hE hin11 (by decide) (z_vokI rfl) rfl rfl ⟨_, rfl⟩ hP hS hA hV ⟨Nat.le_of_ble_eq_true rfl, Nat.le_of_ble_eq_true rfl⟩ ⟨by show cells ≤ 176566; omega, by show slots ≤ 8572552; omega⟩ hl.1 (Nat.le_of_ble_eq_true rfl) dL_law_694 rfl (fun H locs _ hP _ _ hS => ?_)
  refine W.eq (g2 := F0 m 697 jls [.int x, .int x]) rfl ?_
  refine lv_icmp_eq (tgt := 1624) hx hb dL_law_697 (by decide) (fun _ => ?_) (fun z => absurd rfl z)
  refine W.widen (k := cells + 70) (n := slots + 7120) (by omega) (by omega) ?_
  exact kk E J3 H locs ext_rf ⟨by rw [j10.1, j10.2]; exact hw, sb, hP, hS, hA, hV⟩
set_option maxHeartbeats 4000000 in
set_option maxRecDepth 100000 in
theorem ll_c12 (C : ll_C p s m meth c b L xs) (S : ll_S s E M bd H locs) (hbd : bd < 2000000000) (hl : ll_H jls E b i) (hi : i + 6 < L) (hcs : cells + 70 ≤ 176566 ∧ slots + 7120 ≤ 8572552) (kk : ll_K p l e s m b below meth c Q E bd cells slots jls) : W p l e room_1 s m #[Value.ref b] below meth c H locs cells slots Q (F0 m 702 jls []) := by
  obtain ⟨hx, hb, hr, hml, hown, htz, hX, hbl, hlk, hL⟩ := id C
  obtain ⟨hw, hSB, hP, hS, hA, hV⟩ := id S
  obtain ⟨hE, hin10, hin11, -⟩ := id hw
  obtain ⟨v, J2, J3, z1, z2, sb, j10, x, rfl⟩ := two_tagOf (t := xs (i + 1)) (k := xs (i + 2)) hSB
  refine lv_aload_n hx hb dL_law_702 rfl (lv_at hl 2 rfl) ?_
  refine ll_arg (pc := 703) (k := 1) C hS hl (by omega) dL_law_703 dL_law_704 dL_law_705 (by decide) dL_law_706 dL_law_707 ?_
  refine ll_arg (pc := 708) (k := 2) C hS hl (by omega) dL_law_708 dL_law_709 dL_law_710 (by decide) dL_law_711 dL_law_712 ?_
  refine z_cV (E := E) (M := M) (M2 := J2) (id := (10, 0, 0)) (as := [.inl (xs (i + 1)), .inl (xs (i + 2))]) (r := some (.inl x)) (k := 132) (n := 2) (rest := []) (ci := 7) (C := RX9) (T := TX9) (N := 4) hx hb hml hown htz z1 qw_1064 qw_22 ⟨by decide +kernel, by decide +kernel, by decide +kernel⟩ (Nat.le_of_ble_eq_true rfl) qw_1061 qw_1062 qw_1063 hE hin10 (by decide) (z_vokI rfl) rfl rfl ⟨_, rfl⟩ hP hS hA hV ⟨Nat.le_of_ble_eq_true rfl, Nat.le_of_ble_eq_true rfl⟩ ⟨by show cells ≤ 176566; omega, by show slots ≤ 8572552; omega⟩ hl.1 (Nat.le_of_ble_eq_true rfl) dL_law_713 rfl (fun H locs _ hP _ _ hS => ?_)
  refine W.eq (g2 := F0 m 716 jls [.int x]) rfl ?_
  refine lv_aload_n hx hb dL_law_716 rfl (lv_at hl 1 rfl) ?_
  refine ll_arg (pc := 717) (k := 1) C hS hl (by omega) dL_law_717 dL_law_718 dL_law_719 (by decide) dL_law_720 dL_law_721 ?_
  refine ll_arg (pc := 722) (k := 2) C hS hl (by omega) dL_law_722 dL_law_723 dL_law_724 (by decide) dL_law_725 dL_law_726 ?_
  refine z_cV (E := E) (M := J2) (M2 := J3) (id := (11, 0, 0)) (as := [.inl (xs (i + 1)), .inl (xs (i + 2))]) (r := some (.inl x)) (k := 222) (n := 2) (rest := [.int x]) (ci := 8) (C := RX10) (T := TX10) (N := 8) hx hb hml hown htz z2 qw_1068 qw_618 ⟨by decide +kernel, by decide +kernel, by decide +kernel⟩ (Nat.le_of_ble_eq_true rfl) qw_1065 qw_1066 qw_1067 hE hin11 (by decide) (z_vokI rfl) rfl rfl ⟨_, rfl⟩ hP hS hA hV ⟨Nat.le_of_ble_eq_true rfl, Nat.le_of_ble_eq_true rfl⟩ ⟨by show cells ≤ 176566; omega, by show slots ≤ 8572552; omega⟩ hl.1 (Nat.le_of_ble_eq_true rfl) dL_law_727 rfl (fun H locs _ hP _ _ hS => ?_)
  refine W.eq (g2 := F0 m 730 jls [.int x, .int x]) rfl ?_
  refine lv_icmp_eq (tgt := 1624) hx hb dL_law_730 (by decide) (fun _ => ?_) (fun z => absurd rfl z)
  refine W.widen (k := cells + 70) (n := slots + 7120) (by omega) (by omega) ?_
  exact kk E J3 H locs ext_rf ⟨by rw [j10.1, j10.2]; exact hw, sb, hP, hS, hA, hV⟩
set_option maxHeartbeats 4000000 in
set_option maxRecDepth 100000 in
theorem ll_c13 (C : ll_C p s m meth c b L xs) (S : ll_S s E M bd H locs) (hbd : bd < 2000000000) (hl : ll_H jls E b i) (hi : i + 6 < L) (hcs : cells + 70 ≤ 176566 ∧ slots + 7120 ≤ 8572552) (kk : ll_K p l e s m b below meth c Q E bd cells slots jls) : W p l e room_1 s m #[Value.ref b] below meth c H locs cells slots Q (F0 m 735 jls []) := by
  obtain ⟨hx, hb, hr, hml, hown, htz, hX, hbl, hlk, hL⟩ := id C
  obtain ⟨hw, hSB, hP, hS, hA, hV⟩ := id S
  obtain ⟨hE, hin10, hin11, -⟩ := id hw
  obtain ⟨v, J2, J3, z1, z2, sb, j10, x, rfl⟩ := two_bits (t := xs (i + 1)) (p := xs (i + 2)) (n := xs (i + 3)) hSB
  refine lv_aload_n hx hb dL_law_735 rfl (lv_at hl 2 rfl) ?_
  refine ll_arg (pc := 736) (k := 1) C hS hl (by omega) dL_law_736 dL_law_737 dL_law_738 (by decide) dL_law_739 dL_law_740 ?_
  refine ll_arg (pc := 741) (k := 2) C hS hl (by omega) dL_law_741 dL_law_742 dL_law_743 (by decide) dL_law_744 dL_law_745 ?_
  refine ll_arg (pc := 746) (k := 3) C hS hl (by omega) dL_law_746 dL_law_747 dL_law_748 (by decide) dL_law_749 dL_law_750 ?_
  refine z_cV (E := E) (M := M) (M2 := J2) (id := (10, 0, 0)) (as := [.inl (xs (i + 1)), .inl (xs (i + 2)), .inl (xs (i + 3))]) (r := some (.inl x)) (k := 133) (n := 3) (rest := []) (ci := 7) (C := RX9) (T := TX9) (N := 4) hx hb hml hown htz z1 qw_1072 qw_22 ⟨by decide +kernel, by decide +kernel, by decide +kernel⟩ (Nat.le_of_ble_eq_true rfl) qw_1069 qw_1070 qw_1071 hE hin10 (by decide) (z_vokI rfl) rfl rfl ⟨_, rfl⟩ hP hS hA hV ⟨Nat.le_of_ble_eq_true rfl, Nat.le_of_ble_eq_true rfl⟩ ⟨by show cells ≤ 176566; omega, by show slots ≤ 8572552; omega⟩ hl.1 (Nat.le_of_ble_eq_true rfl) dL_law_751 rfl (fun H locs _ hP _ _ hS => ?_)
  refine W.eq (g2 := F0 m 754 jls [.int x]) rfl ?_
  refine lv_aload_n hx hb dL_law_754 rfl (lv_at hl 1 rfl) ?_
  refine ll_arg (pc := 755) (k := 1) C hS hl (by omega) dL_law_755 dL_law_756 dL_law_757 (by decide) dL_law_758 dL_law_759 ?_
  refine ll_arg (pc := 760) (k := 2) C hS hl (by omega) dL_law_760 dL_law_761 dL_law_762 (by decide) dL_law_763 dL_law_764 ?_
  refine ll_arg (pc := 765) (k := 3) C hS hl (by omega) dL_law_765 dL_law_766 dL_law_767 (by decide) dL_law_768 dL_law_769 ?_
  refine z_cV (E := E) (M := J2) (M2 := J3) (id := (11, 0, 0)) (as := [.inl (xs (i + 1)), .inl (xs (i + 2)), .inl (xs (i + 3))]) (r := some (.inl x)) (k := 223) (n := 3) (rest := [.int x]) (ci := 8) (C := RX10) (T := TX10) (N := 8) hx hb hml hown htz z2 qw_1076 qw_618 ⟨by decide +kernel, by decide +kernel, by decide +kernel⟩ (Nat.le_of_ble_eq_true rfl) qw_1073 qw_1074 qw_1075 hE hin11 (by decide) (z_vokI rfl) rfl rfl ⟨_, rfl⟩ hP hS hA hV ⟨Nat.le_of_ble_eq_true rfl, Nat.le_of_ble_eq_true rfl⟩ ⟨by show cells ≤ 176566; omega, by show slots ≤ 8572552; omega⟩ hl.1 (Nat.le_of_ble_eq_true rfl) dL_law_770 rfl (fun H locs _ hP _ _ hS => ?_)
  refine W.eq (g2 := F0 m 773 jls [.int x, .int x]) rfl ?_
  refine lv_icmp_eq (tgt := 1624) hx hb dL_law_773 (by decide) (fun _ => ?_) (fun z => absurd rfl z)
  refine W.widen (k := cells + 70) (n := slots + 7120) (by omega) (by omega) ?_
  exact kk E J3 H locs ext_rf ⟨by rw [j10.1, j10.2]; exact hw, sb, hP, hS, hA, hV⟩
end LL
