/-! the law's calls -/
section LL
variable {p : Program} {l : Launch} {e : Env} {s : State} {m : MethodId} {below : List Frame} {meth : Method} {c : Code} {b L : Nat} {xs : Nat → Int32} {H : Heap} {locs : List Loc} {Q : State → Prop} {jls : Array Slot} {E : zE} {M : zMem} {bd i cells slots : Nat}
set_option maxHeartbeats 4000000 in
set_option maxRecDepth 100000 in
theorem ll_c27 (C : ll_C p s m meth c b L xs) (S : ll_S s E M bd H locs) (hbd : bd < 2000000000) (hl : ll_H jls E b i) (hi : i + 6 < L) (hcs : cells + 70 ≤ 176566 ∧ slots + 7120 ≤ 8572552) (kk : ll_K p l e s m b below meth c Q E bd cells slots jls) : W p l e room_1 s m #[Value.ref b] below meth c H locs cells slots Q (F0 m 1229 jls []) := by
  obtain ⟨hx, hb, hr, hml, hown, htz, hX, hbl, hlk, hL⟩ := id C
  obtain ⟨hw, hSB, hP, hS, hA, hV⟩ := id S
  obtain ⟨hE, hin10, hin11, -⟩ := id hw
  obtain ⟨v, J2, J3, z1, z2, sb, j10, x, rfl⟩ := two_guess (e := xs (i + 1)) (s := xs (i + 2)) (c := xs (i + 3)) hSB
  refine lv_aload_n hx hb dL_law_1229 rfl (lv_at hl 2 rfl) ?_
  refine ll_arg (pc := 1230) (k := 1) C hS hl (by omega) dL_law_1230 dL_law_1231 dL_law_1232 (by decide) dL_law_1233 dL_law_1234 ?_
  refine ll_arg (pc := 1235) (k := 2) C hS hl (by omega) dL_law_1235 dL_law_1236 dL_law_1237 (by decide) dL_law_1238 dL_law_1239 ?_
  refine ll_arg (pc := 1240) (k := 3) C hS hl (by omega) dL_law_1240 dL_law_1241 dL_law_1242 (by decide) dL_law_1243 dL_law_1244 ?_
  refine z_cV (E := E) (M := M) (M2 := J2) (id := (10, 0, 0)) (as := [.inl (xs (i + 1)), .inl (xs (i + 2)), .inl (xs (i + 3))]) (r := some (.inl x)) (k := 146) (n := 3) (rest := []) (ci := 7) (C := RX9) (T := TX9) (N := 4) hx hb hml hown htz z1 qw_1190 qw_22 ⟨by decide +kernel, by decide +kernel, by decide +kernel⟩ (Nat.le_of_ble_eq_true rfl) qw_1187 qw_1188 qw_1189 hE hin10 (by decide) (z_vokI rfl) rfl rfl ⟨_, rfl⟩ hP hS hA hV ⟨Nat.le_of_ble_eq_true rfl, Nat.le_of_ble_eq_true rfl⟩ ⟨by show cells ≤ 176566; omega, by show slots ≤ 8572552; omega⟩ hl.1 (Nat.le_of_ble_eq_true rfl) dL_law_1245 rfl (fun H locs _ hP _ _ hS => ?_)
  refine W.eq (g2 := F0 m 1248 jls [.int x]) rfl ?_
  refine lv_aload_n hx hb dL_law_1248 rfl (lv_at hl 1 rfl) ?_
  refine ll_arg (pc := 1249) (k := 1) C hS hl (by omega) dL_law_1249 dL_law_1250 dL_law_1251 (by decide) dL_law_1252 dL_law_1253 ?_
  refine ll_arg (pc := 1254) (k := 2) C hS hl (by omega) dL_law_1254 dL_law_1255 dL_law_1256 (by decide) dL_law_1257 dL_law_1258 ?_
  refine ll_arg (pc := 1259) (k := 3) C hS hl (by omega) dL_law_1259 dL_law_1260 dL_law_1261 (by decide) dL_law_1262 dL_law_1263 ?_
  refine z_cV (E := E) (M := J2) (M2 := J3) (id := (11, 0, 0)) (as := [.inl (xs (i + 1)), .inl (xs (i + 2)), .inl (xs (i + 3))]) (r := some (.inl x)) (k := 252) (n := 3) (rest := [.int x]) (ci := 8) (C := RX10) (T := TX10) (N := 8) hx hb hml hown htz z2 qw_1194 qw_618 ⟨by decide +kernel, by decide +kernel, by decide +kernel⟩ (Nat.le_of_ble_eq_true rfl) qw_1191 qw_1192 qw_1193 hE hin11 (by decide) (z_vokI rfl) rfl rfl ⟨_, rfl⟩ hP hS hA hV ⟨Nat.le_of_ble_eq_true rfl, Nat.le_of_ble_eq_true rfl⟩ ⟨by show cells ≤ 176566; omega, by show slots ≤ 8572552; omega⟩ hl.1 (Nat.le_of_ble_eq_true rfl) dL_law_1264 rfl (fun H locs _ hP _ _ hS => ?_)
  refine W.eq (g2 := F0 m 1267 jls [.int x, .int x]) rfl ?_
  refine lv_icmp_eq (tgt := 1624) hx hb dL_law_1267 (by decide) (fun _ => ?_) (fun z => absurd rfl z)
  refine W.widen (k := cells + 70) (n := slots + 7120) (by omega) (by omega) ?_
  exact kk E J3 H locs ext_rf ⟨by rw [j10.1, j10.2]; exact hw, sb, hP, hS, hA, hV⟩
set_option maxHeartbeats 4000000 in
set_option maxRecDepth 100000 in
theorem ll_c28 (C : ll_C p s m meth c b L xs) (S : ll_S s E M bd H locs) (hbd : bd < 2000000000) (hl : ll_H jls E b i) (hi : i + 6 < L) (hcs : cells + 70 ≤ 176566 ∧ slots + 7120 ≤ 8572552) (kk : ll_K p l e s m b below meth c Q E bd cells slots jls) : W p l e room_1 s m #[Value.ref b] below meth c H locs cells slots Q (F0 m 1272 jls []) := by
  obtain ⟨hx, hb, hr, hml, hown, htz, hX, hbl, hlk, hL⟩ := id C
  obtain ⟨hw, hSB, hP, hS, hA, hV⟩ := id S
  obtain ⟨hE, hin10, hin11, -⟩ := id hw
  obtain ⟨v, J2, J3, z1, z2, sb, j10, x, rfl⟩ := two_least (k := xs (i + 1)) hSB
  refine lv_aload_n hx hb dL_law_1272 rfl (lv_at hl 2 rfl) ?_
  refine ll_arg (pc := 1273) (k := 1) C hS hl (by omega) dL_law_1273 dL_law_1274 dL_law_1275 (by decide) dL_law_1276 dL_law_1277 ?_
  refine z_cV (E := E) (M := M) (M2 := J2) (id := (10, 0, 0)) (as := [.inl (xs (i + 1))]) (r := some (.inl x)) (k := 147) (n := 1) (rest := []) (ci := 7) (C := RX9) (T := TX9) (N := 4) hx hb hml hown htz z1 qw_1198 qw_22 ⟨by decide +kernel, by decide +kernel, by decide +kernel⟩ (Nat.le_of_ble_eq_true rfl) qw_1195 qw_1196 qw_1197 hE hin10 (by decide) (z_vokI rfl) rfl rfl ⟨_, rfl⟩ hP hS hA hV ⟨Nat.le_of_ble_eq_true rfl, Nat.le_of_ble_eq_true rfl⟩ ⟨by show cells ≤ 176566; omega, by show slots ≤ 8572552; omega⟩ hl.1 (Nat.le_of_ble_eq_true rfl) dL_law_1278 rfl (fun H locs _ hP _ _ hS => ?_)
  refine W.eq (g2 := F0 m 1281 jls [.int x]) rfl ?_
  refine lv_aload_n hx hb dL_law_1281 rfl (lv_at hl 1 rfl) ?_
  refine ll_arg (pc := 1282) (k := 1) C hS hl (by omega) dL_law_1282 dL_law_1283 dL_law_1284 (by decide) dL_law_1285 dL_law_1286 ?_
  refine z_cV (E := E) (M := J2) (M2 := J3) (id := (11, 0, 0)) (as := [.inl (xs (i + 1))]) (r := some (.inl x)) (k := 257) (n := 1) (rest := [.int x]) (ci := 8) (C := RX10) (T := TX10) (N := 8) hx hb hml hown htz z2 qw_1202 qw_618 ⟨by decide +kernel, by decide +kernel, by decide +kernel⟩ (Nat.le_of_ble_eq_true rfl) qw_1199 qw_1200 qw_1201 hE hin11 (by decide) (z_vokI rfl) rfl rfl ⟨_, rfl⟩ hP hS hA hV ⟨Nat.le_of_ble_eq_true rfl, Nat.le_of_ble_eq_true rfl⟩ ⟨by show cells ≤ 176566; omega, by show slots ≤ 8572552; omega⟩ hl.1 (Nat.le_of_ble_eq_true rfl) dL_law_1287 rfl (fun H locs _ hP _ _ hS => ?_)
  refine W.eq (g2 := F0 m 1290 jls [.int x, .int x]) rfl ?_
  refine lv_icmp_eq (tgt := 1624) hx hb dL_law_1290 (by decide) (fun _ => ?_) (fun z => absurd rfl z)
  refine W.widen (k := cells + 70) (n := slots + 7120) (by omega) (by omega) ?_
  exact kk E J3 H locs ext_rf ⟨by rw [j10.1, j10.2]; exact hw, sb, hP, hS, hA, hV⟩
set_option maxHeartbeats 4000000 in
set_option maxRecDepth 100000 in
theorem ll_c29 (C : ll_C p s m meth c b L xs) (S : ll_S s E M bd H locs) (hbd : bd < 2000000000) (hl : ll_H jls E b i) (hi : i + 6 < L) (hcs : cells + 70 ≤ 176566 ∧ slots + 7120 ≤ 8572552) (kk : ll_K p l e s m b below meth c Q E bd cells slots jls) : W p l e room_1 s m #[Value.ref b] below meth c H locs cells slots Q (F0 m 1295 jls []) := by
  obtain ⟨hx, hb, hr, hml, hown, htz, hX, hbl, hlk, hL⟩ := id C
  obtain ⟨hw, hSB, hP, hS, hA, hV⟩ := id S
  obtain ⟨hE, hin10, hin11, -⟩ := id hw
  obtain ⟨v, J2, J3, z1, z2, sb, j10, x, rfl⟩ := two_sharp (k := xs (i + 1)) hSB
  refine lv_aload_n hx hb dL_law_1295 rfl (lv_at hl 2 rfl) ?_
  refine ll_arg (pc := 1296) (k := 1) C hS hl (by omega) dL_law_1296 dL_law_1297 dL_law_1298 (by decide) dL_law_1299 dL_law_1300 ?_
  refine z_cV (E := E) (M := M) (M2 := J2) (id := (10, 0, 0)) (as := [.inl (xs (i + 1))]) (r := some (.inl x)) (k := 148) (n := 1) (rest := []) (ci := 7) (C := RX9) (T := TX9) (N := 4) hx hb hml hown htz z1 qw_1206 qw_22 ⟨by decide +kernel, by decide +kernel, by decide +kernel⟩ (Nat.le_of_ble_eq_true rfl) qw_1203 qw_1204 qw_1205 hE hin10 (by decide) (z_vokI rfl) rfl rfl ⟨_, rfl⟩ hP hS hA hV ⟨Nat.le_of_ble_eq_true rfl, Nat.le_of_ble_eq_true rfl⟩ ⟨by show cells ≤ 176566; omega, by show slots ≤ 8572552; omega⟩ hl.1 (Nat.le_of_ble_eq_true rfl) dL_law_1301 rfl (fun H locs _ hP _ _ hS => ?_)
  refine W.eq (g2 := F0 m 1304 jls [.int x]) rfl ?_
  refine lv_aload_n hx hb dL_law_1304 rfl (lv_at hl 1 rfl) ?_
  refine ll_arg (pc := 1305) (k := 1) C hS hl (by omega) dL_law_1305 dL_law_1306 dL_law_1307 (by decide) dL_law_1308 dL_law_1309 ?_
  refine z_cV (E := E) (M := J2) (M2 := J3) (id := (11, 0, 0)) (as := [.inl (xs (i + 1))]) (r := some (.inl x)) (k := 258) (n := 1) (rest := [.int x]) (ci := 8) (C := RX10) (T := TX10) (N := 8) hx hb hml hown htz z2 qw_1210 qw_618 ⟨by decide +kernel, by decide +kernel, by decide +kernel⟩ (Nat.le_of_ble_eq_true rfl) qw_1207 qw_1208 qw_1209 hE hin11 (by decide) (z_vokI rfl) rfl rfl ⟨_, rfl⟩ hP hS hA hV ⟨Nat.le_of_ble_eq_true rfl, Nat.le_of_ble_eq_true rfl⟩ ⟨by show cells ≤ 176566; omega, by show slots ≤ 8572552; omega⟩ hl.1 (Nat.le_of_ble_eq_true rfl) dL_law_1310 rfl (fun H locs _ hP _ _ hS => ?_)
  refine W.eq (g2 := F0 m 1313 jls [.int x, .int x]) rfl ?_
  refine lv_icmp_eq (tgt := 1624) hx hb dL_law_1313 (by decide) (fun _ => ?_) (fun z => absurd rfl z)
  refine W.widen (k := cells + 70) (n := slots + 7120) (by omega) (by omega) ?_
  exact kk E J3 H locs ext_rf ⟨by rw [j10.1, j10.2]; exact hw, sb, hP, hS, hA, hV⟩
set_option maxHeartbeats 4000000 in
set_option maxRecDepth 100000 in
theorem ll_c30 (C : ll_C p s m meth c b L xs) (S : ll_S s E M bd H locs) (hbd : bd < 2000000000) (hl : ll_H jls E b i) (hi : i + 6 < L) (hcs : cells + 70 ≤ 176566 ∧ slots + 7120 ≤ 8572552) (kk : ll_K p l e s m b below meth c Q E bd cells slots jls) : W p l e room_1 s m #[Value.ref b] below meth c H locs cells slots Q (F0 m 1318 jls []) := by
  obtain ⟨hx, hb, hr, hml, hown, htz, hX, hbl, hlk, hL⟩ := id C
  obtain ⟨hw, hSB, hP, hS, hA, hV⟩ := id S
  obtain ⟨hE, hin10, hin11, -⟩ := id hw
  obtain ⟨v, J2, J3, z1, z2, sb, j10, x, rfl⟩ := two_values (p := xs (i + 1)) (n := xs (i + 2)) hSB
  refine lv_aload_n hx hb dL_law_1318 rfl (lv_at hl 2 rfl) ?_
  refine ll_arg (pc := 1319) (k := 1) C hS hl (by omega) dL_law_1319 dL_law_1320 dL_law_1321 (by decide) dL_law_1322 dL_law_1323 ?_
  refine ll_arg (pc := 1324) (k := 2) C hS hl (by omega) dL_law_1324 dL_law_1325 dL_law_1326 (by decide) dL_law_1327 dL_law_1328 ?_
  refine z_cV (E := E) (M := M) (M2 := J2) (id := (10, 0, 0)) (as := [.inl (xs (i + 1)), .inl (xs (i + 2))]) (r := some (.inl x)) (k := 149) (n := 2) (rest := []) (ci := 7) (C := RX9) (T := TX9) (N := 4) hx hb hml hown htz z1 qw_1214 qw_22 ⟨by decide +kernel, by decide +kernel, by decide +kernel⟩ (Nat.le_of_ble_eq_true rfl) qw_1211 qw_1212 qw_1213 hE hin10 (by decide) (z_vokI rfl) rfl rfl ⟨_, rfl⟩ hP hS hA hV ⟨Nat.le_of_ble_eq_true rfl, Nat.le_of_ble_eq_true rfl⟩ ⟨by show cells ≤ 176566; omega, by show slots ≤ 8572552; omega⟩ hl.1 (Nat.le_of_ble_eq_true rfl) dL_law_1329 rfl (fun H locs _ hP _ _ hS => ?_)
  refine W.eq (g2 := F0 m 1332 jls [.int x]) rfl ?_
  refine lv_aload_n hx hb dL_law_1332 rfl (lv_at hl 1 rfl) ?_
  refine ll_arg (pc := 1333) (k := 1) C hS hl (by omega) dL_law_1333 dL_law_1334 dL_law_1335 (by decide) dL_law_1336 dL_law_1337 ?_
  refine ll_arg (pc := 1338) (k := 2) C hS hl (by omega) dL_law_1338 dL_law_1339 dL_law_1340 (by decide) dL_law_1341 dL_law_1342 ?_
  refine z_cV (E := E) (M := J2) (M2 := J3) (id := (11, 0, 0)) (as := [.inl (xs (i + 1)), .inl (xs (i + 2))]) (r := some (.inl x)) (k := 259) (n := 2) (rest := [.int x]) (ci := 8) (C := RX10) (T := TX10) (N := 8) hx hb hml hown htz z2 qw_1218 qw_618 ⟨by decide +kernel, by decide +kernel, by decide +kernel⟩ (Nat.le_of_ble_eq_true rfl) qw_1215 qw_1216 qw_1217 hE hin11 (by decide) (z_vokI rfl) rfl rfl ⟨_, rfl⟩ hP hS hA hV ⟨Nat.le_of_ble_eq_true rfl, Nat.le_of_ble_eq_true rfl⟩ ⟨by show cells ≤ 176566; omega, by show slots ≤ 8572552; omega⟩ hl.1 (Nat.le_of_ble_eq_true rfl) dL_law_1343 rfl (fun H locs _ hP _ _ hS => ?_)
  refine W.eq (g2 := F0 m 1346 jls [.int x, .int x]) rfl ?_
  refine lv_icmp_eq (tgt := 1624) hx hb dL_law_1346 (by decide) (fun _ => ?_) (fun z => absurd rfl z)
  refine W.widen (k := cells + 70) (n := slots + 7120) (by omega) (by omega) ?_
  exact kk E J3 H locs ext_rf ⟨by rw [j10.1, j10.2]; exact hw, sb, hP, hS, hA, hV⟩
set_option maxHeartbeats 4000000 in
set_option maxRecDepth 100000 in
theorem ll_c31 (C : ll_C p s m meth c b L xs) (S : ll_S s E M bd H locs) (hbd : bd < 2000000000) (hl : ll_H jls E b i) (hi : i + 6 < L) (hcs : cells + 70 ≤ 176566 ∧ slots + 7120 ≤ 8572552) (kk : ll_K p l e s m b below meth c Q E bd cells slots jls) : W p l e room_1 s m #[Value.ref b] below meth c H locs cells slots Q (F0 m 1351 jls []) := by
  obtain ⟨hx, hb, hr, hml, hown, htz, hX, hbl, hlk, hL⟩ := id C
  obtain ⟨hw, hSB, hP, hS, hA, hV⟩ := id S
  obtain ⟨hE, hin10, hin11, -⟩ := id hw
  obtain ⟨v, J2, J3, z1, z2, sb, j10, x, rfl⟩ := two_fadesIn (t := xs (i + 1)) (f := xs (i + 2)) hSB
  refine lv_aload_n hx hb dL_law_1351 rfl (lv_at hl 2 rfl) ?_
  refine ll_arg (pc := 1352) (k := 1) C hS hl (by omega) dL_law_1352 dL_law_1353 dL_law_1354 (by decide) dL_law_1355 dL_law_1356 ?_
  refine ll_arg (pc := 1357) (k := 2) C hS hl (by omega) dL_law_1357 dL_law_1358 dL_law_1359 (by decide) dL_law_1360 dL_law_1361 ?_
  refine z_cV (E := E) (M := M) (M2 := J2) (id := (10, 0, 0)) (as := [.inl (xs (i + 1)), .inl (xs (i + 2))]) (r := some (.inl x)) (k := 150) (n := 2) (rest := []) (ci := 7) (C := RX9) (T := TX9) (N := 4) hx hb hml hown htz z1 qw_1222 qw_22 ⟨by decide +kernel, by decide +kernel, by decide +kernel⟩ (Nat.le_of_ble_eq_true rfl) qw_1219 qw_1220 qw_1221 hE hin10 (by decide) (z_vokI rfl) rfl rfl ⟨_, rfl⟩ hP hS hA hV ⟨Nat.le_of_ble_eq_true rfl, Nat.le_of_ble_eq_true rfl⟩ ⟨by show cells ≤ 176566; omega, by show slots ≤ 8572552; omega⟩ hl.1 (Nat.le_of_ble_eq_true rfl) dL_law_1362 rfl (fun H locs _ hP _ _ hS => ?_)
  refine W.eq (g2 := F0 m 1365 jls [.int x]) rfl ?_
  refine lv_aload_n hx hb dL_law_1365 rfl (lv_at hl 1 rfl) ?_
  refine ll_arg (pc := 1366) (k := 1) C hS hl (by omega) dL_law_1366 dL_law_1367 dL_law_1368 (by decide) dL_law_1369 dL_law_1370 ?_
  refine ll_arg (pc := 1371) (k := 2) C hS hl (by omega) dL_law_1371 dL_law_1372 dL_law_1373 (by decide) dL_law_1374 dL_law_1375 ?_
  refine z_cV (E := E) (M := J2) (M2 := J3) (id := (11, 0, 0)) (as := [.inl (xs (i + 1)), .inl (xs (i + 2))]) (r := some (.inl x)) (k := 260) (n := 2) (rest := [.int x]) (ci := 8) (C := RX10) (T := TX10) (N := 8) hx hb hml hown htz z2 qw_1226 qw_618 ⟨by decide +kernel, by decide +kernel, by decide +kernel⟩ (Nat.le_of_ble_eq_true rfl) qw_1223 qw_1224 qw_1225 hE hin11 (by decide) (z_vokI rfl) rfl rfl ⟨_, rfl⟩ hP hS hA hV ⟨Nat.le_of_ble_eq_true rfl, Nat.le_of_ble_eq_true rfl⟩ ⟨by show cells ≤ 176566; omega, by show slots ≤ 8572552; omega⟩ hl.1 (Nat.le_of_ble_eq_true rfl) dL_law_1376 rfl (fun H locs _ hP _ _ hS => ?_)
  refine W.eq (g2 := F0 m 1379 jls [.int x, .int x]) rfl ?_
  refine lv_icmp_eq (tgt := 1624) hx hb dL_law_1379 (by decide) (fun _ => ?_) (fun z => absurd rfl z)
  refine W.widen (k := cells + 70) (n := slots + 7120) (by omega) (by omega) ?_
  exact kk E J3 H locs ext_rf ⟨by rw [j10.1, j10.2]; exact hw, sb, hP, hS, hA, hV⟩
set_option maxHeartbeats 4000000 in
set_option maxRecDepth 100000 in
theorem ll_c32 (C : ll_C p s m meth c b L xs) (S : ll_S s E M bd H locs) (hbd : bd < 2000000000) (hl : ll_H jls E b i) (hi : i + 6 < L) (hcs : cells + 70 ≤ 176566 ∧ slots + 7120 ≤ 8572552) (kk : ll_K p l e s m b below meth c Q E bd cells slots jls) : W p l e room_1 s m #[Value.ref b] below meth c H locs cells slots Q (F0 m 1384 jls []) := by
  obtain ⟨hx, hb, hr, hml, hown, htz, hX, hbl, hlk, hL⟩ := id C
  obtain ⟨hw, hSB, hP, hS, hA, hV⟩ := id S
  obtain ⟨hE, hin10, hin11, -⟩ := id hw
  obtain ⟨v, J2, J3, z1, z2, sb, j10, x, rfl⟩ := two_both (x := xs (i + 1)) (y := xs (i + 2)) hSB
  refine lv_aload_n hx hb dL_law_1384 rfl (lv_at hl 2 rfl) ?_
  refine ll_arg (pc := 1385) (k := 1) C hS hl (by omega) dL_law_1385 dL_law_1386 dL_law_1387 (by decide) dL_law_1388 dL_law_1389 ?_
  refine ll_arg (pc := 1390) (k := 2) C hS hl (by omega) dL_law_1390 dL_law_1391 dL_law_1392 (by decide) dL_law_1393 dL_law_1394 ?_
  refine z_cV (E := E) (M := M) (M2 := J2) (id := (10, 0, 0)) (as := [.inl (xs (i + 1)), .inl (xs (i + 2))]) (r := some (.inl x)) (k := 151) (n := 2) (rest := []) (ci := 7) (C := RX9) (T := TX9) (N := 4) hx hb hml hown htz z1 qw_1230 qw_22 ⟨by decide +kernel, by decide +kernel, by decide +kernel⟩ (Nat.le_of_ble_eq_true rfl) qw_1227 qw_1228 qw_1229 hE hin10 (by decide) (z_vokI rfl) rfl rfl ⟨_, rfl⟩ hP hS hA hV ⟨Nat.le_of_ble_eq_true rfl, Nat.le_of_ble_eq_true rfl⟩ ⟨by show cells ≤ 176566; omega, by show slots ≤ 8572552; omega⟩ hl.1 (Nat.le_of_ble_eq_true rfl) dL_law_1395 rfl (fun H locs _ hP _ _ hS => ?_)
  refine W.eq (g2 := F0 m 1398 jls [.int x]) rfl ?_
  refine lv_aload_n hx hb dL_law_1398 rfl (lv_at hl 1 rfl) ?_
  refine ll_arg (pc := 1399) (k := 1) C hS hl (by omega) dL_law_1399 dL_law_1400 dL_law_1401 (by decide) dL_law_1402 dL_law_1403 ?_
  refine ll_arg (pc := 1404) (k := 2) C hS hl (by omega) dL_law_1404 dL_law_1405 dL_law_1406 (by decide) dL_law_1407 dL_law_1408 ?_
  refine z_cV (E := E) (M := J2) (M2 := J3) (id := (11, 0, 0)) (as := [.inl (xs (i + 1)), .inl (xs (i + 2))]) (r := some (.inl x)) (k := 262) (n := 2) (rest := [.int x]) (ci := 8) (C := RX10) (T := TX10) (N := 8) hx hb hml hown htz z2 qw_1234 qw_618 ⟨by decide +kernel, by decide +kernel, by decide +kernel⟩ (Nat.le_of_ble_eq_true rfl) qw_1231 qw_1232 qw_1233 hE hin11 (by decide) (z_vokI rfl) rfl rfl ⟨_, rfl⟩ hP hS hA hV ⟨Nat.le_of_ble_eq_true rfl, Nat.le_of_ble_eq_true rfl⟩ ⟨by show cells ≤ 176566; omega, by show slots ≤ 8572552; omega⟩ hl.1 (Nat.le_of_ble_eq_true rfl) dL_law_1409 rfl (fun H locs _ hP _ _ hS => ?_)
  refine W.eq (g2 := F0 m 1412 jls [.int x, .int x]) rfl ?_
  refine lv_icmp_eq (tgt := 1624) hx hb dL_law_1412 (by decide) (fun _ => ?_) (fun z => absurd rfl z)
  refine W.widen (k := cells + 70) (n := slots + 7120) (by omega) (by omega) ?_
  exact kk E J3 H locs ext_rf ⟨by rw [j10.1, j10.2]; exact hw, sb, hP, hS, hA, hV⟩
set_option maxHeartbeats 4000000 in
set_option maxRecDepth 100000 in
theorem ll_c33 (C : ll_C p s m meth c b L xs) (S : ll_S s E M bd H locs) (hbd : bd < 2000000000) (hl : ll_H jls E b i) (hi : i + 6 < L) (hcs : cells + 70 ≤ 176566 ∧ slots + 7120 ≤ 8572552) (kk : ll_K p l e s m b below meth c Q E bd cells slots jls) : W p l e room_1 s m #[Value.ref b] below meth c H locs cells slots Q (F0 m 1417 jls []) := by
  obtain ⟨hx, hb, hr, hml, hown, htz, hX, hbl, hlk, hL⟩ := id C
  obtain ⟨hw, hSB, hP, hS, hA, hV⟩ := id S
  obtain ⟨hE, hin10, hin11, -⟩ := id hw
  obtain ⟨v, J2, J3, z1, z2, sb, j10, x, rfl⟩ := two_open (s := xs (i + 1)) (v := xs (i + 2)) hSB
  refine lv_aload_n hx hb dL_law_1417 rfl (lv_at hl 2 rfl) ?_
  refine ll_arg (pc := 1418) (k := 1) C hS hl (by omega) dL_law_1418 dL_law_1419 dL_law_1420 (by decide) dL_law_1421 dL_law_1422 ?_
  refine ll_arg (pc := 1423) (k := 2) C hS hl (by omega) dL_law_1423 dL_law_1424 dL_law_1425 (by decide) dL_law_1426 dL_law_1427 ?_
  refine z_cV (E := E) (M := M) (M2 := J2) (id := (10, 0, 0)) (as := [.inl (xs (i + 1)), .inl (xs (i + 2))]) (r := some (.inl x)) (k := 152) (n := 2) (rest := []) (ci := 7) (C := RX9) (T := TX9) (N := 4) hx hb hml hown htz z1 qw_1238 qw_22 ⟨by decide +kernel, by decide +kernel, by decide +kernel⟩ (Nat.le_of_ble_eq_true rfl) qw_1235 qw_1236 qw_1237 hE hin10 (by decide) (z_vokI rfl) rfl rfl ⟨_, rfl⟩ hP hS hA hV ⟨Nat.le_of_ble_eq_true rfl, Nat.le_of_ble_eq_true rfl⟩ ⟨by show cells ≤ 176566; omega, by show slots ≤ 8572552; omega⟩ hl.1 (Nat.le_of_ble_eq_true rfl) dL_law_1428 rfl (fun H locs _ hP _ _ hS => ?_)
  refine W.eq (g2 := F0 m 1431 jls [.int x]) rfl ?_
  refine lv_aload_n hx hb dL_law_1431 rfl (lv_at hl 1 rfl) ?_
  refine ll_arg (pc := 1432) (k := 1) C hS hl (by omega) dL_law_1432 dL_law_1433 dL_law_1434 (by decide) dL_law_1435 dL_law_1436 ?_
  refine ll_arg (pc := 1437) (k := 2) C hS hl (by omega) dL_law_1437 dL_law_1438 dL_law_1439 (by decide) dL_law_1440 dL_law_1441 ?_
  refine z_cV (E := E) (M := J2) (M2 := J3) (id := (11, 0, 0)) (as := [.inl (xs (i + 1)), .inl (xs (i + 2))]) (r := some (.inl x)) (k := 263) (n := 2) (rest := [.int x]) (ci := 8) (C := RX10) (T := TX10) (N := 8) hx hb hml hown htz z2 qw_1242 qw_618 ⟨by decide +kernel, by decide +kernel, by decide +kernel⟩ (Nat.le_of_ble_eq_true rfl) qw_1239 qw_1240 qw_1241 hE hin11 (by decide) (z_vokI rfl) rfl rfl ⟨_, rfl⟩ hP hS hA hV ⟨Nat.le_of_ble_eq_true rfl, Nat.le_of_ble_eq_true rfl⟩ ⟨by show cells ≤ 176566; omega, by show slots ≤ 8572552; omega⟩ hl.1 (Nat.le_of_ble_eq_true rfl) dL_law_1442 rfl (fun H locs _ hP _ _ hS => ?_)
  refine W.eq (g2 := F0 m 1445 jls [.int x, .int x]) rfl ?_
  refine lv_icmp_eq (tgt := 1624) hx hb dL_law_1445 (by decide) (fun _ => ?_) (fun z => absurd rfl z)
  refine W.widen (k := cells + 70) (n := slots + 7120) (by omega) (by omega) ?_
  exact kk E J3 H locs ext_rf ⟨by rw [j10.1, j10.2]; exact hw, sb, hP, hS, hA, hV⟩
set_option maxHeartbeats 4000000 in
set_option maxRecDepth 100000 in
theorem ll_c34 (C : ll_C p s m meth c b L xs) (S : ll_S s E M bd H locs) (hbd : bd < 2000000000) (hl : ll_H jls E b i) (hi : i + 6 < L) (hcs : cells + 70 ≤ 176566 ∧ slots + 7120 ≤ 8572552) (kk : ll_K p l e s m b below meth c Q E bd cells slots jls) : W p l e room_1 s m #[Value.ref b] below meth c H locs cells slots Q (F0 m 1450 jls []) := by
  obtain ⟨hx, hb, hr, hml, hown, htz, hX, hbl, hlk, hL⟩ := id C
  obtain ⟨hw, hSB, hP, hS, hA, hV⟩ := id S
  obtain ⟨hE, hin10, hin11, -⟩ := id hw
  obtain ⟨v, J2, J3, z1, z2, sb, j10, x, rfl⟩ := two_apart (x := xs (i + 1)) (y := xs (i + 2)) hSB
  refine lv_aload_n hx hb dL_law_1450 rfl (lv_at hl 2 rfl) ?_
  refine ll_arg (pc := 1451) (k := 1) C hS hl (by omega) dL_law_1451 dL_law_1452 dL_law_1453 (by decide) dL_law_1454 dL_law_1455 ?_
  refine ll_arg (pc := 1456) (k := 2) C hS hl (by omega) dL_law_1456 dL_law_1457 dL_law_1458 (by decide) dL_law_1459 dL_law_1460 ?_
  refine z_cV (E := E) (M := M) (M2 := J2) (id := (10, 0, 0)) (as := [.inl (xs (i + 1)), .inl (xs (i + 2))]) (r := some (.inl x)) (k := 153) (n := 2) (rest := []) (ci := 7) (C := RX9) (T := TX9) (N := 4) hx hb hml hown htz z1 qw_1246 qw_22 ⟨by decide +kernel, by decide +kernel, by decide +kernel⟩ (Nat.le_of_ble_eq_true rfl) qw_1243 qw_1244 qw_1245 hE hin10 (by decide) (z_vokI rfl) rfl rfl ⟨_, rfl⟩ hP hS hA hV ⟨Nat.le_of_ble_eq_true rfl, Nat.le_of_ble_eq_true rfl⟩ ⟨by show cells ≤ 176566; omega, by show slots ≤ 8572552; omega⟩ hl.1 (Nat.le_of_ble_eq_true rfl) dL_law_1461 rfl (fun H locs _ hP _ _ hS => ?_)
  refine W.eq (g2 := F0 m 1464 jls [.int x]) rfl ?_
  refine lv_aload_n hx hb dL_law_1464 rfl (lv_at hl 1 rfl) ?_
  refine ll_arg (pc := 1465) (k := 1) C hS hl (by omega) dL_law_1465 dL_law_1466 dL_law_1467 (by decide) dL_law_1468 dL_law_1469 ?_
  refine ll_arg (pc := 1470) (k := 2) C hS hl (by omega) dL_law_1470 dL_law_1471 dL_law_1472 (by decide) dL_law_1473 dL_law_1474 ?_
  refine z_cV (E := E) (M := J2) (M2 := J3) (id := (11, 0, 0)) (as := [.inl (xs (i + 1)), .inl (xs (i + 2))]) (r := some (.inl x)) (k := 264) (n := 2) (rest := [.int x]) (ci := 8) (C := RX10) (T := TX10) (N := 8) hx hb hml hown htz z2 qw_1250 qw_618 ⟨by decide +kernel, by decide +kernel, by decide +kernel⟩ (Nat.le_of_ble_eq_true rfl) qw_1247 qw_1248 qw_1249 hE hin11 (by decide) (z_vokI rfl) rfl rfl ⟨_, rfl⟩ hP hS hA hV ⟨Nat.le_of_ble_eq_true rfl, Nat.le_of_ble_eq_true rfl⟩ ⟨by show cells ≤ 176566; omega, by show slots ≤ 8572552; omega⟩ hl.1 (Nat.le_of_ble_eq_true rfl) dL_law_1475 rfl (fun H locs _ hP _ _ hS => ?_)
  refine W.eq (g2 := F0 m 1478 jls [.int x, .int x]) rfl ?_
  refine lv_icmp_eq (tgt := 1624) hx hb dL_law_1478 (by decide) (fun _ => ?_) (fun z => absurd rfl z)
  refine W.widen (k := cells + 70) (n := slots + 7120) (by omega) (by omega) ?_
  exact kk E J3 H locs ext_rf ⟨by rw [j10.1, j10.2]; exact hw, sb, hP, hS, hA, hV⟩
set_option maxHeartbeats 4000000 in
set_option maxRecDepth 100000 in
theorem ll_c35 (C : ll_C p s m meth c b L xs) (S : ll_S s E M bd H locs) (hbd : bd < 2000000000) (hl : ll_H jls E b i) (hi : i + 6 < L) (hcs : cells + 70 ≤ 176566 ∧ slots + 7120 ≤ 8572552) (kk : ll_K p l e s m b below meth c Q E bd cells slots jls) : W p l e room_1 s m #[Value.ref b] below meth c H locs cells slots Q (F0 m 1483 jls []) := by
  obtain ⟨hx, hb, hr, hml, hown, htz, hX, hbl, hlk, hL⟩ := id C
  obtain ⟨hw, hSB, hP, hS, hA, hV⟩ := id S
  obtain ⟨hE, hin10, hin11, -⟩ := id hw
  obtain ⟨v, J2, J3, z1, z2, sb, j10, x, rfl⟩ := two_log (i := xs (i + 1)) (k := xs (i + 2)) hSB (by omega)
  refine lv_aload_n hx hb dL_law_1483 rfl (lv_at hl 2 rfl) ?_
  refine ll_arg (pc := 1484) (k := 1) C hS hl (by omega) dL_law_1484 dL_law_1485 dL_law_1486 (by decide) dL_law_1487 dL_law_1488 ?_
  refine ll_arg (pc := 1489) (k := 2) C hS hl (by omega) dL_law_1489 dL_law_1490 dL_law_1491 (by decide) dL_law_1492 dL_law_1493 ?_
  refine z_cV (E := E) (M := M) (M2 := J2) (id := (10, 0, 0)) (as := [.inl (xs (i + 1)), .inl (xs (i + 2))]) (r := some (.inl x)) (k := 154) (n := 2) (rest := []) (ci := 7) (C := RX9) (T := TX9) (N := 4) hx hb hml hown htz z1 qw_1254 qw_22 ⟨by decide +kernel, by decide +kernel, by decide +kernel⟩ (Nat.le_of_ble_eq_true rfl) qw_1251 qw_1252 qw_1253 hE hin10 (by decide) (z_vokI rfl) rfl rfl ⟨_, rfl⟩ hP hS hA hV ⟨Nat.le_of_ble_eq_true rfl, Nat.le_of_ble_eq_true rfl⟩ ⟨by show cells ≤ 176566; omega, by show slots ≤ 8572552; omega⟩ hl.1 (Nat.le_of_ble_eq_true rfl) dL_law_1494 rfl (fun H locs _ hP _ _ hS => ?_)
  refine W.eq (g2 := F0 m 1497 jls [.int x]) rfl ?_
  refine lv_aload_n hx hb dL_law_1497 rfl (lv_at hl 1 rfl) ?_
  refine ll_arg (pc := 1498) (k := 1) C hS hl (by omega) dL_law_1498 dL_law_1499 dL_law_1500 (by decide) dL_law_1501 dL_law_1502 ?_
  refine ll_arg (pc := 1503) (k := 2) C hS hl (by omega) dL_law_1503 dL_law_1504 dL_law_1505 (by decide) dL_law_1506 dL_law_1507 ?_
  refine z_cV (E := E) (M := J2) (M2 := J3) (id := (11, 0, 0)) (as := [.inl (xs (i + 1)), .inl (xs (i + 2))]) (r := some (.inl x)) (k := 265) (n := 2) (rest := [.int x]) (ci := 8) (C := RX10) (T := TX10) (N := 8) hx hb hml hown htz z2 qw_1258 qw_618 ⟨by decide +kernel, by decide +kernel, by decide +kernel⟩ (Nat.le_of_ble_eq_true rfl) qw_1255 qw_1256 qw_1257 hE hin11 (by decide) (z_vokI rfl) rfl rfl ⟨_, rfl⟩ hP hS hA hV ⟨Nat.le_of_ble_eq_true rfl, Nat.le_of_ble_eq_true rfl⟩ ⟨by show cells ≤ 176566; omega, by show slots ≤ 8572552; omega⟩ hl.1 (Nat.le_of_ble_eq_true rfl) dL_law_1508 rfl (fun H locs _ hP _ _ hS => ?_)
  refine W.eq (g2 := F0 m 1511 jls [.int x, .int x]) rfl ?_
  refine lv_icmp_eq (tgt := 1624) hx hb dL_law_1511 (by decide) (fun _ => ?_) (fun z => absurd rfl z)
  refine W.widen (k := cells + 70) (n := slots + 7120) (by omega) (by omega) ?_
  exact kk E J3 H locs ext_rf ⟨by rw [j10.1, j10.2]; exact hw, sb, hP, hS, hA, hV⟩
set_option maxHeartbeats 4000000 in
set_option maxRecDepth 100000 in
theorem ll_c36 (C : ll_C p s m meth c b L xs) (S : ll_S s E M bd H locs) (hbd : bd < 2000000000) (hl : ll_H jls E b i) (hi : i + 6 < L) (hcs : cells + 70 ≤ 176566 ∧ slots + 7120 ≤ 8572552) (kk : ll_K p l e s m b below meth c Q E bd cells slots jls) : W p l e room_1 s m #[Value.ref b] below meth c H locs cells slots Q (F0 m 1516 jls []) := by
  obtain ⟨hx, hb, hr, hml, hown, htz, hX, hbl, hlk, hL⟩ := id C
  obtain ⟨hw, hSB, hP, hS, hA, hV⟩ := id S
  obtain ⟨hE, hin10, hin11, -⟩ := id hw
  obtain ⟨v, J2, J3, z1, z2, sb, j10, x, rfl⟩ := two_never (k := xs (i + 1)) hSB
  refine lv_aload_n hx hb dL_law_1516 rfl (lv_at hl 2 rfl) ?_
  refine ll_arg (pc := 1517) (k := 1) C hS hl (by omega) dL_law_1517 dL_law_1518 dL_law_1519 (by decide) dL_law_1520 dL_law_1521 ?_
  refine z_cV (E := E) (M := M) (M2 := J2) (id := (10, 0, 0)) (as := [.inl (xs (i + 1))]) (r := some (.inl x)) (k := 155) (n := 1) (rest := []) (ci := 7) (C := RX9) (T := TX9) (N := 4) hx hb hml hown htz z1 qw_1262 qw_22 ⟨by decide +kernel, by decide +kernel, by decide +kernel⟩ (Nat.le_of_ble_eq_true rfl) qw_1259 qw_1260 qw_1261 hE hin10 (by decide) (z_vokI rfl) rfl rfl ⟨_, rfl⟩ hP hS hA hV ⟨Nat.le_of_ble_eq_true rfl, Nat.le_of_ble_eq_true rfl⟩ ⟨by show cells ≤ 176566; omega, by show slots ≤ 8572552; omega⟩ hl.1 (Nat.le_of_ble_eq_true rfl) dL_law_1522 rfl (fun H locs _ hP _ _ hS => ?_)
  refine W.eq (g2 := F0 m 1525 jls [.int x]) rfl ?_
  refine lv_aload_n hx hb dL_law_1525 rfl (lv_at hl 1 rfl) ?_
  refine ll_arg (pc := 1526) (k := 1) C hS hl (by omega) dL_law_1526 dL_law_1527 dL_law_1528 (by decide) dL_law_1529 dL_law_1530 ?_
  refine z_cV (E := E) (M := J2) (M2 := J3) (id := (11, 0, 0)) (as := [.inl (xs (i + 1))]) (r := some (.inl x)) (k := 267) (n := 1) (rest := [.int x]) (ci := 8) (C := RX10) (T := TX10) (N := 8) hx hb hml hown htz z2 qw_1266 qw_618 ⟨by decide +kernel, by decide +kernel, by decide +kernel⟩ (Nat.le_of_ble_eq_true rfl) qw_1263 qw_1264 qw_1265 hE hin11 (by decide) (z_vokI rfl) rfl rfl ⟨_, rfl⟩ hP hS hA hV ⟨Nat.le_of_ble_eq_true rfl, Nat.le_of_ble_eq_true rfl⟩ ⟨by show cells ≤ 176566; omega, by show slots ≤ 8572552; omega⟩ hl.1 (Nat.le_of_ble_eq_true rfl) dL_law_1531 rfl (fun H locs _ hP _ _ hS => ?_)
  refine W.eq (g2 := F0 m 1534 jls [.int x, .int x]) rfl ?_
  refine lv_icmp_eq (tgt := 1624) hx hb dL_law_1534 (by decide) (fun _ => ?_) (fun z => absurd rfl z)
  refine W.widen (k := cells + 70) (n := slots + 7120) (by omega) (by omega) ?_
  exact kk E J3 H locs ext_rf ⟨by rw [j10.1, j10.2]; exact hw, sb, hP, hS, hA, hV⟩
set_option maxHeartbeats 4000000 in
set_option maxRecDepth 100000 in
theorem ll_c37 (C : ll_C p s m meth c b L xs) (S : ll_S s E M bd H locs) (hbd : bd < 2000000000) (hl : ll_H jls E b i) (hi : i + 6 < L) (hcs : cells + 70 ≤ 176566 ∧ slots + 7120 ≤ 8572552) (kk : ll_K p l e s m b below meth c Q E bd cells slots jls) : W p l e room_1 s m #[Value.ref b] below meth c H locs cells slots Q (F0 m 1539 jls []) := by
  obtain ⟨hx, hb, hr, hml, hown, htz, hX, hbl, hlk, hL⟩ := id C
  obtain ⟨hw, hSB, hP, hS, hA, hV⟩ := id S
  obtain ⟨hE, hin10, hin11, -⟩ := id hw
  obtain ⟨v, J2, J3, z1, z2, sb, j10, x, rfl⟩ := two_count (k := xs (i + 1)) hSB
  refine lv_aload_n hx hb dL_law_1539 rfl (lv_at hl 2 rfl) ?_
  refine ll_arg (pc := 1540) (k := 1) C hS hl (by omega) dL_law_1540 dL_law_1541 dL_law_1542 (by decide) dL_law_1543 dL_law_1544 ?_
  refine z_cV (E := E) (M := M) (M2 := J2) (id := (10, 0, 0)) (as := [.inl (xs (i + 1))]) (r := some (.inl x)) (k := 156) (n := 1) (rest := []) (ci := 7) (C := RX9) (T := TX9) (N := 4) hx hb hml hown htz z1 qw_1270 qw_22 ⟨by decide +kernel, by decide +kernel, by decide +kernel⟩ (Nat.le_of_ble_eq_true rfl) qw_1267 qw_1268 qw_1269 hE hin10 (by decide) (z_vokI rfl) rfl rfl ⟨_, rfl⟩ hP hS hA hV ⟨Nat.le_of_ble_eq_true rfl, Nat.le_of_ble_eq_true rfl⟩ ⟨by show cells ≤ 176566; omega, by show slots ≤ 8572552; omega⟩ hl.1 (Nat.le_of_ble_eq_true rfl) dL_law_1545 rfl (fun H locs _ hP _ _ hS => ?_)
  refine W.eq (g2 := F0 m 1548 jls [.int x]) rfl ?_
  refine lv_aload_n hx hb dL_law_1548 rfl (lv_at hl 1 rfl) ?_
  refine ll_arg (pc := 1549) (k := 1) C hS hl (by omega) dL_law_1549 dL_law_1550 dL_law_1551 (by decide) dL_law_1552 dL_law_1553 ?_
  refine z_cV (E := E) (M := J2) (M2 := J3) (id := (11, 0, 0)) (as := [.inl (xs (i + 1))]) (r := some (.inl x)) (k := 268) (n := 1) (rest := [.int x]) (ci := 8) (C := RX10) (T := TX10) (N := 8) hx hb hml hown htz z2 qw_1274 qw_618 ⟨by decide +kernel, by decide +kernel, by decide +kernel⟩ (Nat.le_of_ble_eq_true rfl) qw_1271 qw_1272 qw_1273 hE hin11 (by decide) (z_vokI rfl) rfl rfl ⟨_, rfl⟩ hP hS hA hV ⟨Nat.le_of_ble_eq_true rfl, Nat.le_of_ble_eq_true rfl⟩ ⟨by show cells ≤ 176566; omega, by show slots ≤ 8572552; omega⟩ hl.1 (Nat.le_of_ble_eq_true rfl) dL_law_1554 rfl (fun H locs _ hP _ _ hS => ?_)
  refine W.eq (g2 := F0 m 1557 jls [.int x, .int x]) rfl ?_
  refine lv_icmp_eq (tgt := 1624) hx hb dL_law_1557 (by decide) (fun _ => ?_) (fun z => absurd rfl z)
  refine W.widen (k := cells + 70) (n := slots + 7120) (by omega) (by omega) ?_
  exact kk E J3 H locs ext_rf ⟨by rw [j10.1, j10.2]; exact hw, sb, hP, hS, hA, hV⟩
set_option maxHeartbeats 4000000 in
set_option maxRecDepth 100000 in
theorem ll_c38 (C : ll_C p s m meth c b L xs) (S : ll_S s E M bd H locs) (hbd : bd < 2000000000) (hl : ll_H jls E b i) (hi : i + 6 < L) (hcs : cells + 70 ≤ 176566 ∧ slots + 7120 ≤ 8572552) (kk : ll_K p l e s m b below meth c Q E bd cells slots jls) : W p l e room_1 s m #[Value.ref b] below meth c H locs cells slots Q (F0 m 1562 jls []) := by
  obtain ⟨hx, hb, hr, hml, hown, htz, hX, hbl, hlk, hL⟩ := id C
  obtain ⟨hw, hSB, hP, hS, hA, hV⟩ := id S
  obtain ⟨hE, hin10, hin11, -⟩ := id hw
  refine lv_aload_n hx hb dL_law_1562 rfl (lv_at hl 2 rfl) ?_
  refine ll_arg (pc := 1563) (k := 1) C hS hl (by omega) dL_law_1563 dL_law_1564 dL_law_1565 (by decide) dL_law_1566 dL_law_1567 ?_
  refine ll_bool (pc := 1568) C dL_law_1568 dL_law_1571 dL_law_1572 dL_law_1575 ?_
  obtain ⟨q0, hq0, hq1⟩ := z_at hin10 M
  have hsub : ∀ q, z_9A E H.size q → s.heap.size ≤ q := fun q h => h.elim (hA q) (fun z => Nat.le_trans hS.1 z)
  refine va_calli (va_runV (C := RX9) (b := E.2.2.1 (10, 0, 0)) (As := [.int ((if xs (i + 1) = 0 then 0 else 1))]) (rest := []) ⟨hx, hb, hml, hown, htz⟩ (c_X9_image l E M bd ((if xs (i + 1) = 0 then 0 else 1)) H.size hSB b01 hw) ⟨callB_of (y := yX9_image) (bytes := cX9_image) (maxL := 2) (ret := (some .boolean)) (ws' := zw) 1 htz (zw_call qw_1278) rfl rfl rfl (htz _ qw_22) (htz _ qw_1275) ⟨by decide +kernel, by decide +kernel, by decide +kernel⟩ ⟨Nat.le_of_ble_eq_true rfl, Nat.le_of_ble_eq_true rfl⟩, htz _ qw_1276, htz _ qw_1277⟩ ⟨fun a U g mk q => by obtain ⟨y0, y1, yP, yV⟩ := q; exact ⟨y0, y1, yP, z_eA_call yV⟩, va_recv hV.1 hP (ci := 7) rfl hq1, fun U hU hW => ⟨rfl, by rw [hU], by rw [hU]; exact hP, z_eA_narrow (z_eA_move hV hS hU hW) hsub⟩⟩ rfl rfl hl.1 rfl (lv_room (Nat.le_of_ble_eq_true rfl)) dL_law_1576 ⟨by show cells + 70 ≤ 176566; omega, by show slots + 7120 ≤ 8572552; omega⟩) hS (fun q _ h => hsub q h) hsub (fun x u t H1 locs1 ht hvm hpost hB hz1 hk1 hS => ?_)
  obtain ⟨E2, M2⟩ := u
  obtain ⟨hxt, hw2, hA2, J3, z2, sb, j10⟩ := hpost
  have hP : va_P E2.1 vwCl (z_ws E2 M2) t.heap := hB
  rw [ht] at hP
  have hl0 := hl
  unfold ll_H at hl
  rw [← hxt.2.2.2.1, ← hxt.2.2.2.2] at hl
  have hl : ll_H jls E2 b i := hl
  have hV2 := z_eA_E hV hxt.1 hxt.2.1 hxt.2.2.1
  have hA3 : ∀ q, z_A E2 q → s.heap.size ≤ q := fun q h => hsub q (hA2 q h)
  have hE2 : z_okE E2 := hw2.1
  have hin2 : (11, 0, 0) ∈ E2.2.2.2 := hw2.2.2.1
  refine W.eq (g2 := F0 m 1579 jls [.int x]) rfl ?_
  refine lv_aload_n hx hb dL_law_1579 rfl (lv_at hl 1 rfl) ?_
  refine ll_arg (pc := 1580) (k := 1) C hS hl (by omega) dL_law_1580 dL_law_1581 dL_law_1582 (by decide) dL_law_1583 dL_law_1584 ?_
  refine ll_bool (pc := 1585) C dL_law_1585 dL_law_1588 dL_law_1589 dL_law_1592 ?_
  refine z_cV (E := E2) (M := M2) (M2 := J3) (id := (11, 0, 0)) (as := [.inl ((if xs (i + 1) = 0 then 0 else 1))]) (r := some (.inl x)) (k := 269) (n := 1) (rest := [.int x]) (ci := 8) (C := RX10) (T := TX10) (N := 8) hx hb hml hown htz z2 qw_1283 qw_618 ⟨by decide +kernel, by decide +kernel, by decide +kernel⟩ (Nat.le_of_ble_eq_true rfl) qw_1280 qw_1281 qw_1282 hE2 hin2 (by decide) (z_vokI rfl) rfl rfl ⟨_, rfl⟩ hP hS hA3 hV2 ⟨Nat.le_of_ble_eq_true rfl, Nat.le_of_ble_eq_true rfl⟩ ⟨by show cells + 70 ≤ 176566; omega, by show slots + 7120 ≤ 8572552; omega⟩ hl.1 (Nat.le_of_ble_eq_true rfl) dL_law_1593 rfl (fun H locs _ hP _ _ hS => ?_)
  refine W.eq (g2 := F0 m 1596 jls [.int x, .int x]) rfl ?_
  refine lv_icmp_eq (tgt := 1624) hx hb dL_law_1596 (by decide) (fun _ => ?_) (fun z => absurd rfl z)
  exact kk E2 J3 H locs hxt ⟨by rw [j10.1, j10.2]; exact hw2, sb, hP, hS, hA3, hV2⟩
set_option maxHeartbeats 4000000 in
set_option maxRecDepth 100000 in
theorem ll_c39 (C : ll_C p s m meth c b L xs) (S : ll_S s E M bd H locs) (hbd : bd < 2000000000) (hl : ll_H jls E b i) (hi : i + 6 < L) (hcs : cells + 70 ≤ 176566 ∧ slots + 7120 ≤ 8572552) (kk : ll_K p l e s m b below meth c Q E bd cells slots jls) : W p l e room_1 s m #[Value.ref b] below meth c H locs cells slots Q (F0 m 1601 jls []) := by
  obtain ⟨hx, hb, hr, hml, hown, htz, hX, hbl, hlk, hL⟩ := id C
  obtain ⟨hw, hSB, hP, hS, hA, hV⟩ := id S
  obtain ⟨hE, hin10, hin11, -⟩ := id hw
  obtain ⟨v, J2, J3, z1, z2, sb, j10, x, rfl⟩ := two_look (k := xs (i + 1)) hSB
  refine lv_aload_n hx hb dL_law_1601 rfl (lv_at hl 2 rfl) ?_
  refine ll_arg (pc := 1602) (k := 1) C hS hl (by omega) dL_law_1602 dL_law_1603 dL_law_1604 (by decide) dL_law_1605 dL_law_1606 ?_
  refine z_cV (E := E) (M := M) (M2 := J2) (id := (10, 0, 0)) (as := [.inl (xs (i + 1))]) (r := some (.inl x)) (k := 157) (n := 1) (rest := []) (ci := 7) (C := RX9) (T := TX9) (N := 4) hx hb hml hown htz z1 qw_1287 qw_22 ⟨by decide +kernel, by decide +kernel, by decide +kernel⟩ (Nat.le_of_ble_eq_true rfl) qw_1284 qw_1285 qw_1286 hE hin10 (by decide) (z_vokI rfl) rfl rfl ⟨_, rfl⟩ hP hS hA hV ⟨Nat.le_of_ble_eq_true rfl, Nat.le_of_ble_eq_true rfl⟩ ⟨by show cells ≤ 176566; omega, by show slots ≤ 8572552; omega⟩ hl.1 (Nat.le_of_ble_eq_true rfl) dL_law_1607 rfl (fun H locs _ hP _ _ hS => ?_)
  refine W.eq (g2 := F0 m 1610 jls [.int x]) rfl ?_
  refine lv_aload_n hx hb dL_law_1610 rfl (lv_at hl 1 rfl) ?_
  refine ll_arg (pc := 1611) (k := 1) C hS hl (by omega) dL_law_1611 dL_law_1612 dL_law_1613 (by decide) dL_law_1614 dL_law_1615 ?_
  refine z_cV (E := E) (M := J2) (M2 := J3) (id := (11, 0, 0)) (as := [.inl (xs (i + 1))]) (r := some (.inl x)) (k := 272) (n := 1) (rest := [.int x]) (ci := 8) (C := RX10) (T := TX10) (N := 8) hx hb hml hown htz z2 qw_1291 qw_618 ⟨by decide +kernel, by decide +kernel, by decide +kernel⟩ (Nat.le_of_ble_eq_true rfl) qw_1288 qw_1289 qw_1290 hE hin11 (by decide) (z_vokI rfl) rfl rfl ⟨_, rfl⟩ hP hS hA hV ⟨Nat.le_of_ble_eq_true rfl, Nat.le_of_ble_eq_true rfl⟩ ⟨by show cells ≤ 176566; omega, by show slots ≤ 8572552; omega⟩ hl.1 (Nat.le_of_ble_eq_true rfl) dL_law_1616 rfl (fun H locs _ hP _ _ hS => ?_)
  refine W.eq (g2 := F0 m 1619 jls [.int x, .int x]) rfl ?_
  refine lv_icmp_eq (tgt := 1624) hx hb dL_law_1619 (by decide) (fun _ => ?_) (fun z => absurd rfl z)
  refine W.widen (k := cells + 70) (n := slots + 7120) (by omega) (by omega) ?_
  exact kk E J3 H locs ext_rf ⟨by rw [j10.1, j10.2]; exact hw, sb, hP, hS, hA, hV⟩
end LL
