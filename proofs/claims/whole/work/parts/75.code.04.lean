theorem dX8_carry_0 : decode cX8_carry 0 = .ok (.aload_n 0, 1) := by decide +kernel
theorem dX8_carry_1 : decode cX8_carry 1 = .ok (.iload_n 1, 1) := by decide +kernel
theorem dX8_carry_2 : decode cX8_carry 2 = .ok (.invokevirtual 79, 3) := by decide +kernel
theorem dX8_carry_5 : decode cX8_carry 5 = .ok (.astore_n 3, 1) := by decide +kernel
theorem dX8_carry_6 : decode cX8_carry 6 = .ok (.aload_n 3, 1) := by decide +kernel
theorem dX8_carry_7 : decode cX8_carry 7 = .ok (.ifnull 10, 3) := by decide +kernel
theorem dX8_carry_10 : decode cX8_carry 10 = .ok (.iload_n 2, 1) := by decide +kernel
theorem dX8_carry_11 : decode cX8_carry 11 = .ok (.invokestatic 63, 3) := by decide +kernel
theorem dX8_carry_14 : decode cX8_carry 14 = .ok (.ifCond .ne 5, 3) := by decide +kernel
theorem dX8_carry_17 : decode cX8_carry 17 = .ok (.iconst 0, 1) := by decide +kernel
theorem dX8_carry_18 : decode cX8_carry 18 = .ok (.ireturn, 1) := by decide +kernel
theorem dX8_carry_19 : decode cX8_carry 19 = .ok (.aload_n 3, 1) := by decide +kernel
theorem dX8_carry_20 : decode cX8_carry 20 = .ok (.iload_n 2, 1) := by decide +kernel
theorem dX8_carry_21 : decode cX8_carry 21 = .ok (.putfield 83, 3) := by decide +kernel
theorem dX8_carry_24 : decode cX8_carry 24 = .ok (.aload_n 3, 1) := by decide +kernel
theorem dX8_carry_25 : decode cX8_carry 25 = .ok (.getfield 86, 3) := by decide +kernel
theorem dX8_carry_28 : decode cX8_carry 28 = .ok (.iconst (-1), 1) := by decide +kernel
theorem dX8_carry_29 : decode cX8_carry 29 = .ok (.if_icmp .eq 29, 3) := by decide +kernel
theorem dX8_carry_32 : decode cX8_carry 32 = .ok (.aload_n 3, 1) := by decide +kernel
theorem dX8_carry_33 : decode cX8_carry 33 = .ok (.aload_n 3, 1) := by decide +kernel
theorem dX8_carry_34 : decode cX8_carry 34 = .ok (.getfield 86, 3) := by decide +kernel
theorem dX8_carry_37 : decode cX8_carry 37 = .ok (.invokevirtual 89, 3) := by decide +kernel
theorem dX8_carry_40 : decode cX8_carry 40 = .ok (.ifCond .ne 18, 3) := by decide +kernel
theorem dX8_carry_43 : decode cX8_carry 43 = .ok (.aload_n 3, 1) := by decide +kernel
theorem dX8_carry_44 : decode cX8_carry 44 = .ok (.invokevirtual 92, 3) := by decide +kernel
theorem dX8_carry_47 : decode cX8_carry 47 = .ok (.aload_n 0, 1) := by decide +kernel
theorem dX8_carry_48 : decode cX8_carry 48 = .ok (.getfield 30, 3) := by decide +kernel
theorem dX8_carry_51 : decode cX8_carry 51 = .ok (.bipush 7, 2) := by decide +kernel
theorem dX8_carry_53 : decode cX8_carry 53 = .ok (.dup2, 1) := by decide +kernel
theorem dX8_carry_54 : decode cX8_carry 54 = .ok (.iaload, 1) := by decide +kernel
theorem dX8_carry_55 : decode cX8_carry 55 = .ok (.iconst 1, 1) := by decide +kernel
theorem dX8_carry_56 : decode cX8_carry 56 = .ok (.iadd, 1) := by decide +kernel
theorem dX8_carry_57 : decode cX8_carry 57 = .ok (.iastore, 1) := by decide +kernel
theorem dX8_carry_58 : decode cX8_carry 58 = .ok (.aload_n 0, 1) := by decide +kernel
theorem dX8_carry_59 : decode cX8_carry 59 = .ok (.aload_n 3, 1) := by decide +kernel
theorem dX8_carry_60 : decode cX8_carry 60 = .ok (.invokevirtual 75, 3) := by decide +kernel
theorem dX8_carry_63 : decode cX8_carry 63 = .ok (.iconst 1, 1) := by decide +kernel
theorem dX8_carry_64 : decode cX8_carry 64 = .ok (.ireturn, 1) := by decide +kernel
set_option maxRecDepth 20000 in
theorem zl_X8_carry_0 : z_All z_tab cX8_carry 4 (some .boolean) RX8 pc_X8_carry 0 (k_X8_carry.drop 0) := z_cons (ok_aload_n dX8_carry_0 rfl rfl) <| z_cons (ok_iload_n dX8_carry_1 rfl rfl) <| z_cons (ok_callv ⟨by decide, by decide, by decide⟩ (ci := 6) (C := RX8) (T := TX8) rfl go_9 (k := 91) (n := 1) qw_220 qw_124 ⟨by decide +kernel, by decide +kernel, by decide +kernel⟩ (Nat.le_of_ble_eq_true rfl) qw_398 qw_222 qw_223 dX8_carry_2 rfl rfl) <| z_cons (ok_astore_n (Nat.le_of_ble_eq_true rfl) dX8_carry_5 rfl rfl) <| z_cons (ok_aload_n dX8_carry_6 rfl rfl) <| z_cons (ok_ifnull (tgt := 17) (by decide) rfl dX8_carry_7 rfl rfl) <| z_cons (ok_iload_n dX8_carry_10 rfl rfl) <| z_cons (ok_callN (k := 159) (n := 1) qw_387 qw_22 ⟨by decide +kernel, by decide +kernel, by decide +kernel⟩ (Nat.le_of_ble_eq_true rfl) (host := "TagReaders") (by decide +kernel) qw_388 dX8_carry_11 rfl rfl) <| z_cons (ok_if_ne (tgt := 19) (by decide) rfl dX8_carry_14 rfl rfl) <| z_cons (ok_iconst (by decide) dX8_carry_17 rfl rfl) <| z_cons (ok_zret rfl dX8_carry_18 rfl) <| z_cons (ok_aload_n dX8_carry_19 rfl rfl) <| z_cons (ok_iload_n dX8_carry_20 rfl rfl) <| z_cons (ok_put ⟨by decide, by decide, by decide⟩ (ci := 4) (T := TX6) rfl rfl (Nat.le_of_ble_eq_true rfl) iw_X6 qw_399 tyX6_ok nmX6 rfl pv_7_2 rfl dX8_carry_21 rfl rfl) <| z_cons (ok_aload_n dX8_carry_24 rfl rfl) <| z_cons (ok_get ⟨by decide, by decide, by decide⟩ (ci := 4) (T := TX6) rfl rfl (Nat.le_of_ble_eq_true rfl) iw_X6 qw_400 gv_7_4 dX8_carry_25 rfl rfl) <| z_cons (ok_iconst (by decide) dX8_carry_28 rfl rfl) <| z_cons (ok_icmp_eq (tgt := 58) (by decide) rfl dX8_carry_29 rfl rfl) <| z_cons (ok_aload_n dX8_carry_32 rfl rfl) <| z_cons (ok_aload_n dX8_carry_33 rfl rfl) <| z_cons (ok_get ⟨by decide, by decide, by decide⟩ (ci := 4) (T := TX6) rfl rfl (Nat.le_of_ble_eq_true rfl) iw_X6 qw_400 gv_7_4 dX8_carry_34 rfl rfl) <| z_cons (ok_callv ⟨by decide, by decide, by decide⟩ (ci := 4) (C := RX6) (T := TX6) rfl go_7 (k := 82) (n := 1) qw_313 qw_203 ⟨by decide +kernel, by decide +kernel, by decide +kernel⟩ (Nat.le_of_ble_eq_true rfl) qw_401 qw_315 qw_316 dX8_carry_37 rfl rfl) <| z_cons (ok_if_ne (tgt := 58) (by decide) rfl dX8_carry_40 rfl rfl) <| z_cons (ok_aload_n dX8_carry_43 rfl rfl) <| z_cons (ok_callv ⟨by decide, by decide, by decide⟩ (ci := 4) (C := RX6) (T := TX6) rfl go_7 (k := 78) (n := 0) qw_236 qw_203 ⟨by decide +kernel, by decide +kernel, by decide +kernel⟩ (Nat.le_of_ble_eq_true rfl) qw_402 qw_238 qw_239 dX8_carry_44 rfl rfl) <| z_cons (ok_aload_n dX8_carry_47 rfl rfl) <| z_cons (ok_getr (k := 4) ⟨by decide, by decide, by decide⟩ (ci := 6) (T := TX8) rfl rfl (Nat.le_of_ble_eq_true rfl) iw_X8 qw_403 gr_9_4 (fun _ _ => by simp) (fun w i => List.mem_of_getElem? (i := 4) rfl) dX8_carry_48 rfl rfl) <| z_cons (ok_bipush (by decide) dX8_carry_51 rfl rfl) <| z_cons (ok_dup2 dX8_carry_53 rfl rfl) <| z_cons (ok_iald dX8_carry_54 rfl rfl) <| z_cons (ok_iconst (by decide) dX8_carry_55 rfl rfl) <| z_cons (ok_iadd dX8_carry_56 rfl rfl) <| z_cons (ok_iast dX8_carry_57 rfl rfl) <| z_cons (ok_aload_n dX8_carry_58 rfl rfl) <| z_cons (ok_aload_n dX8_carry_59 rfl rfl) <| z_cons (ok_callv ⟨by decide, by decide, by decide⟩ (ci := 6) (C := RX8) (T := TX8) rfl go_9 (k := 99) (n := 1) qw_394 qw_124 ⟨by decide +kernel, by decide +kernel, by decide +kernel⟩ (Nat.le_of_ble_eq_true rfl) qw_395 qw_396 qw_397 dX8_carry_60 rfl rfl) <| z_cons (ok_iconst (by decide) dX8_carry_63 rfl rfl) <| z_cons (ok_zret rfl dX8_carry_64 rfl) <| z_nil
theorem dX8_turnReader_0 : decode cX8_turnReader 0 = .ok (.aload_n 0, 1) := by decide +kernel
theorem dX8_turnReader_1 : decode cX8_turnReader 1 = .ok (.iload_n 1, 1) := by decide +kernel
theorem dX8_turnReader_2 : decode cX8_turnReader 2 = .ok (.invokevirtual 95, 3) := by decide +kernel
theorem dX8_turnReader_5 : decode cX8_turnReader 5 = .ok (.astore_n 3, 1) := by decide +kernel
theorem dX8_turnReader_6 : decode cX8_turnReader 6 = .ok (.aload_n 3, 1) := by decide +kernel
theorem dX8_turnReader_7 : decode cX8_turnReader 7 = .ok (.ifnull 11, 3) := by decide +kernel
theorem dX8_turnReader_10 : decode cX8_turnReader 10 = .ok (.aload_n 3, 1) := by decide +kernel
theorem dX8_turnReader_11 : decode cX8_turnReader 11 = .ok (.getfield 99, 3) := by decide +kernel
theorem dX8_turnReader_14 : decode cX8_turnReader 14 = .ok (.iload_n 2, 1) := by decide +kernel
theorem dX8_turnReader_15 : decode cX8_turnReader 15 = .ok (.if_icmp .ne 5, 3) := by decide +kernel
theorem dX8_turnReader_18 : decode cX8_turnReader 18 = .ok (.iconst 0, 1) := by decide +kernel
theorem dX8_turnReader_19 : decode cX8_turnReader 19 = .ok (.ireturn, 1) := by decide +kernel
theorem dX8_turnReader_20 : decode cX8_turnReader 20 = .ok (.aload_n 0, 1) := by decide +kernel
theorem dX8_turnReader_21 : decode cX8_turnReader 21 = .ok (.iload_n 1, 1) := by decide +kernel
theorem dX8_turnReader_22 : decode cX8_turnReader 22 = .ok (.invokestatic 102, 3) := by decide +kernel
theorem dX8_turnReader_25 : decode cX8_turnReader 25 = .ok (.pop, 1) := by decide +kernel
theorem dX8_turnReader_26 : decode cX8_turnReader 26 = .ok (.aload_n 3, 1) := by decide +kernel
theorem dX8_turnReader_27 : decode cX8_turnReader 27 = .ok (.iload_n 2, 1) := by decide +kernel
theorem dX8_turnReader_28 : decode cX8_turnReader 28 = .ok (.putfield 99, 3) := by decide +kernel
theorem dX8_turnReader_31 : decode cX8_turnReader 31 = .ok (.iconst 0, 1) := by decide +kernel
theorem dX8_turnReader_32 : decode cX8_turnReader 32 = .ok (.istore 4, 2) := by decide +kernel
theorem dX8_turnReader_34 : decode cX8_turnReader 34 = .ok (.iload 4, 2) := by decide +kernel
theorem dX8_turnReader_36 : decode cX8_turnReader 36 = .ok (.bipush 24, 2) := by decide +kernel
theorem dX8_turnReader_38 : decode cX8_turnReader 38 = .ok (.if_icmp .ge 33, 3) := by decide +kernel
theorem dX8_turnReader_41 : decode cX8_turnReader 41 = .ok (.aload_n 0, 1) := by decide +kernel
theorem dX8_turnReader_42 : decode cX8_turnReader 42 = .ok (.getfield 11, 3) := by decide +kernel
theorem dX8_turnReader_45 : decode cX8_turnReader 45 = .ok (.iload 4, 2) := by decide +kernel
theorem dX8_turnReader_47 : decode cX8_turnReader 47 = .ok (.aaload, 1) := by decide +kernel
theorem dX8_turnReader_48 : decode cX8_turnReader 48 = .ok (.getfield 47, 3) := by decide +kernel
theorem dX8_turnReader_51 : decode cX8_turnReader 51 = .ok (.ifCond .eq 14, 3) := by decide +kernel
theorem dX8_turnReader_54 : decode cX8_turnReader 54 = .ok (.aload_n 0, 1) := by decide +kernel
theorem dX8_turnReader_55 : decode cX8_turnReader 55 = .ok (.aload_n 0, 1) := by decide +kernel
theorem dX8_turnReader_56 : decode cX8_turnReader 56 = .ok (.getfield 11, 3) := by decide +kernel
theorem dX8_turnReader_59 : decode cX8_turnReader 59 = .ok (.iload 4, 2) := by decide +kernel
theorem dX8_turnReader_61 : decode cX8_turnReader 61 = .ok (.aaload, 1) := by decide +kernel
theorem dX8_turnReader_62 : decode cX8_turnReader 62 = .ok (.invokevirtual 75, 3) := by decide +kernel
theorem dX8_turnReader_65 : decode cX8_turnReader 65 = .ok (.iinc 4 1, 3) := by decide +kernel
theorem dX8_turnReader_68 : decode cX8_turnReader 68 = .ok (.goto (-34), 3) := by decide +kernel
theorem dX8_turnReader_71 : decode cX8_turnReader 71 = .ok (.iconst 1, 1) := by decide +kernel
theorem dX8_turnReader_72 : decode cX8_turnReader 72 = .ok (.ireturn, 1) := by decide +kernel
set_option maxRecDepth 20000 in
theorem zl_X8_turnReader_0 : z_All z_tab cX8_turnReader 5 (some .boolean) RX8 pc_X8_turnReader 0 (k_X8_turnReader.drop 0) := z_cons (ok_aload_n dX8_turnReader_0 rfl rfl) <| z_cons (ok_iload_n dX8_turnReader_1 rfl rfl) <| z_cons (ok_callv ⟨by decide, by decide, by decide⟩ (ci := 6) (C := RX8) (T := TX8) rfl go_9 (k := 92) (n := 1) qw_123 qw_124 ⟨by decide +kernel, by decide +kernel, by decide +kernel⟩ (Nat.le_of_ble_eq_true rfl) qw_404 qw_126 qw_127 dX8_turnReader_2 rfl rfl) <| z_cons (ok_astore_n (Nat.le_of_ble_eq_true rfl) dX8_turnReader_5 rfl rfl) <| z_cons (ok_aload_n dX8_turnReader_6 rfl rfl) <| z_cons (ok_ifnull (tgt := 18) (by decide) rfl dX8_turnReader_7 rfl rfl) <| z_cons (ok_aload_n dX8_turnReader_10 rfl rfl) <| z_cons (ok_get ⟨by decide, by decide, by decide⟩ (ci := 3) (T := TX3) rfl rfl (Nat.le_of_ble_eq_true rfl) iw_X3 qw_405 gv_4_0 dX8_turnReader_11 rfl rfl) <| z_cons (ok_iload_n dX8_turnReader_14 rfl rfl) <| z_cons (ok_icmp_ne (tgt := 20) (by decide) rfl dX8_turnReader_15 rfl rfl) <| z_cons (ok_iconst (by decide) dX8_turnReader_18 rfl rfl) <| z_cons (ok_zret rfl dX8_turnReader_19 rfl) <| z_cons (ok_aload_n dX8_turnReader_20 rfl rfl) <| z_cons (ok_iload_n dX8_turnReader_21 rfl rfl) <| z_cons (ok_callS (k := 41) (n := 2) qw_406 qw_156 ⟨by decide +kernel, by decide +kernel, by decide +kernel⟩ (Nat.le_of_ble_eq_true rfl) qw_408 qw_407 dX8_turnReader_22 rfl rfl) <| z_cons (ok_pop dX8_turnReader_25 rfl rfl) <| z_cons (ok_aload_n dX8_turnReader_26 rfl rfl) <| z_cons (ok_iload_n dX8_turnReader_27 rfl rfl) <| z_cons (ok_putz ⟨by decide, by decide, by decide⟩ (ci := 3) (T := TX3) rfl rfl (Nat.le_of_ble_eq_true rfl) iw_X3 qw_405 tyX3_ok nmX3 rfl pv_4_0 rfl dX8_turnReader_28 rfl rfl) <| z_cons (ok_iconst (by decide) dX8_turnReader_31 rfl rfl) <| z_cons (ok_istore (Nat.le_of_ble_eq_true rfl) dX8_turnReader_32 rfl rfl) <| z_cons (ok_iload dX8_turnReader_34 rfl rfl) <| z_cons (ok_bipush (by decide) dX8_turnReader_36 rfl rfl) <| z_cons (ok_icmp_ge (tgt := 71) (by decide) rfl dX8_turnReader_38 rfl rfl) <| z_cons (ok_aload_n dX8_turnReader_41 rfl rfl) <| z_cons (ok_getr (k := 1) ⟨by decide, by decide, by decide⟩ (ci := 6) (T := TX8) rfl rfl (Nat.le_of_ble_eq_true rfl) iw_X8 qw_372 gr_9_1 (fun _ _ => by simp) (fun w i => List.mem_of_getElem? (i := 1) rfl) dX8_turnReader_42 rfl rfl) <| z_cons (ok_iload dX8_turnReader_45 rfl rfl) <| z_cons (ok_aald dX8_turnReader_47 rfl rfl) <| z_cons (ok_get ⟨by decide, by decide, by decide⟩ (ci := 4) (T := TX6) rfl rfl (Nat.le_of_ble_eq_true rfl) iw_X6 qw_373 gv_7_0 dX8_turnReader_48 rfl rfl) <| z_cons (ok_if_eq (tgt := 65) (by decide) rfl dX8_turnReader_51 rfl rfl) <| z_cons (ok_aload_n dX8_turnReader_54 rfl rfl) <| z_cons (ok_aload_n dX8_turnReader_55 rfl rfl) <| z_cons (ok_getr (k := 1) ⟨by decide, by decide, by decide⟩ (ci := 6) (T := TX8) rfl rfl (Nat.le_of_ble_eq_true rfl) iw_X8 qw_372 gr_9_1 (fun _ _ => by simp) (fun w i => List.mem_of_getElem? (i := 1) rfl) dX8_turnReader_56 rfl rfl) <| z_cons (ok_iload dX8_turnReader_59 rfl rfl) <| z_cons (ok_aald dX8_turnReader_61 rfl rfl) <| z_cons (ok_callv ⟨by decide, by decide, by decide⟩ (ci := 6) (C := RX8) (T := TX8) rfl go_9 (k := 99) (n := 1) qw_394 qw_124 ⟨by decide +kernel, by decide +kernel, by decide +kernel⟩ (Nat.le_of_ble_eq_true rfl) qw_395 qw_396 qw_397 dX8_turnReader_62 rfl rfl) <| z_cons (ok_iinc (by decide) (Nat.le_of_ble_eq_true rfl) dX8_turnReader_65 rfl rfl) <| z_cons (ok_goto (tgt := 34) (by decide) rfl dX8_turnReader_68 rfl) <| z_cons (ok_iconst (by decide) dX8_turnReader_71 rfl rfl) <| z_cons (ok_zret rfl dX8_turnReader_72 rfl) <| z_nil
theorem dX8_settlePower_0 : decode cX8_settlePower 0 = .ok (.aload_n 1, 1) := by decide +kernel
theorem dX8_settlePower_1 : decode cX8_settlePower 1 = .ok (.getfield 83, 3) := by decide +kernel
theorem dX8_settlePower_4 : decode cX8_settlePower 4 = .ok (.aload_n 0, 1) := by decide +kernel
theorem dX8_settlePower_5 : decode cX8_settlePower 5 = .ok (.invokevirtual 108, 3) := by decide +kernel
theorem dX8_settlePower_8 : decode cX8_settlePower 8 = .ok (.iand, 1) := by decide +kernel
theorem dX8_settlePower_9 : decode cX8_settlePower 9 = .ok (.ifCond .eq 9, 3) := by decide +kernel
theorem dX8_settlePower_12 : decode cX8_settlePower 12 = .ok (.aload_n 1, 1) := by decide +kernel
theorem dX8_settlePower_13 : decode cX8_settlePower 13 = .ok (.iconst (-1), 1) := by decide +kernel
theorem dX8_settlePower_14 : decode cX8_settlePower 14 = .ok (.putfield 111, 3) := by decide +kernel
theorem dX8_settlePower_17 : decode cX8_settlePower 17 = .ok (.return_, 1) := by decide +kernel
theorem dX8_settlePower_18 : decode cX8_settlePower 18 = .ok (.aload_n 1, 1) := by decide +kernel
theorem dX8_settlePower_19 : decode cX8_settlePower 19 = .ok (.invokevirtual 114, 3) := by decide +kernel
theorem dX8_settlePower_22 : decode cX8_settlePower 22 = .ok (.ifCond .eq 11, 3) := by decide +kernel
theorem dX8_settlePower_25 : decode cX8_settlePower 25 = .ok (.aload_n 1, 1) := by decide +kernel
theorem dX8_settlePower_26 : decode cX8_settlePower 26 = .ok (.aload_n 0, 1) := by decide +kernel
theorem dX8_settlePower_27 : decode cX8_settlePower 27 = .ok (.getfield 51, 3) := by decide +kernel
theorem dX8_settlePower_30 : decode cX8_settlePower 30 = .ok (.putfield 111, 3) := by decide +kernel
theorem dX8_settlePower_33 : decode cX8_settlePower 33 = .ok (.aload_n 1, 1) := by decide +kernel
theorem dX8_settlePower_34 : decode cX8_settlePower 34 = .ok (.iconst 0, 1) := by decide +kernel
theorem dX8_settlePower_35 : decode cX8_settlePower 35 = .ok (.invokevirtual 118, 3) := by decide +kernel
theorem dX8_settlePower_38 : decode cX8_settlePower 38 = .ok (.iconst 1, 1) := by decide +kernel
theorem dX8_settlePower_39 : decode cX8_settlePower 39 = .ok (.if_icmp .ne 9, 3) := by decide +kernel
theorem dX8_settlePower_42 : decode cX8_settlePower 42 = .ok (.aload_n 0, 1) := by decide +kernel
theorem dX8_settlePower_43 : decode cX8_settlePower 43 = .ok (.aload_n 1, 1) := by decide +kernel
theorem dX8_settlePower_44 : decode cX8_settlePower 44 = .ok (.iconst 0, 1) := by decide +kernel
theorem dX8_settlePower_45 : decode cX8_settlePower 45 = .ok (.invokevirtual 122, 3) := by decide +kernel
theorem dX8_settlePower_48 : decode cX8_settlePower 48 = .ok (.return_, 1) := by decide +kernel
set_option maxRecDepth 20000 in
theorem zl_X8_settlePower_0 : z_All z_tab cX8_settlePower 2 none RX8 pc_X8_settlePower 0 (k_X8_settlePower.drop 0) := z_cons (ok_aload_n dX8_settlePower_0 rfl rfl) <| z_cons (ok_get ⟨by decide, by decide, by decide⟩ (ci := 4) (T := TX6) rfl rfl (Nat.le_of_ble_eq_true rfl) iw_X6 qw_399 gv_7_2 dX8_settlePower_1 rfl rfl) <| z_cons (ok_aload_n dX8_settlePower_4 rfl rfl) <| z_cons (ok_callv ⟨by decide, by decide, by decide⟩ (ci := 6) (C := RX8) (T := TX8) rfl go_9 (k := 115) (n := 0) qw_409 qw_124 ⟨by decide +kernel, by decide +kernel, by decide +kernel⟩ (Nat.le_of_ble_eq_true rfl) qw_410 qw_411 qw_412 dX8_settlePower_5 rfl rfl) <| z_cons (ok_iand dX8_settlePower_8 rfl rfl) <| z_cons (ok_if_eq (tgt := 18) (by decide) rfl dX8_settlePower_9 rfl rfl) <| z_cons (ok_aload_n dX8_settlePower_12 rfl rfl) <| z_cons (ok_iconst (by decide) dX8_settlePower_13 rfl rfl) <| z_cons (ok_put ⟨by decide, by decide, by decide⟩ (ci := 4) (T := TX6) rfl rfl (Nat.le_of_ble_eq_true rfl) iw_X6 qw_413 tyX6_ok nmX6 rfl pv_7_9 rfl dX8_settlePower_14 rfl rfl) <| z_cons (ok_ret rfl dX8_settlePower_17 rfl) <| z_cons (ok_aload_n dX8_settlePower_18 rfl rfl) <| z_cons (ok_callv ⟨by decide, by decide, by decide⟩ (ci := 4) (C := RX6) (T := TX6) rfl go_7 (k := 83) (n := 0) qw_364 qw_203 ⟨by decide +kernel, by decide +kernel, by decide +kernel⟩ (Nat.le_of_ble_eq_true rfl) qw_414 qw_366 qw_367 dX8_settlePower_19 rfl rfl) <| z_cons (ok_if_eq (tgt := 33) (by decide) rfl dX8_settlePower_22 rfl rfl) <| z_cons (ok_aload_n dX8_settlePower_25 rfl rfl) <| z_cons (ok_aload_n dX8_settlePower_26 rfl rfl) <| z_cons (ok_get ⟨by decide, by decide, by decide⟩ (ci := 6) (T := TX8) rfl rfl (Nat.le_of_ble_eq_true rfl) iw_X8 qw_376 gv_9_5 dX8_settlePower_27 rfl rfl) <| z_cons (ok_put ⟨by decide, by decide, by decide⟩ (ci := 4) (T := TX6) rfl rfl (Nat.le_of_ble_eq_true rfl) iw_X6 qw_413 tyX6_ok nmX6 rfl pv_7_9 rfl dX8_settlePower_30 rfl rfl) <| z_cons (ok_aload_n dX8_settlePower_33 rfl rfl) <| z_cons (ok_iconst (by decide) dX8_settlePower_34 rfl rfl) <| z_cons (ok_callv ⟨by decide, by decide, by decide⟩ (ci := 4) (C := RX6) (T := TX6) rfl go_7 (k := 81) (n := 1) qw_225 qw_203 ⟨by decide +kernel, by decide +kernel, by decide +kernel⟩ (Nat.le_of_ble_eq_true rfl) qw_415 qw_227 qw_228 dX8_settlePower_35 rfl rfl) <| z_cons (ok_iconst (by decide) dX8_settlePower_38 rfl rfl) <| z_cons (ok_icmp_ne (tgt := 48) (by decide) rfl dX8_settlePower_39 rfl rfl) <| z_cons (ok_aload_n dX8_settlePower_42 rfl rfl) <| z_cons (ok_aload_n dX8_settlePower_43 rfl rfl) <| z_cons (ok_iconst (by decide) dX8_settlePower_44 rfl rfl) <| z_cons (ok_callv ⟨by decide, by decide, by decide⟩ (ci := 6) (C := RX8) (T := TX8) rfl go_9 (k := 100) (n := 2) qw_416 qw_124 ⟨by decide +kernel, by decide +kernel, by decide +kernel⟩ (Nat.le_of_ble_eq_true rfl) qw_417 qw_418 qw_419 dX8_settlePower_45 rfl rfl) <| z_cons (ok_ret rfl dX8_settlePower_48 rfl) <| z_nil
theorem dX8_fade_0 : decode cX8_fade 0 = .ok (.aload_n 1, 1) := by decide +kernel
theorem dX8_fade_1 : decode cX8_fade 1 = .ok (.iload_n 2, 1) := by decide +kernel
theorem dX8_fade_2 : decode cX8_fade 2 = .ok (.iconst 0, 1) := by decide +kernel
theorem dX8_fade_3 : decode cX8_fade 3 = .ok (.aload_n 0, 1) := by decide +kernel
theorem dX8_fade_4 : decode cX8_fade 4 = .ok (.getfield 51, 3) := by decide +kernel
theorem dX8_fade_7 : decode cX8_fade 7 = .ok (.invokevirtual 126, 3) := by decide +kernel
theorem dX8_fade_10 : decode cX8_fade 10 = .ok (.aload_n 0, 1) := by decide +kernel
theorem dX8_fade_11 : decode cX8_fade 11 = .ok (.getfield 30, 3) := by decide +kernel
theorem dX8_fade_14 : decode cX8_fade 14 = .ok (.bipush 9, 2) := by decide +kernel
theorem dX8_fade_16 : decode cX8_fade 16 = .ok (.dup2, 1) := by decide +kernel
theorem dX8_fade_17 : decode cX8_fade 17 = .ok (.iaload, 1) := by decide +kernel
theorem dX8_fade_18 : decode cX8_fade 18 = .ok (.iconst 1, 1) := by decide +kernel
theorem dX8_fade_19 : decode cX8_fade 19 = .ok (.iadd, 1) := by decide +kernel
theorem dX8_fade_20 : decode cX8_fade 20 = .ok (.iastore, 1) := by decide +kernel
theorem dX8_fade_21 : decode cX8_fade 21 = .ok (.return_, 1) := by decide +kernel
set_option maxRecDepth 20000 in
theorem zl_X8_fade_0 : z_All z_tab cX8_fade 3 none RX8 pc_X8_fade 0 (k_X8_fade.drop 0) := z_cons (ok_aload_n dX8_fade_0 rfl rfl) <| z_cons (ok_iload_n dX8_fade_1 rfl rfl) <| z_cons (ok_iconst (by decide) dX8_fade_2 rfl rfl) <| z_cons (ok_aload_n dX8_fade_3 rfl rfl) <| z_cons (ok_get ⟨by decide, by decide, by decide⟩ (ci := 6) (T := TX8) rfl rfl (Nat.le_of_ble_eq_true rfl) iw_X8 qw_376 gv_9_5 dX8_fade_4 rfl rfl) <| z_cons (ok_callv ⟨by decide, by decide, by decide⟩ (ci := 4) (C := RX6) (T := TX6) rfl go_7 (k := 84) (n := 3) qw_230 qw_203 ⟨by decide +kernel, by decide +kernel, by decide +kernel⟩ (Nat.le_of_ble_eq_true rfl) qw_420 qw_232 qw_233 dX8_fade_7 rfl rfl) <| z_cons (ok_aload_n dX8_fade_10 rfl rfl) <| z_cons (ok_getr (k := 4) ⟨by decide, by decide, by decide⟩ (ci := 6) (T := TX8) rfl rfl (Nat.le_of_ble_eq_true rfl) iw_X8 qw_403 gr_9_4 (fun _ _ => by simp) (fun w i => List.mem_of_getElem? (i := 4) rfl) dX8_fade_11 rfl rfl) <| z_cons (ok_bipush (by decide) dX8_fade_14 rfl rfl) <| z_cons (ok_dup2 dX8_fade_16 rfl rfl) <| z_cons (ok_iald dX8_fade_17 rfl rfl) <| z_cons (ok_iconst (by decide) dX8_fade_18 rfl rfl) <| z_cons (ok_iadd dX8_fade_19 rfl rfl) <| z_cons (ok_iast dX8_fade_20 rfl rfl) <| z_cons (ok_ret rfl dX8_fade_21 rfl) <| z_nil
theorem dX8_fadesAt_0 : decode cX8_fadesAt 0 = .ok (.iload_n 2, 1) := by decide +kernel
theorem dX8_fadesAt_1 : decode cX8_fadesAt 1 = .ok (.iconst 1, 1) := by decide +kernel
theorem dX8_fadesAt_2 : decode cX8_fadesAt 2 = .ok (.if_icmp .ne 13, 3) := by decide +kernel
theorem dX8_fadesAt_5 : decode cX8_fadesAt 5 = .ok (.aload_n 1, 1) := by decide +kernel
theorem dX8_fadesAt_6 : decode cX8_fadesAt 6 = .ok (.getfield 130, 3) := by decide +kernel
theorem dX8_fadesAt_9 : decode cX8_fadesAt 9 = .ok (.aload_n 0, 1) := by decide +kernel
theorem dX8_fadesAt_10 : decode cX8_fadesAt 10 = .ok (.getfield 34, 3) := by decide +kernel
theorem dX8_fadesAt_13 : decode cX8_fadesAt 13 = .ok (.iadd, 1) := by decide +kernel
theorem dX8_fadesAt_14 : decode cX8_fadesAt 14 = .ok (.ireturn, 1) := by decide +kernel
theorem dX8_fadesAt_15 : decode cX8_fadesAt 15 = .ok (.iload_n 2, 1) := by decide +kernel
theorem dX8_fadesAt_16 : decode cX8_fadesAt 16 = .ok (.ifCond .eq 10, 3) := by decide +kernel
theorem dX8_fadesAt_19 : decode cX8_fadesAt 19 = .ok (.aload_n 1, 1) := by decide +kernel
theorem dX8_fadesAt_20 : decode cX8_fadesAt 20 = .ok (.invokevirtual 114, 3) := by decide +kernel
theorem dX8_fadesAt_23 : decode cX8_fadesAt 23 = .ok (.ifCond .eq 7, 3) := by decide +kernel
theorem dX8_fadesAt_26 : decode cX8_fadesAt 26 = .ok (.iconst (-1), 1) := by decide +kernel
theorem dX8_fadesAt_27 : decode cX8_fadesAt 27 = .ok (.goto 12, 3) := by decide +kernel
theorem dX8_fadesAt_30 : decode cX8_fadesAt 30 = .ok (.aload_n 1, 1) := by decide +kernel
theorem dX8_fadesAt_31 : decode cX8_fadesAt 31 = .ok (.getfield 111, 3) := by decide +kernel
theorem dX8_fadesAt_34 : decode cX8_fadesAt 34 = .ok (.aload_n 0, 1) := by decide +kernel
theorem dX8_fadesAt_35 : decode cX8_fadesAt 35 = .ok (.getfield 38, 3) := by decide +kernel
theorem dX8_fadesAt_38 : decode cX8_fadesAt 38 = .ok (.iadd, 1) := by decide +kernel
theorem dX8_fadesAt_39 : decode cX8_fadesAt 39 = .ok (.ireturn, 1) := by decide +kernel
set_option maxRecDepth 20000 in
theorem zl_X8_fadesAt_0 : z_All z_tab cX8_fadesAt 3 (some .int) RX8 pc_X8_fadesAt 0 (k_X8_fadesAt.drop 0) := z_cons (ok_iload_n dX8_fadesAt_0 rfl rfl) <| z_cons (ok_iconst (by decide) dX8_fadesAt_1 rfl rfl) <| z_cons (ok_icmp_ne (tgt := 15) (by decide) rfl dX8_fadesAt_2 rfl rfl) <| z_cons (ok_aload_n dX8_fadesAt_5 rfl rfl) <| z_cons (ok_get ⟨by decide, by decide, by decide⟩ (ci := 4) (T := TX6) rfl rfl (Nat.le_of_ble_eq_true rfl) iw_X6 qw_421 gv_7_8 dX8_fadesAt_6 rfl rfl) <| z_cons (ok_aload_n dX8_fadesAt_9 rfl rfl) <| z_cons (ok_get ⟨by decide, by decide, by decide⟩ (ci := 6) (T := TX8) rfl rfl (Nat.le_of_ble_eq_true rfl) iw_X8 qw_385 gv_9_7 dX8_fadesAt_10 rfl rfl) <| z_cons (ok_iadd dX8_fadesAt_13 rfl rfl) <| z_cons (ok_iret rfl dX8_fadesAt_14 rfl) <| z_cons (ok_iload_n dX8_fadesAt_15 rfl rfl) <| z_cons (ok_if_eq (tgt := 26) (by decide) rfl dX8_fadesAt_16 rfl rfl) <| z_cons (ok_aload_n dX8_fadesAt_19 rfl rfl) <| z_cons (ok_callv ⟨by decide, by decide, by decide⟩ (ci := 4) (C := RX6) (T := TX6) rfl go_7 (k := 83) (n := 0) qw_364 qw_203 ⟨by decide +kernel, by decide +kernel, by decide +kernel⟩ (Nat.le_of_ble_eq_true rfl) qw_414 qw_366 qw_367 dX8_fadesAt_20 rfl rfl) <| z_cons (ok_if_eq (tgt := 30) (by decide) rfl dX8_fadesAt_23 rfl rfl) <| z_cons (ok_iconst (by decide) dX8_fadesAt_26 rfl rfl) <| z_cons (ok_goto (tgt := 39) (by decide) rfl dX8_fadesAt_27 rfl) <| z_cons (ok_aload_n dX8_fadesAt_30 rfl rfl) <| z_cons (ok_get ⟨by decide, by decide, by decide⟩ (ci := 4) (T := TX6) rfl rfl (Nat.le_of_ble_eq_true rfl) iw_X6 qw_413 gv_7_9 dX8_fadesAt_31 rfl rfl) <| z_cons (ok_aload_n dX8_fadesAt_34 rfl rfl) <| z_cons (ok_get ⟨by decide, by decide, by decide⟩ (ci := 6) (T := TX8) rfl rfl (Nat.le_of_ble_eq_true rfl) iw_X8 qw_386 gv_9_8 dX8_fadesAt_35 rfl rfl) <| z_cons (ok_iadd dX8_fadesAt_38 rfl rfl) <| z_cons (ok_iret rfl dX8_fadesAt_39 rfl) <| z_nil
theorem dX8_ticksToFade_0 : decode cX8_ticksToFade 0 = .ok (.aload_n 1, 1) := by decide +kernel
theorem dX8_ticksToFade_1 : decode cX8_ticksToFade 1 = .ok (.iload_n 2, 1) := by decide +kernel
theorem dX8_ticksToFade_2 : decode cX8_ticksToFade 2 = .ok (.invokevirtual 118, 3) := by decide +kernel
theorem dX8_ticksToFade_5 : decode cX8_ticksToFade 5 = .ok (.ifCond .ne 5, 3) := by decide +kernel
theorem dX8_ticksToFade_8 : decode cX8_ticksToFade 8 = .ok (.iconst 0, 1) := by decide +kernel
theorem dX8_ticksToFade_9 : decode cX8_ticksToFade 9 = .ok (.ireturn, 1) := by decide +kernel
theorem dX8_ticksToFade_10 : decode cX8_ticksToFade 10 = .ok (.aload_n 0, 1) := by decide +kernel
theorem dX8_ticksToFade_11 : decode cX8_ticksToFade 11 = .ok (.aload_n 1, 1) := by decide +kernel
theorem dX8_ticksToFade_12 : decode cX8_ticksToFade 12 = .ok (.iload_n 2, 1) := by decide +kernel
theorem dX8_ticksToFade_13 : decode cX8_ticksToFade 13 = .ok (.invokevirtual 133, 3) := by decide +kernel
theorem dX8_ticksToFade_16 : decode cX8_ticksToFade 16 = .ok (.istore_n 3, 1) := by decide +kernel
theorem dX8_ticksToFade_17 : decode cX8_ticksToFade 17 = .ok (.iload_n 3, 1) := by decide +kernel
theorem dX8_ticksToFade_18 : decode cX8_ticksToFade 18 = .ok (.iconst (-1), 1) := by decide +kernel
theorem dX8_ticksToFade_19 : decode cX8_ticksToFade 19 = .ok (.if_icmp .ne 7, 3) := by decide +kernel
theorem dX8_ticksToFade_22 : decode cX8_ticksToFade 22 = .ok (.iconst (-1), 1) := by decide +kernel
theorem dX8_ticksToFade_23 : decode cX8_ticksToFade 23 = .ok (.goto 13, 3) := by decide +kernel
theorem dX8_ticksToFade_26 : decode cX8_ticksToFade 26 = .ok (.iconst 1, 1) := by decide +kernel
theorem dX8_ticksToFade_27 : decode cX8_ticksToFade 27 = .ok (.iload_n 3, 1) := by decide +kernel
theorem dX8_ticksToFade_28 : decode cX8_ticksToFade 28 = .ok (.aload_n 0, 1) := by decide +kernel
theorem dX8_ticksToFade_29 : decode cX8_ticksToFade 29 = .ok (.getfield 51, 3) := by decide +kernel
theorem dX8_ticksToFade_32 : decode cX8_ticksToFade 32 = .ok (.isub, 1) := by decide +kernel
theorem dX8_ticksToFade_33 : decode cX8_ticksToFade 33 = .ok (.invokestatic 137, 3) := by decide +kernel
theorem dX8_ticksToFade_36 : decode cX8_ticksToFade 36 = .ok (.ireturn, 1) := by decide +kernel
set_option maxRecDepth 20000 in
theorem zl_X8_ticksToFade_0 : z_All z_tab cX8_ticksToFade 4 (some .int) RX8 pc_X8_ticksToFade 0 (k_X8_ticksToFade.drop 0) := z_cons (ok_aload_n dX8_ticksToFade_0 rfl rfl) <| z_cons (ok_iload_n dX8_ticksToFade_1 rfl rfl) <| z_cons (ok_callv ⟨by decide, by decide, by decide⟩ (ci := 4) (C := RX6) (T := TX6) rfl go_7 (k := 81) (n := 1) qw_225 qw_203 ⟨by decide +kernel, by decide +kernel, by decide +kernel⟩ (Nat.le_of_ble_eq_true rfl) qw_415 qw_227 qw_228 dX8_ticksToFade_2 rfl rfl) <| z_cons (ok_if_ne (tgt := 10) (by decide) rfl dX8_ticksToFade_5 rfl rfl) <| z_cons (ok_iconst (by decide) dX8_ticksToFade_8 rfl rfl) <| z_cons (ok_iret rfl dX8_ticksToFade_9 rfl) <| z_cons (ok_aload_n dX8_ticksToFade_10 rfl rfl) <| z_cons (ok_aload_n dX8_ticksToFade_11 rfl rfl) <| z_cons (ok_iload_n dX8_ticksToFade_12 rfl rfl) <| z_cons (ok_callv ⟨by decide, by decide, by decide⟩ (ci := 6) (C := RX8) (T := TX8) rfl go_9 (k := 101) (n := 2) qw_422 qw_124 ⟨by decide +kernel, by decide +kernel, by decide +kernel⟩ (Nat.le_of_ble_eq_true rfl) qw_423 qw_424 qw_425 dX8_ticksToFade_13 rfl rfl) <| z_cons (ok_istore_n (Nat.le_of_ble_eq_true rfl) dX8_ticksToFade_16 rfl rfl) <| z_cons (ok_iload_n dX8_ticksToFade_17 rfl rfl) <| z_cons (ok_iconst (by decide) dX8_ticksToFade_18 rfl rfl) <| z_cons (ok_icmp_ne (tgt := 26) (by decide) rfl dX8_ticksToFade_19 rfl rfl) <| z_cons (ok_iconst (by decide) dX8_ticksToFade_22 rfl rfl) <| z_cons (ok_goto (tgt := 36) (by decide) rfl dX8_ticksToFade_23 rfl) <| z_cons (ok_iconst (by decide) dX8_ticksToFade_26 rfl rfl) <| z_cons (ok_iload_n dX8_ticksToFade_27 rfl rfl) <| z_cons (ok_aload_n dX8_ticksToFade_28 rfl rfl) <| z_cons (ok_get ⟨by decide, by decide, by decide⟩ (ci := 6) (T := TX8) rfl rfl (Nat.le_of_ble_eq_true rfl) iw_X8 qw_376 gv_9_5 dX8_ticksToFade_29 rfl rfl) <| z_cons (ok_isub dX8_ticksToFade_32 rfl rfl) <| z_cons (ok_mmax qw_426 qw_268 qw_32 qw_269 dX8_ticksToFade_33 rfl rfl) <| z_cons (ok_iret rfl dX8_ticksToFade_36 rfl) <| z_nil
theorem dX8_fadeByTime_0 : decode cX8_fadeByTime 0 = .ok (.iconst 1, 1) := by decide +kernel
theorem dX8_fadeByTime_1 : decode cX8_fadeByTime 1 = .ok (.istore_n 2, 1) := by decide +kernel
theorem dX8_fadeByTime_2 : decode cX8_fadeByTime 2 = .ok (.iload_n 2, 1) := by decide +kernel
theorem dX8_fadeByTime_3 : decode cX8_fadeByTime 3 = .ok (.iconst 5, 1) := by decide +kernel
theorem dX8_fadeByTime_4 : decode cX8_fadeByTime 4 = .ok (.if_icmp .ge 40, 3) := by decide +kernel
theorem dX8_fadeByTime_7 : decode cX8_fadeByTime 7 = .ok (.aload_n 1, 1) := by decide +kernel
theorem dX8_fadeByTime_8 : decode cX8_fadeByTime 8 = .ok (.getfield 143, 3) := by decide +kernel
theorem dX8_fadeByTime_11 : decode cX8_fadeByTime 11 = .ok (.ifCond .eq 33, 3) := by decide +kernel
theorem dX8_fadeByTime_14 : decode cX8_fadeByTime 14 = .ok (.aload_n 1, 1) := by decide +kernel
theorem dX8_fadeByTime_15 : decode cX8_fadeByTime 15 = .ok (.iload_n 2, 1) := by decide +kernel
theorem dX8_fadeByTime_16 : decode cX8_fadeByTime 16 = .ok (.invokevirtual 118, 3) := by decide +kernel
theorem dX8_fadeByTime_19 : decode cX8_fadeByTime 19 = .ok (.iconst 1, 1) := by decide +kernel
theorem dX8_fadeByTime_20 : decode cX8_fadeByTime 20 = .ok (.if_icmp .ne 18, 3) := by decide +kernel
theorem dX8_fadeByTime_23 : decode cX8_fadeByTime 23 = .ok (.aload_n 0, 1) := by decide +kernel
theorem dX8_fadeByTime_24 : decode cX8_fadeByTime 24 = .ok (.aload_n 1, 1) := by decide +kernel
theorem dX8_fadeByTime_25 : decode cX8_fadeByTime 25 = .ok (.iload_n 2, 1) := by decide +kernel
theorem dX8_fadeByTime_26 : decode cX8_fadeByTime 26 = .ok (.invokevirtual 146, 3) := by decide +kernel
theorem dX8_fadeByTime_29 : decode cX8_fadeByTime 29 = .ok (.ifCond .eq 9, 3) := by decide +kernel
theorem dX8_fadeByTime_32 : decode cX8_fadeByTime 32 = .ok (.aload_n 0, 1) := by decide +kernel
theorem dX8_fadeByTime_33 : decode cX8_fadeByTime 33 = .ok (.aload_n 1, 1) := by decide +kernel
theorem dX8_fadeByTime_34 : decode cX8_fadeByTime 34 = .ok (.iload_n 2, 1) := by decide +kernel
theorem dX8_fadeByTime_35 : decode cX8_fadeByTime 35 = .ok (.invokevirtual 122, 3) := by decide +kernel
theorem dX8_fadeByTime_38 : decode cX8_fadeByTime 38 = .ok (.iinc 2 1, 3) := by decide +kernel
theorem dX8_fadeByTime_41 : decode cX8_fadeByTime 41 = .ok (.goto (-39), 3) := by decide +kernel
theorem dX8_fadeByTime_44 : decode cX8_fadeByTime 44 = .ok (.return_, 1) := by decide +kernel
set_option maxRecDepth 20000 in
theorem zl_X8_fadeByTime_0 : z_All z_tab cX8_fadeByTime 3 none RX8 pc_X8_fadeByTime 0 (k_X8_fadeByTime.drop 0) := z_cons (ok_iconst (by decide) dX8_fadeByTime_0 rfl rfl) <| z_cons (ok_istore_n (Nat.le_of_ble_eq_true rfl) dX8_fadeByTime_1 rfl rfl) <| z_cons (ok_iload_n dX8_fadeByTime_2 rfl rfl) <| z_cons (ok_iconst (by decide) dX8_fadeByTime_3 rfl rfl) <| z_cons (ok_icmp_ge (tgt := 44) (by decide) rfl dX8_fadeByTime_4 rfl rfl) <| z_cons (ok_aload_n dX8_fadeByTime_7 rfl rfl) <| z_cons (ok_get ⟨by decide, by decide, by decide⟩ (ci := 4) (T := TX6) rfl rfl (Nat.le_of_ble_eq_true rfl) iw_X6 qw_427 gv_7_3 dX8_fadeByTime_8 rfl rfl) <| z_cons (ok_if_eq (tgt := 44) (by decide) rfl dX8_fadeByTime_11 rfl rfl) <| z_cons (ok_aload_n dX8_fadeByTime_14 rfl rfl) <| z_cons (ok_iload_n dX8_fadeByTime_15 rfl rfl) <| z_cons (ok_callv ⟨by decide, by decide, by decide⟩ (ci := 4) (C := RX6) (T := TX6) rfl go_7 (k := 81) (n := 1) qw_225 qw_203 ⟨by decide +kernel, by decide +kernel, by decide +kernel⟩ (Nat.le_of_ble_eq_true rfl) qw_415 qw_227 qw_228 dX8_fadeByTime_16 rfl rfl) <| z_cons (ok_iconst (by decide) dX8_fadeByTime_19 rfl rfl) <| z_cons (ok_icmp_ne (tgt := 38) (by decide) rfl dX8_fadeByTime_20 rfl rfl) <| z_cons (ok_aload_n dX8_fadeByTime_23 rfl rfl) <| z_cons (ok_aload_n dX8_fadeByTime_24 rfl rfl) <| z_cons (ok_iload_n dX8_fadeByTime_25 rfl rfl) <| z_cons (ok_callv ⟨by decide, by decide, by decide⟩ (ci := 6) (C := RX8) (T := TX8) rfl go_9 (k := 104) (n := 2) qw_428 qw_124 ⟨by decide +kernel, by decide +kernel, by decide +kernel⟩ (Nat.le_of_ble_eq_true rfl) qw_429 qw_430 qw_431 dX8_fadeByTime_26 rfl rfl) <| z_cons (ok_if_eq (tgt := 38) (by decide) rfl dX8_fadeByTime_29 rfl rfl) <| z_cons (ok_aload_n dX8_fadeByTime_32 rfl rfl) <| z_cons (ok_aload_n dX8_fadeByTime_33 rfl rfl) <| z_cons (ok_iload_n dX8_fadeByTime_34 rfl rfl) <| z_cons (ok_callv ⟨by decide, by decide, by decide⟩ (ci := 6) (C := RX8) (T := TX8) rfl go_9 (k := 100) (n := 2) qw_416 qw_124 ⟨by decide +kernel, by decide +kernel, by decide +kernel⟩ (Nat.le_of_ble_eq_true rfl) qw_417 qw_418 qw_419 dX8_fadeByTime_35 rfl rfl) <| z_cons (ok_iinc (by decide) (Nat.le_of_ble_eq_true rfl) dX8_fadeByTime_38 rfl rfl) <| z_cons (ok_goto (tgt := 2) (by decide) rfl dX8_fadeByTime_41 rfl) <| z_cons (ok_ret rfl dX8_fadeByTime_44 rfl) <| z_nil
theorem dX8_hasRunOut_0 : decode cX8_hasRunOut 0 = .ok (.aload_n 0, 1) := by decide +kernel
theorem dX8_hasRunOut_1 : decode cX8_hasRunOut 1 = .ok (.aload_n 1, 1) := by decide +kernel
theorem dX8_hasRunOut_2 : decode cX8_hasRunOut 2 = .ok (.iload_n 2, 1) := by decide +kernel
theorem dX8_hasRunOut_3 : decode cX8_hasRunOut 3 = .ok (.invokevirtual 133, 3) := by decide +kernel
theorem dX8_hasRunOut_6 : decode cX8_hasRunOut 6 = .ok (.istore_n 3, 1) := by decide +kernel
theorem dX8_hasRunOut_7 : decode cX8_hasRunOut 7 = .ok (.iload_n 3, 1) := by decide +kernel
theorem dX8_hasRunOut_8 : decode cX8_hasRunOut 8 = .ok (.iconst (-1), 1) := by decide +kernel
theorem dX8_hasRunOut_9 : decode cX8_hasRunOut 9 = .ok (.if_icmp .eq 15, 3) := by decide +kernel
theorem dX8_hasRunOut_12 : decode cX8_hasRunOut 12 = .ok (.iload_n 3, 1) := by decide +kernel
theorem dX8_hasRunOut_13 : decode cX8_hasRunOut 13 = .ok (.aload_n 0, 1) := by decide +kernel
theorem dX8_hasRunOut_14 : decode cX8_hasRunOut 14 = .ok (.getfield 51, 3) := by decide +kernel
theorem dX8_hasRunOut_17 : decode cX8_hasRunOut 17 = .ok (.if_icmp .gt 7, 3) := by decide +kernel
theorem dX8_hasRunOut_20 : decode cX8_hasRunOut 20 = .ok (.iconst 1, 1) := by decide +kernel
theorem dX8_hasRunOut_21 : decode cX8_hasRunOut 21 = .ok (.goto 4, 3) := by decide +kernel
theorem dX8_hasRunOut_24 : decode cX8_hasRunOut 24 = .ok (.iconst 0, 1) := by decide +kernel
theorem dX8_hasRunOut_25 : decode cX8_hasRunOut 25 = .ok (.ireturn, 1) := by decide +kernel
set_option maxRecDepth 20000 in
theorem zl_X8_hasRunOut_0 : z_All z_tab cX8_hasRunOut 4 (some .boolean) RX8 pc_X8_hasRunOut 0 (k_X8_hasRunOut.drop 0) := z_cons (ok_aload_n dX8_hasRunOut_0 rfl rfl) <| z_cons (ok_aload_n dX8_hasRunOut_1 rfl rfl) <| z_cons (ok_iload_n dX8_hasRunOut_2 rfl rfl) <| z_cons (ok_callv ⟨by decide, by decide, by decide⟩ (ci := 6) (C := RX8) (T := TX8) rfl go_9 (k := 101) (n := 2) qw_422 qw_124 ⟨by decide +kernel, by decide +kernel, by decide +kernel⟩ (Nat.le_of_ble_eq_true rfl) qw_423 qw_424 qw_425 dX8_hasRunOut_3 rfl rfl) <| z_cons (ok_istore_n (Nat.le_of_ble_eq_true rfl) dX8_hasRunOut_6 rfl rfl) <| z_cons (ok_iload_n dX8_hasRunOut_7 rfl rfl) <| z_cons (ok_iconst (by decide) dX8_hasRunOut_8 rfl rfl) <| z_cons (ok_icmp_eq (tgt := 24) (by decide) rfl dX8_hasRunOut_9 rfl rfl) <| z_cons (ok_iload_n dX8_hasRunOut_12 rfl rfl) <| z_cons (ok_aload_n dX8_hasRunOut_13 rfl rfl) <| z_cons (ok_get ⟨by decide, by decide, by decide⟩ (ci := 6) (T := TX8) rfl rfl (Nat.le_of_ble_eq_true rfl) iw_X8 qw_376 gv_9_5 dX8_hasRunOut_14 rfl rfl) <| z_cons (ok_icmp_gt (tgt := 24) (by decide) rfl dX8_hasRunOut_17 rfl rfl) <| z_cons (ok_iconst (by decide) dX8_hasRunOut_20 rfl rfl) <| z_cons (ok_goto (tgt := 25) (by decide) rfl dX8_hasRunOut_21 rfl) <| z_cons (ok_iconst (by decide) dX8_hasRunOut_24 rfl rfl) <| z_cons (ok_zret rfl dX8_hasRunOut_25 rfl) <| z_nil
theorem dX8_pass_0 : decode cX8_pass 0 = .ok (.aload_n 0, 1) := by decide +kernel
theorem dX8_pass_1 : decode cX8_pass 1 = .ok (.dup, 1) := by decide +kernel
theorem dX8_pass_2 : decode cX8_pass 2 = .ok (.getfield 51, 3) := by decide +kernel
theorem dX8_pass_5 : decode cX8_pass 5 = .ok (.iconst 1, 1) := by decide +kernel
theorem dX8_pass_6 : decode cX8_pass 6 = .ok (.iadd, 1) := by decide +kernel
theorem dX8_pass_7 : decode cX8_pass 7 = .ok (.putfield 51, 3) := by decide +kernel
theorem dX8_pass_10 : decode cX8_pass 10 = .ok (.aload_n 0, 1) := by decide +kernel
theorem dX8_pass_11 : decode cX8_pass 11 = .ok (.invokevirtual 150, 3) := by decide +kernel
theorem dX8_pass_14 : decode cX8_pass 14 = .ok (.istore_n 1, 1) := by decide +kernel
theorem dX8_pass_15 : decode cX8_pass 15 = .ok (.aload_n 0, 1) := by decide +kernel
theorem dX8_pass_16 : decode cX8_pass 16 = .ok (.iload_n 1, 1) := by decide +kernel
theorem dX8_pass_17 : decode cX8_pass 17 = .ok (.invokevirtual 153, 3) := by decide +kernel
theorem dX8_pass_20 : decode cX8_pass 20 = .ok (.istore_n 2, 1) := by decide +kernel
theorem dX8_pass_21 : decode cX8_pass 21 = .ok (.aload_n 0, 1) := by decide +kernel
theorem dX8_pass_22 : decode cX8_pass 22 = .ok (.getfield 30, 3) := by decide +kernel
theorem dX8_pass_25 : decode cX8_pass 25 = .ok (.bipush 11, 2) := by decide +kernel
theorem dX8_pass_27 : decode cX8_pass 27 = .ok (.dup2, 1) := by decide +kernel
theorem dX8_pass_28 : decode cX8_pass 28 = .ok (.iaload, 1) := by decide +kernel
theorem dX8_pass_29 : decode cX8_pass 29 = .ok (.iload_n 2, 1) := by decide +kernel
theorem dX8_pass_30 : decode cX8_pass 30 = .ok (.invokestatic 156, 3) := by decide +kernel
theorem dX8_pass_33 : decode cX8_pass 33 = .ok (.iadd, 1) := by decide +kernel
theorem dX8_pass_34 : decode cX8_pass 34 = .ok (.iastore, 1) := by decide +kernel
theorem dX8_pass_35 : decode cX8_pass 35 = .ok (.iconst 0, 1) := by decide +kernel
theorem dX8_pass_36 : decode cX8_pass 36 = .ok (.istore_n 3, 1) := by decide +kernel
theorem dX8_pass_37 : decode cX8_pass 37 = .ok (.iload_n 3, 1) := by decide +kernel
theorem dX8_pass_38 : decode cX8_pass 38 = .ok (.iconst 4, 1) := by decide +kernel
theorem dX8_pass_39 : decode cX8_pass 39 = .ok (.if_icmp .ge 24, 3) := by decide +kernel
theorem dX8_pass_42 : decode cX8_pass 42 = .ok (.iload_n 1, 1) := by decide +kernel
theorem dX8_pass_43 : decode cX8_pass 43 = .ok (.iload_n 3, 1) := by decide +kernel
theorem dX8_pass_44 : decode cX8_pass 44 = .ok (.ishr, 1) := by decide +kernel
theorem dX8_pass_45 : decode cX8_pass 45 = .ok (.iconst 1, 1) := by decide +kernel
theorem dX8_pass_46 : decode cX8_pass 46 = .ok (.iand, 1) := by decide +kernel
theorem dX8_pass_47 : decode cX8_pass 47 = .ok (.iconst 1, 1) := by decide +kernel
theorem dX8_pass_48 : decode cX8_pass 48 = .ok (.if_icmp .ne 9, 3) := by decide +kernel
theorem dX8_pass_51 : decode cX8_pass 51 = .ok (.aload_n 0, 1) := by decide +kernel
theorem dX8_pass_52 : decode cX8_pass 52 = .ok (.iload_n 3, 1) := by decide +kernel
theorem dX8_pass_53 : decode cX8_pass 53 = .ok (.iload_n 2, 1) := by decide +kernel
theorem dX8_pass_54 : decode cX8_pass 54 = .ok (.invokestatic 161, 3) := by decide +kernel
theorem dX8_pass_57 : decode cX8_pass 57 = .ok (.iinc 3 1, 3) := by decide +kernel
theorem dX8_pass_60 : decode cX8_pass 60 = .ok (.goto (-23), 3) := by decide +kernel
theorem dX8_pass_63 : decode cX8_pass 63 = .ok (.iconst 0, 1) := by decide +kernel
theorem dX8_pass_64 : decode cX8_pass 64 = .ok (.istore_n 3, 1) := by decide +kernel
theorem dX8_pass_65 : decode cX8_pass 65 = .ok (.iload_n 3, 1) := by decide +kernel
theorem dX8_pass_66 : decode cX8_pass 66 = .ok (.bipush 24, 2) := by decide +kernel
theorem dX8_pass_68 : decode cX8_pass 68 = .ok (.if_icmp .ge 31, 3) := by decide +kernel
theorem dX8_pass_71 : decode cX8_pass 71 = .ok (.aload_n 0, 1) := by decide +kernel
theorem dX8_pass_72 : decode cX8_pass 72 = .ok (.getfield 11, 3) := by decide +kernel
theorem dX8_pass_75 : decode cX8_pass 75 = .ok (.iload_n 3, 1) := by decide +kernel
theorem dX8_pass_76 : decode cX8_pass 76 = .ok (.aaload, 1) := by decide +kernel
theorem dX8_pass_77 : decode cX8_pass 77 = .ok (.getfield 47, 3) := by decide +kernel
theorem dX8_pass_80 : decode cX8_pass 80 = .ok (.ifCond .eq 13, 3) := by decide +kernel
theorem dX8_pass_83 : decode cX8_pass 83 = .ok (.aload_n 0, 1) := by decide +kernel
theorem dX8_pass_84 : decode cX8_pass 84 = .ok (.aload_n 0, 1) := by decide +kernel
theorem dX8_pass_85 : decode cX8_pass 85 = .ok (.getfield 11, 3) := by decide +kernel
theorem dX8_pass_88 : decode cX8_pass 88 = .ok (.iload_n 3, 1) := by decide +kernel
theorem dX8_pass_89 : decode cX8_pass 89 = .ok (.aaload, 1) := by decide +kernel
theorem dX8_pass_90 : decode cX8_pass 90 = .ok (.invokevirtual 165, 3) := by decide +kernel
theorem dX8_pass_93 : decode cX8_pass 93 = .ok (.iinc 3 1, 3) := by decide +kernel
theorem dX8_pass_96 : decode cX8_pass 96 = .ok (.goto (-31), 3) := by decide +kernel
theorem dX8_pass_99 : decode cX8_pass 99 = .ok (.return_, 1) := by decide +kernel
set_option maxRecDepth 20000 in
theorem zl_X8_pass_1 : z_All z_tab cX8_pass 4 none RX8 pc_X8_pass 40 (k_X8_pass.drop 40) := z_cons (ok_iconst (by decide) dX8_pass_63 rfl rfl) <| z_cons (ok_istore_n (Nat.le_of_ble_eq_true rfl) dX8_pass_64 rfl rfl) <| z_cons (ok_iload_n dX8_pass_65 rfl rfl) <| z_cons (ok_bipush (by decide) dX8_pass_66 rfl rfl) <| z_cons (ok_icmp_ge (tgt := 99) (by decide) rfl dX8_pass_68 rfl rfl) <| z_cons (ok_aload_n dX8_pass_71 rfl rfl) <| z_cons (ok_getr (k := 1) ⟨by decide, by decide, by decide⟩ (ci := 6) (T := TX8) rfl rfl (Nat.le_of_ble_eq_true rfl) iw_X8 qw_372 gr_9_1 (fun _ _ => by simp) (fun w i => List.mem_of_getElem? (i := 1) rfl) dX8_pass_72 rfl rfl) <| z_cons (ok_iload_n dX8_pass_75 rfl rfl) <| z_cons (ok_aald dX8_pass_76 rfl rfl) <| z_cons (ok_get ⟨by decide, by decide, by decide⟩ (ci := 4) (T := TX6) rfl rfl (Nat.le_of_ble_eq_true rfl) iw_X6 qw_373 gv_7_0 dX8_pass_77 rfl rfl) <| z_cons (ok_if_eq (tgt := 93) (by decide) rfl dX8_pass_80 rfl rfl) <| z_cons (ok_aload_n dX8_pass_83 rfl rfl) <| z_cons (ok_aload_n dX8_pass_84 rfl rfl) <| z_cons (ok_getr (k := 1) ⟨by decide, by decide, by decide⟩ (ci := 6) (T := TX8) rfl rfl (Nat.le_of_ble_eq_true rfl) iw_X8 qw_372 gr_9_1 (fun _ _ => by simp) (fun w i => List.mem_of_getElem? (i := 1) rfl) dX8_pass_85 rfl rfl) <| z_cons (ok_iload_n dX8_pass_88 rfl rfl) <| z_cons (ok_aald dX8_pass_89 rfl rfl) <| z_cons (ok_callv ⟨by decide, by decide, by decide⟩ (ci := 6) (C := RX8) (T := TX8) rfl go_9 (k := 103) (n := 1) qw_444 qw_124 ⟨by decide +kernel, by decide +kernel, by decide +kernel⟩ (Nat.le_of_ble_eq_true rfl) qw_445 qw_446 qw_447 dX8_pass_90 rfl rfl) <| z_cons (ok_iinc (by decide) (Nat.le_of_ble_eq_true rfl) dX8_pass_93 rfl rfl) <| z_cons (ok_goto (tgt := 65) (by decide) rfl dX8_pass_96 rfl) <| z_cons (ok_ret rfl dX8_pass_99 rfl) <| z_nil
set_option maxRecDepth 20000 in
theorem zl_X8_pass_0 : z_All z_tab cX8_pass 4 none RX8 pc_X8_pass 0 (k_X8_pass.drop 0) := z_cons (ok_aload_n dX8_pass_0 rfl rfl) <| z_cons (ok_dup dX8_pass_1 rfl rfl) <| z_cons (ok_get ⟨by decide, by decide, by decide⟩ (ci := 6) (T := TX8) rfl rfl (Nat.le_of_ble_eq_true rfl) iw_X8 qw_376 gv_9_5 dX8_pass_2 rfl rfl) <| z_cons (ok_iconst (by decide) dX8_pass_5 rfl rfl) <| z_cons (ok_iadd dX8_pass_6 rfl rfl) <| z_cons (ok_put ⟨by decide, by decide, by decide⟩ (ci := 6) (T := TX8) rfl rfl (Nat.le_of_ble_eq_true rfl) iw_X8 qw_376 tyX8_ok nmX8 rfl pv_9_5 rfl dX8_pass_7 rfl rfl) <| z_cons (ok_aload_n dX8_pass_10 rfl rfl) <| z_cons (ok_callv ⟨by decide, by decide, by decide⟩ (ci := 6) (C := RX8) (T := TX8) rfl go_9 (k := 116) (n := 0) qw_432 qw_124 ⟨by decide +kernel, by decide +kernel, by decide +kernel⟩ (Nat.le_of_ble_eq_true rfl) qw_433 qw_434 qw_435 dX8_pass_11 rfl rfl) <| z_cons (ok_istore_n (Nat.le_of_ble_eq_true rfl) dX8_pass_14 rfl rfl) <| z_cons (ok_aload_n dX8_pass_15 rfl rfl) <| z_cons (ok_iload_n dX8_pass_16 rfl rfl) <| z_cons (ok_callv ⟨by decide, by decide, by decide⟩ (ci := 6) (C := RX8) (T := TX8) rfl go_9 (k := 113) (n := 1) qw_436 qw_124 ⟨by decide +kernel, by decide +kernel, by decide +kernel⟩ (Nat.le_of_ble_eq_true rfl) qw_437 qw_438 qw_439 dX8_pass_17 rfl rfl) <| z_cons (ok_istore_n (Nat.le_of_ble_eq_true rfl) dX8_pass_20 rfl rfl) <| z_cons (ok_aload_n dX8_pass_21 rfl rfl) <| z_cons (ok_getr (k := 4) ⟨by decide, by decide, by decide⟩ (ci := 6) (T := TX8) rfl rfl (Nat.le_of_ble_eq_true rfl) iw_X8 qw_403 gr_9_4 (fun _ _ => by simp) (fun w i => List.mem_of_getElem? (i := 4) rfl) dX8_pass_22 rfl rfl) <| z_cons (ok_bipush (by decide) dX8_pass_25 rfl rfl) <| z_cons (ok_dup2 dX8_pass_27 rfl rfl) <| z_cons (ok_iald dX8_pass_28 rfl rfl) <| z_cons (ok_iload_n dX8_pass_29 rfl rfl) <| z_cons (ok_callS (k := 274) (n := 1) qw_25 qw_26 ⟨by decide +kernel, by decide +kernel, by decide +kernel⟩ (Nat.le_of_ble_eq_true rfl) qw_440 qw_27 dX8_pass_30 rfl rfl) <| z_cons (ok_iadd dX8_pass_33 rfl rfl) <| z_cons (ok_iast dX8_pass_34 rfl rfl) <| z_cons (ok_iconst (by decide) dX8_pass_35 rfl rfl) <| z_cons (ok_istore_n (Nat.le_of_ble_eq_true rfl) dX8_pass_36 rfl rfl) <| z_cons (ok_iload_n dX8_pass_37 rfl rfl) <| z_cons (ok_iconst (by decide) dX8_pass_38 rfl rfl) <| z_cons (ok_icmp_ge (tgt := 63) (by decide) rfl dX8_pass_39 rfl rfl) <| z_cons (ok_iload_n dX8_pass_42 rfl rfl) <| z_cons (ok_iload_n dX8_pass_43 rfl rfl) <| z_cons (ok_ishr dX8_pass_44 rfl rfl) <| z_cons (ok_iconst (by decide) dX8_pass_45 rfl rfl) <| z_cons (ok_iand dX8_pass_46 rfl rfl) <| z_cons (ok_iconst (by decide) dX8_pass_47 rfl rfl) <| z_cons (ok_icmp_ne (tgt := 57) (by decide) rfl dX8_pass_48 rfl rfl) <| z_cons (ok_aload_n dX8_pass_51 rfl rfl) <| z_cons (ok_iload_n dX8_pass_52 rfl rfl) <| z_cons (ok_iload_n dX8_pass_53 rfl rfl) <| z_cons (ok_callS (k := 42) (n := 3) qw_441 qw_156 ⟨by decide +kernel, by decide +kernel, by decide +kernel⟩ (Nat.le_of_ble_eq_true rfl) qw_443 qw_442 dX8_pass_54 rfl rfl) <| z_cons (ok_iinc (by decide) (Nat.le_of_ble_eq_true rfl) dX8_pass_57 rfl rfl) <| z_cons (ok_goto (tgt := 37) (by decide) rfl dX8_pass_60 rfl) <| zl_X8_pass_1
theorem dX8_selectBy_0 : decode cX8_selectBy 0 = .ok (.aload_n 0, 1) := by decide +kernel
theorem dX8_selectBy_1 : decode cX8_selectBy 1 = .ok (.iload_n 1, 1) := by decide +kernel
theorem dX8_selectBy_2 : decode cX8_selectBy 2 = .ok (.invokevirtual 95, 3) := by decide +kernel
theorem dX8_selectBy_5 : decode cX8_selectBy 5 = .ok (.astore 7, 2) := by decide +kernel
theorem dX8_selectBy_7 : decode cX8_selectBy 7 = .ok (.iload_n 2, 1) := by decide +kernel
theorem dX8_selectBy_8 : decode cX8_selectBy 8 = .ok (.ifCond .lt 34, 3) := by decide +kernel
theorem dX8_selectBy_11 : decode cX8_selectBy 11 = .ok (.iload_n 2, 1) := by decide +kernel
theorem dX8_selectBy_12 : decode cX8_selectBy 12 = .ok (.iconst 5, 1) := by decide +kernel
theorem dX8_selectBy_13 : decode cX8_selectBy 13 = .ok (.if_icmp .ge 29, 3) := by decide +kernel
theorem dX8_selectBy_16 : decode cX8_selectBy 16 = .ok (.iload_n 3, 1) := by decide +kernel
theorem dX8_selectBy_17 : decode cX8_selectBy 17 = .ok (.ifCond .lt 25, 3) := by decide +kernel
theorem dX8_selectBy_20 : decode cX8_selectBy 20 = .ok (.iload_n 3, 1) := by decide +kernel
theorem dX8_selectBy_21 : decode cX8_selectBy 21 = .ok (.getstatic 168, 3) := by decide +kernel
theorem dX8_selectBy_24 : decode cX8_selectBy 24 = .ok (.arraylength, 1) := by decide +kernel
theorem dX8_selectBy_25 : decode cX8_selectBy 25 = .ok (.if_icmp .ge 17, 3) := by decide +kernel
theorem dX8_selectBy_28 : decode cX8_selectBy 28 = .ok (.iload 4, 2) := by decide +kernel
theorem dX8_selectBy_30 : decode cX8_selectBy 30 = .ok (.iload 5, 2) := by decide +kernel
theorem dX8_selectBy_32 : decode cX8_selectBy 32 = .ok (.invokestatic 171, 3) := by decide +kernel
theorem dX8_selectBy_35 : decode cX8_selectBy 35 = .ok (.ifCond .eq 7, 3) := by decide +kernel
theorem dX8_selectBy_38 : decode cX8_selectBy 38 = .ok (.iconst 1, 1) := by decide +kernel
theorem dX8_selectBy_39 : decode cX8_selectBy 39 = .ok (.goto 4, 3) := by decide +kernel
theorem dX8_selectBy_42 : decode cX8_selectBy 42 = .ok (.iconst 0, 1) := by decide +kernel
theorem dX8_selectBy_43 : decode cX8_selectBy 43 = .ok (.istore 8, 2) := by decide +kernel
theorem dX8_selectBy_45 : decode cX8_selectBy 45 = .ok (.aload 7, 2) := by decide +kernel
theorem dX8_selectBy_47 : decode cX8_selectBy 47 = .ok (.ifnull 16, 3) := by decide +kernel
theorem dX8_selectBy_50 : decode cX8_selectBy 50 = .ok (.aload 7, 2) := by decide +kernel
theorem dX8_selectBy_52 : decode cX8_selectBy 52 = .ok (.invokevirtual 175, 3) := by decide +kernel
theorem dX8_selectBy_55 : decode cX8_selectBy 55 = .ok (.ifCond .eq 8, 3) := by decide +kernel
theorem dX8_selectBy_58 : decode cX8_selectBy 58 = .ok (.iload 8, 2) := by decide +kernel
theorem dX8_selectBy_60 : decode cX8_selectBy 60 = .ok (.ifCond .ne 5, 3) := by decide +kernel
theorem dX8_selectBy_63 : decode cX8_selectBy 63 = .ok (.iconst (-1), 1) := by decide +kernel
theorem dX8_selectBy_64 : decode cX8_selectBy 64 = .ok (.ireturn, 1) := by decide +kernel
theorem dX8_selectBy_65 : decode cX8_selectBy 65 = .ok (.iload 6, 2) := by decide +kernel
theorem dX8_selectBy_67 : decode cX8_selectBy 67 = .ok (.iload 5, 2) := by decide +kernel
theorem dX8_selectBy_69 : decode cX8_selectBy 69 = .ok (.invokestatic 178, 3) := by decide +kernel
theorem dX8_selectBy_72 : decode cX8_selectBy 72 = .ok (.istore 9, 2) := by decide +kernel
theorem dX8_selectBy_74 : decode cX8_selectBy 74 = .ok (.iconst 0, 1) := by decide +kernel
theorem dX8_selectBy_75 : decode cX8_selectBy 75 = .ok (.istore 10, 2) := by decide +kernel
theorem dX8_selectBy_77 : decode cX8_selectBy 77 = .ok (.iconst 0, 1) := by decide +kernel
theorem dX8_selectBy_78 : decode cX8_selectBy 78 = .ok (.istore 11, 2) := by decide +kernel
theorem dX8_selectBy_80 : decode cX8_selectBy 80 = .ok (.iload 11, 2) := by decide +kernel
theorem dX8_selectBy_82 : decode cX8_selectBy 82 = .ok (.bipush 24, 2) := by decide +kernel
theorem dX8_selectBy_84 : decode cX8_selectBy 84 = .ok (.if_icmp .ge 105, 3) := by decide +kernel
theorem dX8_selectBy_87 : decode cX8_selectBy 87 = .ok (.aload_n 0, 1) := by decide +kernel
theorem dX8_selectBy_88 : decode cX8_selectBy 88 = .ok (.getfield 11, 3) := by decide +kernel
theorem dX8_selectBy_91 : decode cX8_selectBy 91 = .ok (.iload 11, 2) := by decide +kernel
theorem dX8_selectBy_93 : decode cX8_selectBy 93 = .ok (.aaload, 1) := by decide +kernel
theorem dX8_selectBy_94 : decode cX8_selectBy 94 = .ok (.astore 12, 2) := by decide +kernel
theorem dX8_selectBy_96 : decode cX8_selectBy 96 = .ok (.aload 12, 2) := by decide +kernel
theorem dX8_selectBy_98 : decode cX8_selectBy 98 = .ok (.getfield 47, 3) := by decide +kernel
theorem dX8_selectBy_101 : decode cX8_selectBy 101 = .ok (.ifCond .eq 82, 3) := by decide +kernel
theorem dX8_selectBy_104 : decode cX8_selectBy 104 = .ok (.aload 12, 2) := by decide +kernel
theorem dX8_selectBy_106 : decode cX8_selectBy 106 = .ok (.getfield 86, 3) := by decide +kernel
theorem dX8_selectBy_109 : decode cX8_selectBy 109 = .ok (.iconst (-1), 1) := by decide +kernel
theorem dX8_selectBy_110 : decode cX8_selectBy 110 = .ok (.if_icmp .ne 73, 3) := by decide +kernel
theorem dX8_selectBy_113 : decode cX8_selectBy 113 = .ok (.aload 12, 2) := by decide +kernel
theorem dX8_selectBy_115 : decode cX8_selectBy 115 = .ok (.iload_n 1, 1) := by decide +kernel
theorem dX8_selectBy_116 : decode cX8_selectBy 116 = .ok (.invokevirtual 89, 3) := by decide +kernel
theorem dX8_selectBy_119 : decode cX8_selectBy 119 = .ok (.ifCond .eq 64, 3) := by decide +kernel
theorem dX8_selectBy_122 : decode cX8_selectBy 122 = .ok (.aload 12, 2) := by decide +kernel
theorem dX8_selectBy_124 : decode cX8_selectBy 124 = .ok (.iload 4, 2) := by decide +kernel
theorem dX8_selectBy_126 : decode cX8_selectBy 126 = .ok (.iload 5, 2) := by decide +kernel
theorem dX8_selectBy_128 : decode cX8_selectBy 128 = .ok (.invokevirtual 181, 3) := by decide +kernel
theorem dX8_selectBy_131 : decode cX8_selectBy 131 = .ok (.iload 9, 2) := by decide +kernel
theorem dX8_selectBy_133 : decode cX8_selectBy 133 = .ok (.if_icmp .ne 7, 3) := by decide +kernel
theorem dX8_selectBy_136 : decode cX8_selectBy 136 = .ok (.iconst 1, 1) := by decide +kernel
theorem dX8_selectBy_137 : decode cX8_selectBy 137 = .ok (.goto 4, 3) := by decide +kernel
theorem dX8_selectBy_140 : decode cX8_selectBy 140 = .ok (.iconst 0, 1) := by decide +kernel
theorem dX8_selectBy_141 : decode cX8_selectBy 141 = .ok (.istore 13, 2) := by decide +kernel
theorem dX8_selectBy_143 : decode cX8_selectBy 143 = .ok (.iload 10, 2) := by decide +kernel
theorem dX8_selectBy_145 : decode cX8_selectBy 145 = .ok (.iload 13, 2) := by decide +kernel
theorem dX8_selectBy_147 : decode cX8_selectBy 147 = .ok (.ifCond .eq 7, 3) := by decide +kernel
theorem dX8_selectBy_150 : decode cX8_selectBy 150 = .ok (.iconst 1, 1) := by decide +kernel
theorem dX8_selectBy_151 : decode cX8_selectBy 151 = .ok (.goto 4, 3) := by decide +kernel
theorem dX8_selectBy_154 : decode cX8_selectBy 154 = .ok (.iconst 0, 1) := by decide +kernel
theorem dX8_selectBy_155 : decode cX8_selectBy 155 = .ok (.iadd, 1) := by decide +kernel
theorem dX8_selectBy_156 : decode cX8_selectBy 156 = .ok (.istore 10, 2) := by decide +kernel
theorem dX8_selectBy_158 : decode cX8_selectBy 158 = .ok (.aload_n 0, 1) := by decide +kernel
theorem dX8_selectBy_159 : decode cX8_selectBy 159 = .ok (.aload 12, 2) := by decide +kernel
theorem dX8_selectBy_161 : decode cX8_selectBy 161 = .ok (.iload_n 2, 1) := by decide +kernel
theorem dX8_selectBy_162 : decode cX8_selectBy 162 = .ok (.iload 13, 2) := by decide +kernel
theorem dX8_selectBy_164 : decode cX8_selectBy 164 = .ok (.ifCond .eq 11, 3) := by decide +kernel
theorem dX8_selectBy_167 : decode cX8_selectBy 167 = .ok (.getstatic 168, 3) := by decide +kernel
theorem dX8_selectBy_170 : decode cX8_selectBy 170 = .ok (.iload_n 3, 1) := by decide +kernel
theorem dX8_selectBy_171 : decode cX8_selectBy 171 = .ok (.iaload, 1) := by decide +kernel
theorem dX8_selectBy_172 : decode cX8_selectBy 172 = .ok (.goto 8, 3) := by decide +kernel
theorem dX8_selectBy_175 : decode cX8_selectBy 175 = .ok (.getstatic 184, 3) := by decide +kernel
theorem dX8_selectBy_178 : decode cX8_selectBy 178 = .ok (.iload_n 3, 1) := by decide +kernel
theorem dX8_selectBy_179 : decode cX8_selectBy 179 = .ok (.iaload, 1) := by decide +kernel
theorem dX8_selectBy_180 : decode cX8_selectBy 180 = .ok (.invokevirtual 187, 3) := by decide +kernel
theorem dX8_selectBy_183 : decode cX8_selectBy 183 = .ok (.iinc 11 1, 3) := by decide +kernel
theorem dX8_selectBy_186 : decode cX8_selectBy 186 = .ok (.goto (-106), 3) := by decide +kernel
theorem dX8_selectBy_189 : decode cX8_selectBy 189 = .ok (.aload_n 0, 1) := by decide +kernel
theorem dX8_selectBy_190 : decode cX8_selectBy 190 = .ok (.getfield 30, 3) := by decide +kernel
theorem dX8_selectBy_193 : decode cX8_selectBy 193 = .ok (.bipush 10, 2) := by decide +kernel
theorem dX8_selectBy_195 : decode cX8_selectBy 195 = .ok (.dup2, 1) := by decide +kernel
theorem dX8_selectBy_196 : decode cX8_selectBy 196 = .ok (.iaload, 1) := by decide +kernel
theorem dX8_selectBy_197 : decode cX8_selectBy 197 = .ok (.iconst 1, 1) := by decide +kernel
theorem dX8_selectBy_198 : decode cX8_selectBy 198 = .ok (.iadd, 1) := by decide +kernel
theorem dX8_selectBy_199 : decode cX8_selectBy 199 = .ok (.iastore, 1) := by decide +kernel
theorem dX8_selectBy_200 : decode cX8_selectBy 200 = .ok (.aload_n 0, 1) := by decide +kernel
theorem dX8_selectBy_201 : decode cX8_selectBy 201 = .ok (.iload_n 1, 1) := by decide +kernel
theorem dX8_selectBy_202 : decode cX8_selectBy 202 = .ok (.bipush 6, 2) := by decide +kernel
theorem dX8_selectBy_204 : decode cX8_selectBy 204 = .ok (.iload 10, 2) := by decide +kernel
theorem dX8_selectBy_206 : decode cX8_selectBy 206 = .ok (.invokevirtual 191, 3) := by decide +kernel
theorem dX8_selectBy_209 : decode cX8_selectBy 209 = .ok (.iload 10, 2) := by decide +kernel
theorem dX8_selectBy_211 : decode cX8_selectBy 211 = .ok (.ireturn, 1) := by decide +kernel
set_option maxRecDepth 20000 in
theorem zl_X8_selectBy_2 : z_All z_tab cX8_selectBy 14 (some .int) RX8 pc_X8_selectBy 80 (k_X8_selectBy.drop 80) := z_cons (ok_iload dX8_selectBy_162 rfl rfl) <| z_cons (ok_if_eq (tgt := 175) (by decide) rfl dX8_selectBy_164 rfl rfl) <| z_cons (ok_gets (Or.inl ⟨rfl, rfl⟩) qw_448 dX8_selectBy_167 rfl rfl) <| z_cons (ok_iload_n dX8_selectBy_170 rfl rfl) <| z_cons (ok_iald dX8_selectBy_171 rfl rfl) <| z_cons (ok_goto (tgt := 180) (by decide) rfl dX8_selectBy_172 rfl) <| z_cons (ok_gets (Or.inr ⟨rfl, rfl⟩) qw_455 dX8_selectBy_175 rfl rfl) <| z_cons (ok_iload_n dX8_selectBy_178 rfl rfl) <| z_cons (ok_iald dX8_selectBy_179 rfl rfl) <| z_cons (ok_callv ⟨by decide, by decide, by decide⟩ (ci := 6) (C := RX8) (T := TX8) rfl go_9 (k := 107) (n := 3) qw_456 qw_124 ⟨by decide +kernel, by decide +kernel, by decide +kernel⟩ (Nat.le_of_ble_eq_true rfl) qw_457 qw_458 qw_459 dX8_selectBy_180 rfl rfl) <| z_cons (ok_iinc (by decide) (Nat.le_of_ble_eq_true rfl) dX8_selectBy_183 rfl rfl) <| z_cons (ok_goto (tgt := 80) (by decide) rfl dX8_selectBy_186 rfl) <| z_cons (ok_aload_n dX8_selectBy_189 rfl rfl) <| z_cons (ok_getr (k := 4) ⟨by decide, by decide, by decide⟩ (ci := 6) (T := TX8) rfl rfl (Nat.le_of_ble_eq_true rfl) iw_X8 qw_403 gr_9_4 (fun _ _ => by simp) (fun w i => List.mem_of_getElem? (i := 4) rfl) dX8_selectBy_190 rfl rfl) <| z_cons (ok_bipush (by decide) dX8_selectBy_193 rfl rfl) <| z_cons (ok_dup2 dX8_selectBy_195 rfl rfl) <| z_cons (ok_iald dX8_selectBy_196 rfl rfl) <| z_cons (ok_iconst (by decide) dX8_selectBy_197 rfl rfl) <| z_cons (ok_iadd dX8_selectBy_198 rfl rfl) <| z_cons (ok_iast dX8_selectBy_199 rfl rfl) <| z_cons (ok_aload_n dX8_selectBy_200 rfl rfl) <| z_cons (ok_iload_n dX8_selectBy_201 rfl rfl) <| z_cons (ok_bipush (by decide) dX8_selectBy_202 rfl rfl) <| z_cons (ok_iload dX8_selectBy_204 rfl rfl) <| z_cons (ok_callv ⟨by decide, by decide, by decide⟩ (ci := 6) (C := RX8) (T := TX8) rfl go_9 (k := 93) (n := 3) qw_143 qw_124 ⟨by decide +kernel, by decide +kernel, by decide +kernel⟩ (Nat.le_of_ble_eq_true rfl) qw_460 qw_145 qw_146 dX8_selectBy_206 rfl rfl) <| z_cons (ok_iload dX8_selectBy_209 rfl rfl) <| z_cons (ok_iret rfl dX8_selectBy_211 rfl) <| z_nil
set_option maxRecDepth 20000 in
theorem zl_X8_selectBy_1 : z_All z_tab cX8_selectBy 14 (some .int) RX8 pc_X8_selectBy 40 (k_X8_selectBy.drop 40) := z_cons (ok_iload dX8_selectBy_80 rfl rfl) <| z_cons (ok_bipush (by decide) dX8_selectBy_82 rfl rfl) <| z_cons (ok_icmp_ge (tgt := 189) (by decide) rfl dX8_selectBy_84 rfl rfl) <| z_cons (ok_aload_n dX8_selectBy_87 rfl rfl) <| z_cons (ok_getr (k := 1) ⟨by decide, by decide, by decide⟩ (ci := 6) (T := TX8) rfl rfl (Nat.le_of_ble_eq_true rfl) iw_X8 qw_372 gr_9_1 (fun _ _ => by simp) (fun w i => List.mem_of_getElem? (i := 1) rfl) dX8_selectBy_88 rfl rfl) <| z_cons (ok_iload dX8_selectBy_91 rfl rfl) <| z_cons (ok_aald dX8_selectBy_93 rfl rfl) <| z_cons (ok_astore (Nat.le_of_ble_eq_true rfl) dX8_selectBy_94 rfl rfl) <| z_cons (ok_aload dX8_selectBy_96 rfl rfl) <| z_cons (ok_get ⟨by decide, by decide, by decide⟩ (ci := 4) (T := TX6) rfl rfl (Nat.le_of_ble_eq_true rfl) iw_X6 qw_373 gv_7_0 dX8_selectBy_98 rfl rfl) <| z_cons (ok_if_eq (tgt := 183) (by decide) rfl dX8_selectBy_101 rfl rfl) <| z_cons (ok_aload dX8_selectBy_104 rfl rfl) <| z_cons (ok_get ⟨by decide, by decide, by decide⟩ (ci := 4) (T := TX6) rfl rfl (Nat.le_of_ble_eq_true rfl) iw_X6 qw_400 gv_7_4 dX8_selectBy_106 rfl rfl) <| z_cons (ok_iconst (by decide) dX8_selectBy_109 rfl rfl) <| z_cons (ok_icmp_ne (tgt := 183) (by decide) rfl dX8_selectBy_110 rfl rfl) <| z_cons (ok_aload dX8_selectBy_113 rfl rfl) <| z_cons (ok_iload_n dX8_selectBy_115 rfl rfl) <| z_cons (ok_callv ⟨by decide, by decide, by decide⟩ (ci := 4) (C := RX6) (T := TX6) rfl go_7 (k := 82) (n := 1) qw_313 qw_203 ⟨by decide +kernel, by decide +kernel, by decide +kernel⟩ (Nat.le_of_ble_eq_true rfl) qw_401 qw_315 qw_316 dX8_selectBy_116 rfl rfl) <| z_cons (ok_if_eq (tgt := 183) (by decide) rfl dX8_selectBy_119 rfl rfl) <| z_cons (ok_aload dX8_selectBy_122 rfl rfl) <| z_cons (ok_iload dX8_selectBy_124 rfl rfl) <| z_cons (ok_iload dX8_selectBy_126 rfl rfl) <| z_cons (ok_callv ⟨by decide, by decide, by decide⟩ (ci := 4) (C := RX6) (T := TX6) rfl go_7 (k := 80) (n := 2) qw_323 qw_203 ⟨by decide +kernel, by decide +kernel, by decide +kernel⟩ (Nat.le_of_ble_eq_true rfl) qw_454 qw_325 qw_326 dX8_selectBy_128 rfl rfl) <| z_cons (ok_iload dX8_selectBy_131 rfl rfl) <| z_cons (ok_icmp_ne (tgt := 140) (by decide) rfl dX8_selectBy_133 rfl rfl) <| z_cons (ok_iconst (by decide) dX8_selectBy_136 rfl rfl) <| z_cons (ok_goto (tgt := 141) (by decide) rfl dX8_selectBy_137 rfl) <| z_cons (ok_iconst (by decide) dX8_selectBy_140 rfl rfl) <| z_cons (ok_istore (Nat.le_of_ble_eq_true rfl) dX8_selectBy_141 rfl rfl) <| z_cons (ok_iload dX8_selectBy_143 rfl rfl) <| z_cons (ok_iload dX8_selectBy_145 rfl rfl) <| z_cons (ok_if_eq (tgt := 154) (by decide) rfl dX8_selectBy_147 rfl rfl) <| z_cons (ok_iconst (by decide) dX8_selectBy_150 rfl rfl) <| z_cons (ok_goto (tgt := 155) (by decide) rfl dX8_selectBy_151 rfl) <| z_cons (ok_iconst (by decide) dX8_selectBy_154 rfl rfl) <| z_cons (ok_iadd dX8_selectBy_155 rfl rfl) <| z_cons (ok_istore (Nat.le_of_ble_eq_true rfl) dX8_selectBy_156 rfl rfl) <| z_cons (ok_aload_n dX8_selectBy_158 rfl rfl) <| z_cons (ok_aload dX8_selectBy_159 rfl rfl) <| z_cons (ok_iload_n dX8_selectBy_161 rfl rfl) <| zl_X8_selectBy_2
set_option maxRecDepth 20000 in
theorem zl_X8_selectBy_0 : z_All z_tab cX8_selectBy 14 (some .int) RX8 pc_X8_selectBy 0 (k_X8_selectBy.drop 0) := z_cons (ok_aload_n dX8_selectBy_0 rfl rfl) <| z_cons (ok_iload_n dX8_selectBy_1 rfl rfl) <| z_cons (ok_callv ⟨by decide, by decide, by decide⟩ (ci := 6) (C := RX8) (T := TX8) rfl go_9 (k := 92) (n := 1) qw_123 qw_124 ⟨by decide +kernel, by decide +kernel, by decide +kernel⟩ (Nat.le_of_ble_eq_true rfl) qw_404 qw_126 qw_127 dX8_selectBy_2 rfl rfl) <| z_cons (ok_astore (Nat.le_of_ble_eq_true rfl) dX8_selectBy_5 rfl rfl) <| z_cons (ok_iload_n dX8_selectBy_7 rfl rfl) <| z_cons (ok_if_lt (tgt := 42) (by decide) rfl dX8_selectBy_8 rfl rfl) <| z_cons (ok_iload_n dX8_selectBy_11 rfl rfl) <| z_cons (ok_iconst (by decide) dX8_selectBy_12 rfl rfl) <| z_cons (ok_icmp_ge (tgt := 42) (by decide) rfl dX8_selectBy_13 rfl rfl) <| z_cons (ok_iload_n dX8_selectBy_16 rfl rfl) <| z_cons (ok_if_lt (tgt := 42) (by decide) rfl dX8_selectBy_17 rfl rfl) <| z_cons (ok_iload_n dX8_selectBy_20 rfl rfl) <| z_cons (ok_gets (Or.inl ⟨rfl, rfl⟩) qw_448 dX8_selectBy_21 rfl rfl) <| z_cons (ok_alens dX8_selectBy_24 rfl rfl) <| z_cons (ok_icmp_ge (tgt := 42) (by decide) rfl dX8_selectBy_25 rfl rfl) <| z_cons (ok_iload dX8_selectBy_28 rfl rfl) <| z_cons (ok_iload dX8_selectBy_30 rfl rfl) <| z_cons (ok_callN (k := 158) (n := 2) qw_449 qw_22 ⟨by decide +kernel, by decide +kernel, by decide +kernel⟩ (Nat.le_of_ble_eq_true rfl) (host := "TagReaders") (by decide +kernel) qw_450 dX8_selectBy_32 rfl rfl) <| z_cons (ok_if_eq (tgt := 42) (by decide) rfl dX8_selectBy_35 rfl rfl) <| z_cons (ok_iconst (by decide) dX8_selectBy_38 rfl rfl) <| z_cons (ok_goto (tgt := 43) (by decide) rfl dX8_selectBy_39 rfl) <| z_cons (ok_iconst (by decide) dX8_selectBy_42 rfl rfl) <| z_cons (ok_istore (Nat.le_of_ble_eq_true rfl) dX8_selectBy_43 rfl rfl) <| z_cons (ok_aload dX8_selectBy_45 rfl rfl) <| z_cons (ok_ifnull (tgt := 63) (by decide) rfl dX8_selectBy_47 rfl rfl) <| z_cons (ok_aload dX8_selectBy_50 rfl rfl) <| z_cons (ok_callv ⟨by decide, by decide, by decide⟩ (ci := 3) (C := RX3) (T := TX3) rfl go_4 (k := 28) (n := 0) qw_132 qw_103 ⟨by decide +kernel, by decide +kernel, by decide +kernel⟩ (Nat.le_of_ble_eq_true rfl) qw_451 qw_134 qw_135 dX8_selectBy_52 rfl rfl) <| z_cons (ok_if_eq (tgt := 63) (by decide) rfl dX8_selectBy_55 rfl rfl) <| z_cons (ok_iload dX8_selectBy_58 rfl rfl) <| z_cons (ok_if_ne (tgt := 65) (by decide) rfl dX8_selectBy_60 rfl rfl) <| z_cons (ok_iconst (by decide) dX8_selectBy_63 rfl rfl) <| z_cons (ok_iret rfl dX8_selectBy_64 rfl) <| z_cons (ok_iload dX8_selectBy_65 rfl rfl) <| z_cons (ok_iload dX8_selectBy_67 rfl rfl) <| z_cons (ok_callN (k := 160) (n := 2) qw_452 qw_22 ⟨by decide +kernel, by decide +kernel, by decide +kernel⟩ (Nat.le_of_ble_eq_true rfl) (host := "TagReaders") (by decide +kernel) qw_453 dX8_selectBy_69 rfl rfl) <| z_cons (ok_istore (Nat.le_of_ble_eq_true rfl) dX8_selectBy_72 rfl rfl) <| z_cons (ok_iconst (by decide) dX8_selectBy_74 rfl rfl) <| z_cons (ok_istore (Nat.le_of_ble_eq_true rfl) dX8_selectBy_75 rfl rfl) <| z_cons (ok_iconst (by decide) dX8_selectBy_77 rfl rfl) <| z_cons (ok_istore (Nat.le_of_ble_eq_true rfl) dX8_selectBy_78 rfl rfl) <| zl_X8_selectBy_1
theorem dX8_change_0 : decode cX8_change 0 = .ok (.iload_n 3, 1) := by decide +kernel
theorem dX8_change_1 : decode cX8_change 1 = .ok (.iconst 3, 1) := by decide +kernel
theorem dX8_change_2 : decode cX8_change 2 = .ok (.if_icmp .ne 22, 3) := by decide +kernel
theorem dX8_change_5 : decode cX8_change 5 = .ok (.aload_n 1, 1) := by decide +kernel
theorem dX8_change_6 : decode cX8_change 6 = .ok (.iload_n 2, 1) := by decide +kernel
theorem dX8_change_7 : decode cX8_change 7 = .ok (.iconst 1, 1) := by decide +kernel
theorem dX8_change_8 : decode cX8_change 8 = .ok (.aload_n 1, 1) := by decide +kernel
theorem dX8_change_9 : decode cX8_change 9 = .ok (.iload_n 2, 1) := by decide +kernel
theorem dX8_change_10 : decode cX8_change 10 = .ok (.invokevirtual 118, 3) := by decide +kernel
theorem dX8_change_13 : decode cX8_change 13 = .ok (.isub, 1) := by decide +kernel
theorem dX8_change_14 : decode cX8_change 14 = .ok (.aload_n 0, 1) := by decide +kernel
theorem dX8_change_15 : decode cX8_change 15 = .ok (.getfield 51, 3) := by decide +kernel
theorem dX8_change_18 : decode cX8_change 18 = .ok (.invokevirtual 126, 3) := by decide +kernel
theorem dX8_change_21 : decode cX8_change 21 = .ok (.goto 44, 3) := by decide +kernel
theorem dX8_change_24 : decode cX8_change 24 = .ok (.iload_n 3, 1) := by decide +kernel
theorem dX8_change_25 : decode cX8_change 25 = .ok (.ifCond .eq 40, 3) := by decide +kernel
theorem dX8_change_28 : decode cX8_change 28 = .ok (.aload_n 1, 1) := by decide +kernel
theorem dX8_change_29 : decode cX8_change 29 = .ok (.iload_n 2, 1) := by decide +kernel
theorem dX8_change_30 : decode cX8_change 30 = .ok (.iload_n 3, 1) := by decide +kernel
theorem dX8_change_31 : decode cX8_change 31 = .ok (.iconst 1, 1) := by decide +kernel
theorem dX8_change_32 : decode cX8_change 32 = .ok (.if_icmp .ne 7, 3) := by decide +kernel
theorem dX8_change_35 : decode cX8_change 35 = .ok (.iconst 1, 1) := by decide +kernel
theorem dX8_change_36 : decode cX8_change 36 = .ok (.goto 4, 3) := by decide +kernel
theorem dX8_change_39 : decode cX8_change 39 = .ok (.iconst 0, 1) := by decide +kernel
theorem dX8_change_40 : decode cX8_change 40 = .ok (.iload_n 2, 1) := by decide +kernel
theorem dX8_change_41 : decode cX8_change 41 = .ok (.iconst 4, 1) := by decide +kernel
theorem dX8_change_42 : decode cX8_change 42 = .ok (.if_icmp .ne 7, 3) := by decide +kernel
theorem dX8_change_45 : decode cX8_change 45 = .ok (.iconst 1, 1) := by decide +kernel
theorem dX8_change_46 : decode cX8_change 46 = .ok (.goto 4, 3) := by decide +kernel
theorem dX8_change_49 : decode cX8_change 49 = .ok (.iconst 0, 1) := by decide +kernel
theorem dX8_change_50 : decode cX8_change 50 = .ok (.if_icmp .ne 7, 3) := by decide +kernel
theorem dX8_change_53 : decode cX8_change 53 = .ok (.iconst 1, 1) := by decide +kernel
theorem dX8_change_54 : decode cX8_change 54 = .ok (.goto 4, 3) := by decide +kernel
theorem dX8_change_57 : decode cX8_change 57 = .ok (.iconst 0, 1) := by decide +kernel
theorem dX8_change_58 : decode cX8_change 58 = .ok (.aload_n 0, 1) := by decide +kernel
theorem dX8_change_59 : decode cX8_change 59 = .ok (.getfield 51, 3) := by decide +kernel
theorem dX8_change_62 : decode cX8_change 62 = .ok (.invokevirtual 126, 3) := by decide +kernel
theorem dX8_change_65 : decode cX8_change 65 = .ok (.return_, 1) := by decide +kernel
set_option maxRecDepth 20000 in
theorem zl_X8_change_0 : z_All z_tab cX8_change 4 none RX8 pc_X8_change 0 (k_X8_change.drop 0) := z_cons (ok_iload_n dX8_change_0 rfl rfl) <| z_cons (ok_iconst (by decide) dX8_change_1 rfl rfl) <| z_cons (ok_icmp_ne (tgt := 24) (by decide) rfl dX8_change_2 rfl rfl) <| z_cons (ok_aload_n dX8_change_5 rfl rfl) <| z_cons (ok_iload_n dX8_change_6 rfl rfl) <| z_cons (ok_iconst (by decide) dX8_change_7 rfl rfl) <| z_cons (ok_aload_n dX8_change_8 rfl rfl) <| z_cons (ok_iload_n dX8_change_9 rfl rfl) <| z_cons (ok_callv ⟨by decide, by decide, by decide⟩ (ci := 4) (C := RX6) (T := TX6) rfl go_7 (k := 81) (n := 1) qw_225 qw_203 ⟨by decide +kernel, by decide +kernel, by decide +kernel⟩ (Nat.le_of_ble_eq_true rfl) qw_415 qw_227 qw_228 dX8_change_10 rfl rfl) <| z_cons (ok_isub dX8_change_13 rfl rfl) <| z_cons (ok_aload_n dX8_change_14 rfl rfl) <| z_cons (ok_get ⟨by decide, by decide, by decide⟩ (ci := 6) (T := TX8) rfl rfl (Nat.le_of_ble_eq_true rfl) iw_X8 qw_376 gv_9_5 dX8_change_15 rfl rfl) <| z_cons (ok_callv ⟨by decide, by decide, by decide⟩ (ci := 4) (C := RX6) (T := TX6) rfl go_7 (k := 84) (n := 3) qw_230 qw_203 ⟨by decide +kernel, by decide +kernel, by decide +kernel⟩ (Nat.le_of_ble_eq_true rfl) qw_420 qw_232 qw_233 dX8_change_18 rfl rfl) <| z_cons (ok_goto (tgt := 65) (by decide) rfl dX8_change_21 rfl) <| z_cons (ok_iload_n dX8_change_24 rfl rfl) <| z_cons (ok_if_eq (tgt := 65) (by decide) rfl dX8_change_25 rfl rfl) <| z_cons (ok_aload_n dX8_change_28 rfl rfl) <| z_cons (ok_iload_n dX8_change_29 rfl rfl) <| z_cons (ok_iload_n dX8_change_30 rfl rfl) <| z_cons (ok_iconst (by decide) dX8_change_31 rfl rfl) <| z_cons (ok_icmp_ne (tgt := 39) (by decide) rfl dX8_change_32 rfl rfl) <| z_cons (ok_iconst (by decide) dX8_change_35 rfl rfl) <| z_cons (ok_goto (tgt := 40) (by decide) rfl dX8_change_36 rfl) <| z_cons (ok_iconst (by decide) dX8_change_39 rfl rfl) <| z_cons (ok_iload_n dX8_change_40 rfl rfl) <| z_cons (ok_iconst (by decide) dX8_change_41 rfl rfl) <| z_cons (ok_icmp_ne (tgt := 49) (by decide) rfl dX8_change_42 rfl rfl) <| z_cons (ok_iconst (by decide) dX8_change_45 rfl rfl) <| z_cons (ok_goto (tgt := 50) (by decide) rfl dX8_change_46 rfl) <| z_cons (ok_iconst (by decide) dX8_change_49 rfl rfl) <| z_cons (ok_icmp_ne (tgt := 57) (by decide) rfl dX8_change_50 rfl rfl) <| z_cons (ok_iconst (by decide) dX8_change_53 rfl rfl) <| z_cons (ok_goto (tgt := 58) (by decide) rfl dX8_change_54 rfl) <| z_cons (ok_iconst (by decide) dX8_change_57 rfl rfl) <| z_cons (ok_aload_n dX8_change_58 rfl rfl) <| z_cons (ok_get ⟨by decide, by decide, by decide⟩ (ci := 6) (T := TX8) rfl rfl (Nat.le_of_ble_eq_true rfl) iw_X8 qw_376 gv_9_5 dX8_change_59 rfl rfl) <| z_cons (ok_callv ⟨by decide, by decide, by decide⟩ (ci := 4) (C := RX6) (T := TX6) rfl go_7 (k := 84) (n := 3) qw_230 qw_203 ⟨by decide +kernel, by decide +kernel, by decide +kernel⟩ (Nat.le_of_ble_eq_true rfl) qw_420 qw_232 qw_233 dX8_change_62 rfl rfl) <| z_cons (ok_ret rfl dX8_change_65 rfl) <| z_nil
theorem dX8_putBits_0 : decode cX8_putBits 0 = .ok (.aload_n 0, 1) := by decide +kernel
theorem dX8_putBits_1 : decode cX8_putBits 1 = .ok (.iload_n 1, 1) := by decide +kernel
theorem dX8_putBits_2 : decode cX8_putBits 2 = .ok (.invokevirtual 95, 3) := by decide +kernel
theorem dX8_putBits_5 : decode cX8_putBits 5 = .ok (.astore 6, 2) := by decide +kernel
theorem dX8_putBits_7 : decode cX8_putBits 7 = .ok (.aload_n 0, 1) := by decide +kernel
theorem dX8_putBits_8 : decode cX8_putBits 8 = .ok (.iload_n 2, 1) := by decide +kernel
theorem dX8_putBits_9 : decode cX8_putBits 9 = .ok (.invokevirtual 79, 3) := by decide +kernel
theorem dX8_putBits_12 : decode cX8_putBits 12 = .ok (.astore 7, 2) := by decide +kernel
theorem dX8_putBits_14 : decode cX8_putBits 14 = .ok (.aload 6, 2) := by decide +kernel
theorem dX8_putBits_16 : decode cX8_putBits 16 = .ok (.ifnull 25, 3) := by decide +kernel
theorem dX8_putBits_19 : decode cX8_putBits 19 = .ok (.aload 7, 2) := by decide +kernel
theorem dX8_putBits_21 : decode cX8_putBits 21 = .ok (.ifnull 20, 3) := by decide +kernel
theorem dX8_putBits_24 : decode cX8_putBits 24 = .ok (.aload 6, 2) := by decide +kernel
theorem dX8_putBits_26 : decode cX8_putBits 26 = .ok (.invokevirtual 175, 3) := by decide +kernel
theorem dX8_putBits_29 : decode cX8_putBits 29 = .ok (.ifCond .eq 12, 3) := by decide +kernel
theorem dX8_putBits_32 : decode cX8_putBits 32 = .ok (.aload 7, 2) := by decide +kernel
theorem dX8_putBits_34 : decode cX8_putBits 34 = .ok (.iload_n 1, 1) := by decide +kernel
theorem dX8_putBits_35 : decode cX8_putBits 35 = .ok (.invokevirtual 89, 3) := by decide +kernel
theorem dX8_putBits_38 : decode cX8_putBits 38 = .ok (.ifCond .ne 5, 3) := by decide +kernel
theorem dX8_putBits_41 : decode cX8_putBits 41 = .ok (.iconst 0, 1) := by decide +kernel
theorem dX8_putBits_42 : decode cX8_putBits 42 = .ok (.ireturn, 1) := by decide +kernel
theorem dX8_putBits_43 : decode cX8_putBits 43 = .ok (.aload 7, 2) := by decide +kernel
theorem dX8_putBits_45 : decode cX8_putBits 45 = .ok (.getfield 86, 3) := by decide +kernel
theorem dX8_putBits_48 : decode cX8_putBits 48 = .ok (.iconst (-1), 1) := by decide +kernel
theorem dX8_putBits_49 : decode cX8_putBits 49 = .ok (.if_icmp .ne 33, 3) := by decide +kernel
theorem dX8_putBits_52 : decode cX8_putBits 52 = .ok (.aload 7, 2) := by decide +kernel
theorem dX8_putBits_54 : decode cX8_putBits 54 = .ok (.getfield 194, 3) := by decide +kernel
theorem dX8_putBits_57 : decode cX8_putBits 57 = .ok (.iload_n 1, 1) := by decide +kernel
theorem dX8_putBits_58 : decode cX8_putBits 58 = .ok (.if_icmp .ne 24, 3) := by decide +kernel
theorem dX8_putBits_61 : decode cX8_putBits 61 = .ok (.iload_n 3, 1) := by decide +kernel
theorem dX8_putBits_62 : decode cX8_putBits 62 = .ok (.bipush 16, 2) := by decide +kernel
theorem dX8_putBits_64 : decode cX8_putBits 64 = .ok (.if_icmp .lt 18, 3) := by decide +kernel
theorem dX8_putBits_67 : decode cX8_putBits 67 = .ok (.iload 4, 2) := by decide +kernel
theorem dX8_putBits_69 : decode cX8_putBits 69 = .ok (.iconst 1, 1) := by decide +kernel
theorem dX8_putBits_70 : decode cX8_putBits 70 = .ok (.if_icmp .lt 12, 3) := by decide +kernel
theorem dX8_putBits_73 : decode cX8_putBits 73 = .ok (.iload_n 3, 1) := by decide +kernel
theorem dX8_putBits_74 : decode cX8_putBits 74 = .ok (.iload 4, 2) := by decide +kernel
theorem dX8_putBits_76 : decode cX8_putBits 76 = .ok (.invokestatic 171, 3) := by decide +kernel
theorem dX8_putBits_79 : decode cX8_putBits 79 = .ok (.ifCond .ne 5, 3) := by decide +kernel
theorem dX8_putBits_82 : decode cX8_putBits 82 = .ok (.iconst 0, 1) := by decide +kernel
theorem dX8_putBits_83 : decode cX8_putBits 83 = .ok (.ireturn, 1) := by decide +kernel
theorem dX8_putBits_84 : decode cX8_putBits 84 = .ok (.bipush 32, 2) := by decide +kernel
theorem dX8_putBits_86 : decode cX8_putBits 86 = .ok (.iload_n 3, 1) := by decide +kernel
theorem dX8_putBits_87 : decode cX8_putBits 87 = .ok (.isub, 1) := by decide +kernel
theorem dX8_putBits_88 : decode cX8_putBits 88 = .ok (.iload 4, 2) := by decide +kernel
theorem dX8_putBits_90 : decode cX8_putBits 90 = .ok (.isub, 1) := by decide +kernel
theorem dX8_putBits_91 : decode cX8_putBits 91 = .ok (.istore 8, 2) := by decide +kernel
theorem dX8_putBits_93 : decode cX8_putBits 93 = .ok (.iconst (-1), 1) := by decide +kernel
theorem dX8_putBits_94 : decode cX8_putBits 94 = .ok (.iload 4, 2) := by decide +kernel
theorem dX8_putBits_96 : decode cX8_putBits 96 = .ok (.invokestatic 178, 3) := by decide +kernel
theorem dX8_putBits_99 : decode cX8_putBits 99 = .ok (.iload 8, 2) := by decide +kernel
theorem dX8_putBits_101 : decode cX8_putBits 101 = .ok (.ishl, 1) := by decide +kernel
theorem dX8_putBits_102 : decode cX8_putBits 102 = .ok (.istore 9, 2) := by decide +kernel
theorem dX8_putBits_104 : decode cX8_putBits 104 = .ok (.aload 7, 2) := by decide +kernel
theorem dX8_putBits_106 : decode cX8_putBits 106 = .ok (.aload 7, 2) := by decide +kernel
theorem dX8_putBits_108 : decode cX8_putBits 108 = .ok (.getfield 197, 3) := by decide +kernel
theorem dX8_putBits_111 : decode cX8_putBits 111 = .ok (.iload 9, 2) := by decide +kernel
theorem dX8_putBits_113 : decode cX8_putBits 113 = .ok (.iconst (-1), 1) := by decide +kernel
theorem dX8_putBits_114 : decode cX8_putBits 114 = .ok (.ixor, 1) := by decide +kernel
theorem dX8_putBits_115 : decode cX8_putBits 115 = .ok (.iand, 1) := by decide +kernel
theorem dX8_putBits_116 : decode cX8_putBits 116 = .ok (.iload 5, 2) := by decide +kernel
theorem dX8_putBits_118 : decode cX8_putBits 118 = .ok (.iload 8, 2) := by decide +kernel
theorem dX8_putBits_120 : decode cX8_putBits 120 = .ok (.ishl, 1) := by decide +kernel
theorem dX8_putBits_121 : decode cX8_putBits 121 = .ok (.iload 9, 2) := by decide +kernel
theorem dX8_putBits_123 : decode cX8_putBits 123 = .ok (.iand, 1) := by decide +kernel
theorem dX8_putBits_124 : decode cX8_putBits 124 = .ok (.ior, 1) := by decide +kernel
theorem dX8_putBits_125 : decode cX8_putBits 125 = .ok (.putfield 197, 3) := by decide +kernel
theorem dX8_putBits_128 : decode cX8_putBits 128 = .ok (.aload_n 0, 1) := by decide +kernel
theorem dX8_putBits_129 : decode cX8_putBits 129 = .ok (.getfield 30, 3) := by decide +kernel
theorem dX8_putBits_132 : decode cX8_putBits 132 = .ok (.bipush 13, 2) := by decide +kernel
theorem dX8_putBits_134 : decode cX8_putBits 134 = .ok (.dup2, 1) := by decide +kernel
theorem dX8_putBits_135 : decode cX8_putBits 135 = .ok (.iaload, 1) := by decide +kernel
theorem dX8_putBits_136 : decode cX8_putBits 136 = .ok (.iconst 1, 1) := by decide +kernel
theorem dX8_putBits_137 : decode cX8_putBits 137 = .ok (.iadd, 1) := by decide +kernel
theorem dX8_putBits_138 : decode cX8_putBits 138 = .ok (.iastore, 1) := by decide +kernel
theorem dX8_putBits_139 : decode cX8_putBits 139 = .ok (.iconst 1, 1) := by decide +kernel
theorem dX8_putBits_140 : decode cX8_putBits 140 = .ok (.ireturn, 1) := by decide +kernel
set_option maxRecDepth 20000 in
theorem zl_X8_putBits_1 : z_All z_tab cX8_putBits 10 (some .boolean) RX8 pc_X8_putBits 40 (k_X8_putBits.drop 40) := z_cons (ok_zret rfl dX8_putBits_83 rfl) <| z_cons (ok_bipush (by decide) dX8_putBits_84 rfl rfl) <| z_cons (ok_iload_n dX8_putBits_86 rfl rfl) <| z_cons (ok_isub dX8_putBits_87 rfl rfl) <| z_cons (ok_iload dX8_putBits_88 rfl rfl) <| z_cons (ok_isub dX8_putBits_90 rfl rfl) <| z_cons (ok_istore (Nat.le_of_ble_eq_true rfl) dX8_putBits_91 rfl rfl) <| z_cons (ok_iconst (by decide) dX8_putBits_93 rfl rfl) <| z_cons (ok_iload dX8_putBits_94 rfl rfl) <| z_cons (ok_callN (k := 160) (n := 2) qw_452 qw_22 ⟨by decide +kernel, by decide +kernel, by decide +kernel⟩ (Nat.le_of_ble_eq_true rfl) (host := "TagReaders") (by decide +kernel) qw_453 dX8_putBits_96 rfl rfl) <| z_cons (ok_iload dX8_putBits_99 rfl rfl) <| z_cons (ok_ishl dX8_putBits_101 rfl rfl) <| z_cons (ok_istore (Nat.le_of_ble_eq_true rfl) dX8_putBits_102 rfl rfl) <| z_cons (ok_aload dX8_putBits_104 rfl rfl) <| z_cons (ok_aload dX8_putBits_106 rfl rfl) <| z_cons (ok_get ⟨by decide, by decide, by decide⟩ (ci := 4) (T := TX6) rfl rfl (Nat.le_of_ble_eq_true rfl) iw_X6 qw_462 gv_7_1 dX8_putBits_108 rfl rfl) <| z_cons (ok_iload dX8_putBits_111 rfl rfl) <| z_cons (ok_iconst (by decide) dX8_putBits_113 rfl rfl) <| z_cons (ok_ixor dX8_putBits_114 rfl rfl) <| z_cons (ok_iand dX8_putBits_115 rfl rfl) <| z_cons (ok_iload dX8_putBits_116 rfl rfl) <| z_cons (ok_iload dX8_putBits_118 rfl rfl) <| z_cons (ok_ishl dX8_putBits_120 rfl rfl) <| z_cons (ok_iload dX8_putBits_121 rfl rfl) <| z_cons (ok_iand dX8_putBits_123 rfl rfl) <| z_cons (ok_ior dX8_putBits_124 rfl rfl) <| z_cons (ok_put ⟨by decide, by decide, by decide⟩ (ci := 4) (T := TX6) rfl rfl (Nat.le_of_ble_eq_true rfl) iw_X6 qw_462 tyX6_ok nmX6 rfl pv_7_1 rfl dX8_putBits_125 rfl rfl) <| z_cons (ok_aload_n dX8_putBits_128 rfl rfl) <| z_cons (ok_getr (k := 4) ⟨by decide, by decide, by decide⟩ (ci := 6) (T := TX8) rfl rfl (Nat.le_of_ble_eq_true rfl) iw_X8 qw_403 gr_9_4 (fun _ _ => by simp) (fun w i => List.mem_of_getElem? (i := 4) rfl) dX8_putBits_129 rfl rfl) <| z_cons (ok_bipush (by decide) dX8_putBits_132 rfl rfl) <| z_cons (ok_dup2 dX8_putBits_134 rfl rfl) <| z_cons (ok_iald dX8_putBits_135 rfl rfl) <| z_cons (ok_iconst (by decide) dX8_putBits_136 rfl rfl) <| z_cons (ok_iadd dX8_putBits_137 rfl rfl) <| z_cons (ok_iast dX8_putBits_138 rfl rfl) <| z_cons (ok_iconst (by decide) dX8_putBits_139 rfl rfl) <| z_cons (ok_zret rfl dX8_putBits_140 rfl) <| z_nil
set_option maxRecDepth 20000 in
theorem zl_X8_putBits_0 : z_All z_tab cX8_putBits 10 (some .boolean) RX8 pc_X8_putBits 0 (k_X8_putBits.drop 0) := z_cons (ok_aload_n dX8_putBits_0 rfl rfl) <| z_cons (ok_iload_n dX8_putBits_1 rfl rfl) <| z_cons (ok_callv ⟨by decide, by decide, by decide⟩ (ci := 6) (C := RX8) (T := TX8) rfl go_9 (k := 92) (n := 1) qw_123 qw_124 ⟨by decide +kernel, by decide +kernel, by decide +kernel⟩ (Nat.le_of_ble_eq_true rfl) qw_404 qw_126 qw_127 dX8_putBits_2 rfl rfl) <| z_cons (ok_astore (Nat.le_of_ble_eq_true rfl) dX8_putBits_5 rfl rfl) <| z_cons (ok_aload_n dX8_putBits_7 rfl rfl) <| z_cons (ok_iload_n dX8_putBits_8 rfl rfl) <| z_cons (ok_callv ⟨by decide, by decide, by decide⟩ (ci := 6) (C := RX8) (T := TX8) rfl go_9 (k := 91) (n := 1) qw_220 qw_124 ⟨by decide +kernel, by decide +kernel, by decide +kernel⟩ (Nat.le_of_ble_eq_true rfl) qw_398 qw_222 qw_223 dX8_putBits_9 rfl rfl) <| z_cons (ok_astore (Nat.le_of_ble_eq_true rfl) dX8_putBits_12 rfl rfl) <| z_cons (ok_aload dX8_putBits_14 rfl rfl) <| z_cons (ok_ifnull (tgt := 41) (by decide) rfl dX8_putBits_16 rfl rfl) <| z_cons (ok_aload dX8_putBits_19 rfl rfl) <| z_cons (ok_ifnull (tgt := 41) (by decide) rfl dX8_putBits_21 rfl rfl) <| z_cons (ok_aload dX8_putBits_24 rfl rfl) <| z_cons (ok_callv ⟨by decide, by decide, by decide⟩ (ci := 3) (C := RX3) (T := TX3) rfl go_4 (k := 28) (n := 0) qw_132 qw_103 ⟨by decide +kernel, by decide +kernel, by decide +kernel⟩ (Nat.le_of_ble_eq_true rfl) qw_451 qw_134 qw_135 dX8_putBits_26 rfl rfl) <| z_cons (ok_if_eq (tgt := 41) (by decide) rfl dX8_putBits_29 rfl rfl) <| z_cons (ok_aload dX8_putBits_32 rfl rfl) <| z_cons (ok_iload_n dX8_putBits_34 rfl rfl) <| z_cons (ok_callv ⟨by decide, by decide, by decide⟩ (ci := 4) (C := RX6) (T := TX6) rfl go_7 (k := 82) (n := 1) qw_313 qw_203 ⟨by decide +kernel, by decide +kernel, by decide +kernel⟩ (Nat.le_of_ble_eq_true rfl) qw_401 qw_315 qw_316 dX8_putBits_35 rfl rfl) <| z_cons (ok_if_ne (tgt := 43) (by decide) rfl dX8_putBits_38 rfl rfl) <| z_cons (ok_iconst (by decide) dX8_putBits_41 rfl rfl) <| z_cons (ok_zret rfl dX8_putBits_42 rfl) <| z_cons (ok_aload dX8_putBits_43 rfl rfl) <| z_cons (ok_get ⟨by decide, by decide, by decide⟩ (ci := 4) (T := TX6) rfl rfl (Nat.le_of_ble_eq_true rfl) iw_X6 qw_400 gv_7_4 dX8_putBits_45 rfl rfl) <| z_cons (ok_iconst (by decide) dX8_putBits_48 rfl rfl) <| z_cons (ok_icmp_ne (tgt := 82) (by decide) rfl dX8_putBits_49 rfl rfl) <| z_cons (ok_aload dX8_putBits_52 rfl rfl) <| z_cons (ok_get ⟨by decide, by decide, by decide⟩ (ci := 4) (T := TX6) rfl rfl (Nat.le_of_ble_eq_true rfl) iw_X6 qw_461 gv_7_7 dX8_putBits_54 rfl rfl) <| z_cons (ok_iload_n dX8_putBits_57 rfl rfl) <| z_cons (ok_icmp_ne (tgt := 82) (by decide) rfl dX8_putBits_58 rfl rfl) <| z_cons (ok_iload_n dX8_putBits_61 rfl rfl) <| z_cons (ok_bipush (by decide) dX8_putBits_62 rfl rfl) <| z_cons (ok_icmp_lt (tgt := 82) (by decide) rfl dX8_putBits_64 rfl rfl) <| z_cons (ok_iload dX8_putBits_67 rfl rfl) <| z_cons (ok_iconst (by decide) dX8_putBits_69 rfl rfl) <| z_cons (ok_icmp_lt (tgt := 82) (by decide) rfl dX8_putBits_70 rfl rfl) <| z_cons (ok_iload_n dX8_putBits_73 rfl rfl) <| z_cons (ok_iload dX8_putBits_74 rfl rfl) <| z_cons (ok_callN (k := 158) (n := 2) qw_449 qw_22 ⟨by decide +kernel, by decide +kernel, by decide +kernel⟩ (Nat.le_of_ble_eq_true rfl) (host := "TagReaders") (by decide +kernel) qw_450 dX8_putBits_76 rfl rfl) <| z_cons (ok_if_ne (tgt := 84) (by decide) rfl dX8_putBits_79 rfl rfl) <| z_cons (ok_iconst (by decide) dX8_putBits_82 rfl rfl) <| zl_X8_putBits_1
theorem dX8_stockOf_0 : decode cX8_stockOf 0 = .ok (.iload_n 2, 1) := by decide +kernel
theorem dX8_stockOf_1 : decode cX8_stockOf 1 = .ok (.ifCond .lt 21, 3) := by decide +kernel
theorem dX8_stockOf_4 : decode cX8_stockOf 4 = .ok (.iload_n 2, 1) := by decide +kernel
theorem dX8_stockOf_5 : decode cX8_stockOf 5 = .ok (.iconst 4, 1) := by decide +kernel
theorem dX8_stockOf_6 : decode cX8_stockOf 6 = .ok (.if_icmp .ge 16, 3) := by decide +kernel
theorem dX8_stockOf_9 : decode cX8_stockOf 9 = .ok (.iload_n 3, 1) := by decide +kernel
theorem dX8_stockOf_10 : decode cX8_stockOf 10 = .ok (.ifCond .lt 12, 3) := by decide +kernel
theorem dX8_stockOf_13 : decode cX8_stockOf 13 = .ok (.iload_n 3, 1) := by decide +kernel
theorem dX8_stockOf_14 : decode cX8_stockOf 14 = .ok (.iconst 1, 1) := by decide +kernel
theorem dX8_stockOf_15 : decode cX8_stockOf 15 = .ok (.if_icmp .gt 7, 3) := by decide +kernel
theorem dX8_stockOf_18 : decode cX8_stockOf 18 = .ok (.iconst 1, 1) := by decide +kernel
theorem dX8_stockOf_19 : decode cX8_stockOf 19 = .ok (.goto 4, 3) := by decide +kernel
theorem dX8_stockOf_22 : decode cX8_stockOf 22 = .ok (.iconst 0, 1) := by decide +kernel
theorem dX8_stockOf_23 : decode cX8_stockOf 23 = .ok (.istore 5, 2) := by decide +kernel
theorem dX8_stockOf_25 : decode cX8_stockOf 25 = .ok (.aload_n 0, 1) := by decide +kernel
theorem dX8_stockOf_26 : decode cX8_stockOf 26 = .ok (.iload_n 1, 1) := by decide +kernel
theorem dX8_stockOf_27 : decode cX8_stockOf 27 = .ok (.invokevirtual 95, 3) := by decide +kernel
theorem dX8_stockOf_30 : decode cX8_stockOf 30 = .ok (.ifnull 19, 3) := by decide +kernel
theorem dX8_stockOf_33 : decode cX8_stockOf 33 = .ok (.iload 5, 2) := by decide +kernel
theorem dX8_stockOf_35 : decode cX8_stockOf 35 = .ok (.ifCond .eq 14, 3) := by decide +kernel
theorem dX8_stockOf_38 : decode cX8_stockOf 38 = .ok (.iload 4, 2) := by decide +kernel
theorem dX8_stockOf_40 : decode cX8_stockOf 40 = .ok (.ifCond .lt 9, 3) := by decide +kernel
theorem dX8_stockOf_43 : decode cX8_stockOf 43 = .ok (.iload 4, 2) := by decide +kernel
theorem dX8_stockOf_45 : decode cX8_stockOf 45 = .ok (.iconst 2, 1) := by decide +kernel
theorem dX8_stockOf_46 : decode cX8_stockOf 46 = .ok (.if_icmp .le 5, 3) := by decide +kernel
theorem dX8_stockOf_49 : decode cX8_stockOf 49 = .ok (.iconst (-1), 1) := by decide +kernel
theorem dX8_stockOf_50 : decode cX8_stockOf 50 = .ok (.ireturn, 1) := by decide +kernel
theorem dX8_stockOf_51 : decode cX8_stockOf 51 = .ok (.iconst 0, 1) := by decide +kernel
theorem dX8_stockOf_52 : decode cX8_stockOf 52 = .ok (.istore 6, 2) := by decide +kernel
theorem dX8_stockOf_54 : decode cX8_stockOf 54 = .ok (.iconst 0, 1) := by decide +kernel
theorem dX8_stockOf_55 : decode cX8_stockOf 55 = .ok (.istore 7, 2) := by decide +kernel
theorem dX8_stockOf_57 : decode cX8_stockOf 57 = .ok (.iload 7, 2) := by decide +kernel
theorem dX8_stockOf_59 : decode cX8_stockOf 59 = .ok (.bipush 24, 2) := by decide +kernel
theorem dX8_stockOf_61 : decode cX8_stockOf 61 = .ok (.if_icmp .ge 100, 3) := by decide +kernel
theorem dX8_stockOf_64 : decode cX8_stockOf 64 = .ok (.aload_n 0, 1) := by decide +kernel
theorem dX8_stockOf_65 : decode cX8_stockOf 65 = .ok (.getfield 11, 3) := by decide +kernel
theorem dX8_stockOf_68 : decode cX8_stockOf 68 = .ok (.iload 7, 2) := by decide +kernel
theorem dX8_stockOf_70 : decode cX8_stockOf 70 = .ok (.aaload, 1) := by decide +kernel
theorem dX8_stockOf_71 : decode cX8_stockOf 71 = .ok (.astore 8, 2) := by decide +kernel
theorem dX8_stockOf_73 : decode cX8_stockOf 73 = .ok (.iload 4, 2) := by decide +kernel
theorem dX8_stockOf_75 : decode cX8_stockOf 75 = .ok (.ifCond .eq 23, 3) := by decide +kernel
theorem dX8_stockOf_78 : decode cX8_stockOf 78 = .ok (.aload 8, 2) := by decide +kernel
theorem dX8_stockOf_80 : decode cX8_stockOf 80 = .ok (.iconst 4, 1) := by decide +kernel
theorem dX8_stockOf_81 : decode cX8_stockOf 81 = .ok (.invokevirtual 118, 3) := by decide +kernel
theorem dX8_stockOf_84 : decode cX8_stockOf 84 = .ok (.iload 4, 2) := by decide +kernel
theorem dX8_stockOf_86 : decode cX8_stockOf 86 = .ok (.iconst 1, 1) := by decide +kernel
theorem dX8_stockOf_87 : decode cX8_stockOf 87 = .ok (.if_icmp .ne 7, 3) := by decide +kernel
theorem dX8_stockOf_90 : decode cX8_stockOf 90 = .ok (.iconst 1, 1) := by decide +kernel
theorem dX8_stockOf_91 : decode cX8_stockOf 91 = .ok (.goto 4, 3) := by decide +kernel
theorem dX8_stockOf_94 : decode cX8_stockOf 94 = .ok (.iconst 0, 1) := by decide +kernel
theorem dX8_stockOf_95 : decode cX8_stockOf 95 = .ok (.if_icmp .ne 7, 3) := by decide +kernel
theorem dX8_stockOf_98 : decode cX8_stockOf 98 = .ok (.iconst 1, 1) := by decide +kernel
theorem dX8_stockOf_99 : decode cX8_stockOf 99 = .ok (.goto 4, 3) := by decide +kernel
theorem dX8_stockOf_102 : decode cX8_stockOf 102 = .ok (.iconst 0, 1) := by decide +kernel
theorem dX8_stockOf_103 : decode cX8_stockOf 103 = .ok (.istore 9, 2) := by decide +kernel
theorem dX8_stockOf_105 : decode cX8_stockOf 105 = .ok (.aload 8, 2) := by decide +kernel
theorem dX8_stockOf_107 : decode cX8_stockOf 107 = .ok (.getfield 47, 3) := by decide +kernel
theorem dX8_stockOf_110 : decode cX8_stockOf 110 = .ok (.ifCond .eq 45, 3) := by decide +kernel
theorem dX8_stockOf_113 : decode cX8_stockOf 113 = .ok (.aload 8, 2) := by decide +kernel
theorem dX8_stockOf_115 : decode cX8_stockOf 115 = .ok (.getfield 86, 3) := by decide +kernel
theorem dX8_stockOf_118 : decode cX8_stockOf 118 = .ok (.iconst (-1), 1) := by decide +kernel
theorem dX8_stockOf_119 : decode cX8_stockOf 119 = .ok (.if_icmp .ne 36, 3) := by decide +kernel
theorem dX8_stockOf_122 : decode cX8_stockOf 122 = .ok (.aload 8, 2) := by decide +kernel
theorem dX8_stockOf_124 : decode cX8_stockOf 124 = .ok (.iload_n 1, 1) := by decide +kernel
theorem dX8_stockOf_125 : decode cX8_stockOf 125 = .ok (.invokevirtual 89, 3) := by decide +kernel
theorem dX8_stockOf_128 : decode cX8_stockOf 128 = .ok (.ifCond .eq 27, 3) := by decide +kernel
theorem dX8_stockOf_131 : decode cX8_stockOf 131 = .ok (.aload 8, 2) := by decide +kernel
theorem dX8_stockOf_133 : decode cX8_stockOf 133 = .ok (.iload_n 2, 1) := by decide +kernel
theorem dX8_stockOf_134 : decode cX8_stockOf 134 = .ok (.invokevirtual 118, 3) := by decide +kernel
theorem dX8_stockOf_137 : decode cX8_stockOf 137 = .ok (.iload_n 3, 1) := by decide +kernel
theorem dX8_stockOf_138 : decode cX8_stockOf 138 = .ok (.if_icmp .ne 17, 3) := by decide +kernel
theorem dX8_stockOf_141 : decode cX8_stockOf 141 = .ok (.iload 9, 2) := by decide +kernel
theorem dX8_stockOf_143 : decode cX8_stockOf 143 = .ok (.ifCond .eq 12, 3) := by decide +kernel
theorem dX8_stockOf_146 : decode cX8_stockOf 146 = .ok (.iload 6, 2) := by decide +kernel
theorem dX8_stockOf_148 : decode cX8_stockOf 148 = .ok (.iconst 1, 1) := by decide +kernel
theorem dX8_stockOf_149 : decode cX8_stockOf 149 = .ok (.iload 7, 2) := by decide +kernel
theorem dX8_stockOf_151 : decode cX8_stockOf 151 = .ok (.ishl, 1) := by decide +kernel
theorem dX8_stockOf_152 : decode cX8_stockOf 152 = .ok (.ior, 1) := by decide +kernel
theorem dX8_stockOf_153 : decode cX8_stockOf 153 = .ok (.istore 6, 2) := by decide +kernel
theorem dX8_stockOf_155 : decode cX8_stockOf 155 = .ok (.iinc 7 1, 3) := by decide +kernel
theorem dX8_stockOf_158 : decode cX8_stockOf 158 = .ok (.goto (-101), 3) := by decide +kernel
theorem dX8_stockOf_161 : decode cX8_stockOf 161 = .ok (.iload 6, 2) := by decide +kernel
theorem dX8_stockOf_163 : decode cX8_stockOf 163 = .ok (.ireturn, 1) := by decide +kernel
set_option maxRecDepth 20000 in
theorem zl_X8_stockOf_2 : z_All z_tab cX8_stockOf 10 (some .int) RX8 pc_X8_stockOf 80 (k_X8_stockOf.drop 80) := z_cons (ok_goto (tgt := 57) (by decide) rfl dX8_stockOf_158 rfl) <| z_cons (ok_iload dX8_stockOf_161 rfl rfl) <| z_cons (ok_iret rfl dX8_stockOf_163 rfl) <| z_nil
set_option maxRecDepth 20000 in
theorem zl_X8_stockOf_1 : z_All z_tab cX8_stockOf 10 (some .int) RX8 pc_X8_stockOf 40 (k_X8_stockOf.drop 40) := z_cons (ok_if_eq (tgt := 98) (by decide) rfl dX8_stockOf_75 rfl rfl) <| z_cons (ok_aload dX8_stockOf_78 rfl rfl) <| z_cons (ok_iconst (by decide) dX8_stockOf_80 rfl rfl) <| z_cons (ok_callv ⟨by decide, by decide, by decide⟩ (ci := 4) (C := RX6) (T := TX6) rfl go_7 (k := 81) (n := 1) qw_225 qw_203 ⟨by decide +kernel, by decide +kernel, by decide +kernel⟩ (Nat.le_of_ble_eq_true rfl) qw_415 qw_227 qw_228 dX8_stockOf_81 rfl rfl) <| z_cons (ok_iload dX8_stockOf_84 rfl rfl) <| z_cons (ok_iconst (by decide) dX8_stockOf_86 rfl rfl) <| z_cons (ok_icmp_ne (tgt := 94) (by decide) rfl dX8_stockOf_87 rfl rfl) <| z_cons (ok_iconst (by decide) dX8_stockOf_90 rfl rfl) <| z_cons (ok_goto (tgt := 95) (by decide) rfl dX8_stockOf_91 rfl) <| z_cons (ok_iconst (by decide) dX8_stockOf_94 rfl rfl) <| z_cons (ok_icmp_ne (tgt := 102) (by decide) rfl dX8_stockOf_95 rfl rfl) <| z_cons (ok_iconst (by decide) dX8_stockOf_98 rfl rfl) <| z_cons (ok_goto (tgt := 103) (by decide) rfl dX8_stockOf_99 rfl) <| z_cons (ok_iconst (by decide) dX8_stockOf_102 rfl rfl) <| z_cons (ok_istore (Nat.le_of_ble_eq_true rfl) dX8_stockOf_103 rfl rfl) <| z_cons (ok_aload dX8_stockOf_105 rfl rfl) <| z_cons (ok_get ⟨by decide, by decide, by decide⟩ (ci := 4) (T := TX6) rfl rfl (Nat.le_of_ble_eq_true rfl) iw_X6 qw_373 gv_7_0 dX8_stockOf_107 rfl rfl) <| z_cons (ok_if_eq (tgt := 155) (by decide) rfl dX8_stockOf_110 rfl rfl) <| z_cons (ok_aload dX8_stockOf_113 rfl rfl) <| z_cons (ok_get ⟨by decide, by decide, by decide⟩ (ci := 4) (T := TX6) rfl rfl (Nat.le_of_ble_eq_true rfl) iw_X6 qw_400 gv_7_4 dX8_stockOf_115 rfl rfl) <| z_cons (ok_iconst (by decide) dX8_stockOf_118 rfl rfl) <| z_cons (ok_icmp_ne (tgt := 155) (by decide) rfl dX8_stockOf_119 rfl rfl) <| z_cons (ok_aload dX8_stockOf_122 rfl rfl) <| z_cons (ok_iload_n dX8_stockOf_124 rfl rfl) <| z_cons (ok_callv ⟨by decide, by decide, by decide⟩ (ci := 4) (C := RX6) (T := TX6) rfl go_7 (k := 82) (n := 1) qw_313 qw_203 ⟨by decide +kernel, by decide +kernel, by decide +kernel⟩ (Nat.le_of_ble_eq_true rfl) qw_401 qw_315 qw_316 dX8_stockOf_125 rfl rfl) <| z_cons (ok_if_eq (tgt := 155) (by decide) rfl dX8_stockOf_128 rfl rfl) <| z_cons (ok_aload dX8_stockOf_131 rfl rfl) <| z_cons (ok_iload_n dX8_stockOf_133 rfl rfl) <| z_cons (ok_callv ⟨by decide, by decide, by decide⟩ (ci := 4) (C := RX6) (T := TX6) rfl go_7 (k := 81) (n := 1) qw_225 qw_203 ⟨by decide +kernel, by decide +kernel, by decide +kernel⟩ (Nat.le_of_ble_eq_true rfl) qw_415 qw_227 qw_228 dX8_stockOf_134 rfl rfl) <| z_cons (ok_iload_n dX8_stockOf_137 rfl rfl) <| z_cons (ok_icmp_ne (tgt := 155) (by decide) rfl dX8_stockOf_138 rfl rfl) <| z_cons (ok_iload dX8_stockOf_141 rfl rfl) <| z_cons (ok_if_eq (tgt := 155) (by decide) rfl dX8_stockOf_143 rfl rfl) <| z_cons (ok_iload dX8_stockOf_146 rfl rfl) <| z_cons (ok_iconst (by decide) dX8_stockOf_148 rfl rfl) <| z_cons (ok_iload dX8_stockOf_149 rfl rfl) <| z_cons (ok_ishl dX8_stockOf_151 rfl rfl) <| z_cons (ok_ior dX8_stockOf_152 rfl rfl) <| z_cons (ok_istore (Nat.le_of_ble_eq_true rfl) dX8_stockOf_153 rfl rfl) <| z_cons (ok_iinc (by decide) (Nat.le_of_ble_eq_true rfl) dX8_stockOf_155 rfl rfl) <| zl_X8_stockOf_2
set_option maxRecDepth 20000 in
theorem zl_X8_stockOf_0 : z_All z_tab cX8_stockOf 10 (some .int) RX8 pc_X8_stockOf 0 (k_X8_stockOf.drop 0) := z_cons (ok_iload_n dX8_stockOf_0 rfl rfl) <| z_cons (ok_if_lt (tgt := 22) (by decide) rfl dX8_stockOf_1 rfl rfl) <| z_cons (ok_iload_n dX8_stockOf_4 rfl rfl) <| z_cons (ok_iconst (by decide) dX8_stockOf_5 rfl rfl) <| z_cons (ok_icmp_ge (tgt := 22) (by decide) rfl dX8_stockOf_6 rfl rfl) <| z_cons (ok_iload_n dX8_stockOf_9 rfl rfl) <| z_cons (ok_if_lt (tgt := 22) (by decide) rfl dX8_stockOf_10 rfl rfl) <| z_cons (ok_iload_n dX8_stockOf_13 rfl rfl) <| z_cons (ok_iconst (by decide) dX8_stockOf_14 rfl rfl) <| z_cons (ok_icmp_gt (tgt := 22) (by decide) rfl dX8_stockOf_15 rfl rfl) <| z_cons (ok_iconst (by decide) dX8_stockOf_18 rfl rfl) <| z_cons (ok_goto (tgt := 23) (by decide) rfl dX8_stockOf_19 rfl) <| z_cons (ok_iconst (by decide) dX8_stockOf_22 rfl rfl) <| z_cons (ok_istore (Nat.le_of_ble_eq_true rfl) dX8_stockOf_23 rfl rfl) <| z_cons (ok_aload_n dX8_stockOf_25 rfl rfl) <| z_cons (ok_iload_n dX8_stockOf_26 rfl rfl) <| z_cons (ok_callv ⟨by decide, by decide, by decide⟩ (ci := 6) (C := RX8) (T := TX8) rfl go_9 (k := 92) (n := 1) qw_123 qw_124 ⟨by decide +kernel, by decide +kernel, by decide +kernel⟩ (Nat.le_of_ble_eq_true rfl) qw_404 qw_126 qw_127 dX8_stockOf_27 rfl rfl) <| z_cons (ok_ifnull (tgt := 49) (by decide) rfl dX8_stockOf_30 rfl rfl) <| z_cons (ok_iload dX8_stockOf_33 rfl rfl) <| z_cons (ok_if_eq (tgt := 49) (by decide) rfl dX8_stockOf_35 rfl rfl) <| z_cons (ok_iload dX8_stockOf_38 rfl rfl) <| z_cons (ok_if_lt (tgt := 49) (by decide) rfl dX8_stockOf_40 rfl rfl) <| z_cons (ok_iload dX8_stockOf_43 rfl rfl) <| z_cons (ok_iconst (by decide) dX8_stockOf_45 rfl rfl) <| z_cons (ok_icmp_le (tgt := 51) (by decide) rfl dX8_stockOf_46 rfl rfl) <| z_cons (ok_iconst (by decide) dX8_stockOf_49 rfl rfl) <| z_cons (ok_iret rfl dX8_stockOf_50 rfl) <| z_cons (ok_iconst (by decide) dX8_stockOf_51 rfl rfl) <| z_cons (ok_istore (Nat.le_of_ble_eq_true rfl) dX8_stockOf_52 rfl rfl) <| z_cons (ok_iconst (by decide) dX8_stockOf_54 rfl rfl) <| z_cons (ok_istore (Nat.le_of_ble_eq_true rfl) dX8_stockOf_55 rfl rfl) <| z_cons (ok_iload dX8_stockOf_57 rfl rfl) <| z_cons (ok_bipush (by decide) dX8_stockOf_59 rfl rfl) <| z_cons (ok_icmp_ge (tgt := 161) (by decide) rfl dX8_stockOf_61 rfl rfl) <| z_cons (ok_aload_n dX8_stockOf_64 rfl rfl) <| z_cons (ok_getr (k := 1) ⟨by decide, by decide, by decide⟩ (ci := 6) (T := TX8) rfl rfl (Nat.le_of_ble_eq_true rfl) iw_X8 qw_372 gr_9_1 (fun _ _ => by simp) (fun w i => List.mem_of_getElem? (i := 1) rfl) dX8_stockOf_65 rfl rfl) <| z_cons (ok_iload dX8_stockOf_68 rfl rfl) <| z_cons (ok_aald dX8_stockOf_70 rfl rfl) <| z_cons (ok_astore (Nat.le_of_ble_eq_true rfl) dX8_stockOf_71 rfl rfl) <| z_cons (ok_iload dX8_stockOf_73 rfl rfl) <| zl_X8_stockOf_1
theorem dX8_powered_0 : decode cX8_powered 0 = .ok (.iload_n 1, 1) := by decide +kernel
theorem dX8_powered_1 : decode cX8_powered 1 = .ok (.ifCond .lt 17, 3) := by decide +kernel
theorem dX8_powered_4 : decode cX8_powered 4 = .ok (.iload_n 1, 1) := by decide +kernel
theorem dX8_powered_5 : decode cX8_powered 5 = .ok (.iconst 4, 1) := by decide +kernel
theorem dX8_powered_6 : decode cX8_powered 6 = .ok (.if_icmp .ge 12, 3) := by decide +kernel
theorem dX8_powered_9 : decode cX8_powered 9 = .ok (.iload_n 2, 1) := by decide +kernel
theorem dX8_powered_10 : decode cX8_powered 10 = .ok (.ifCond .lt 8, 3) := by decide +kernel
theorem dX8_powered_13 : decode cX8_powered 13 = .ok (.iload_n 2, 1) := by decide +kernel
theorem dX8_powered_14 : decode cX8_powered 14 = .ok (.iconst 1, 1) := by decide +kernel
theorem dX8_powered_15 : decode cX8_powered 15 = .ok (.if_icmp .le 5, 3) := by decide +kernel
theorem dX8_powered_18 : decode cX8_powered 18 = .ok (.iconst (-1), 1) := by decide +kernel
theorem dX8_powered_19 : decode cX8_powered 19 = .ok (.ireturn, 1) := by decide +kernel
theorem dX8_powered_20 : decode cX8_powered 20 = .ok (.iconst 0, 1) := by decide +kernel
theorem dX8_powered_21 : decode cX8_powered 21 = .ok (.istore_n 3, 1) := by decide +kernel
theorem dX8_powered_22 : decode cX8_powered 22 = .ok (.iconst 0, 1) := by decide +kernel
theorem dX8_powered_23 : decode cX8_powered 23 = .ok (.istore 4, 2) := by decide +kernel
theorem dX8_powered_25 : decode cX8_powered 25 = .ok (.iload 4, 2) := by decide +kernel
theorem dX8_powered_27 : decode cX8_powered 27 = .ok (.bipush 24, 2) := by decide +kernel
theorem dX8_powered_29 : decode cX8_powered 29 = .ok (.if_icmp .ge 57, 3) := by decide +kernel
theorem dX8_powered_32 : decode cX8_powered 32 = .ok (.aload_n 0, 1) := by decide +kernel
theorem dX8_powered_33 : decode cX8_powered 33 = .ok (.getfield 11, 3) := by decide +kernel
theorem dX8_powered_36 : decode cX8_powered 36 = .ok (.iload 4, 2) := by decide +kernel
theorem dX8_powered_38 : decode cX8_powered 38 = .ok (.aaload, 1) := by decide +kernel
theorem dX8_powered_39 : decode cX8_powered 39 = .ok (.getfield 47, 3) := by decide +kernel
theorem dX8_powered_42 : decode cX8_powered 42 = .ok (.ifCond .eq 38, 3) := by decide +kernel
theorem dX8_powered_45 : decode cX8_powered 45 = .ok (.aload_n 0, 1) := by decide +kernel
theorem dX8_powered_46 : decode cX8_powered 46 = .ok (.getfield 11, 3) := by decide +kernel
theorem dX8_powered_49 : decode cX8_powered 49 = .ok (.iload 4, 2) := by decide +kernel
theorem dX8_powered_51 : decode cX8_powered 51 = .ok (.aaload, 1) := by decide +kernel
theorem dX8_powered_52 : decode cX8_powered 52 = .ok (.invokevirtual 114, 3) := by decide +kernel
theorem dX8_powered_55 : decode cX8_powered 55 = .ok (.ifCond .eq 25, 3) := by decide +kernel
theorem dX8_powered_58 : decode cX8_powered 58 = .ok (.aload_n 0, 1) := by decide +kernel
theorem dX8_powered_59 : decode cX8_powered 59 = .ok (.getfield 11, 3) := by decide +kernel
theorem dX8_powered_62 : decode cX8_powered 62 = .ok (.iload 4, 2) := by decide +kernel
theorem dX8_powered_64 : decode cX8_powered 64 = .ok (.aaload, 1) := by decide +kernel
theorem dX8_powered_65 : decode cX8_powered 65 = .ok (.iload_n 1, 1) := by decide +kernel
theorem dX8_powered_66 : decode cX8_powered 66 = .ok (.invokevirtual 118, 3) := by decide +kernel
theorem dX8_powered_69 : decode cX8_powered 69 = .ok (.iload_n 2, 1) := by decide +kernel
theorem dX8_powered_70 : decode cX8_powered 70 = .ok (.if_icmp .ne 10, 3) := by decide +kernel
theorem dX8_powered_73 : decode cX8_powered 73 = .ok (.iload_n 3, 1) := by decide +kernel
theorem dX8_powered_74 : decode cX8_powered 74 = .ok (.iconst 1, 1) := by decide +kernel
theorem dX8_powered_75 : decode cX8_powered 75 = .ok (.iload 4, 2) := by decide +kernel
theorem dX8_powered_77 : decode cX8_powered 77 = .ok (.ishl, 1) := by decide +kernel
theorem dX8_powered_78 : decode cX8_powered 78 = .ok (.ior, 1) := by decide +kernel
theorem dX8_powered_79 : decode cX8_powered 79 = .ok (.istore_n 3, 1) := by decide +kernel
theorem dX8_powered_80 : decode cX8_powered 80 = .ok (.iinc 4 1, 3) := by decide +kernel
theorem dX8_powered_83 : decode cX8_powered 83 = .ok (.goto (-58), 3) := by decide +kernel
theorem dX8_powered_86 : decode cX8_powered 86 = .ok (.iload_n 3, 1) := by decide +kernel
theorem dX8_powered_87 : decode cX8_powered 87 = .ok (.ireturn, 1) := by decide +kernel
set_option maxRecDepth 20000 in
theorem zl_X8_powered_1 : z_All z_tab cX8_powered 5 (some .int) RX8 pc_X8_powered 40 (k_X8_powered.drop 40) := z_cons (ok_iconst (by decide) dX8_powered_74 rfl rfl) <| z_cons (ok_iload dX8_powered_75 rfl rfl) <| z_cons (ok_ishl dX8_powered_77 rfl rfl) <| z_cons (ok_ior dX8_powered_78 rfl rfl) <| z_cons (ok_istore_n (Nat.le_of_ble_eq_true rfl) dX8_powered_79 rfl rfl) <| z_cons (ok_iinc (by decide) (Nat.le_of_ble_eq_true rfl) dX8_powered_80 rfl rfl) <| z_cons (ok_goto (tgt := 25) (by decide) rfl dX8_powered_83 rfl) <| z_cons (ok_iload_n dX8_powered_86 rfl rfl) <| z_cons (ok_iret rfl dX8_powered_87 rfl) <| z_nil
set_option maxRecDepth 20000 in
theorem zl_X8_powered_0 : z_All z_tab cX8_powered 5 (some .int) RX8 pc_X8_powered 0 (k_X8_powered.drop 0) := z_cons (ok_iload_n dX8_powered_0 rfl rfl) <| z_cons (ok_if_lt (tgt := 18) (by decide) rfl dX8_powered_1 rfl rfl) <| z_cons (ok_iload_n dX8_powered_4 rfl rfl) <| z_cons (ok_iconst (by decide) dX8_powered_5 rfl rfl) <| z_cons (ok_icmp_ge (tgt := 18) (by decide) rfl dX8_powered_6 rfl rfl) <| z_cons (ok_iload_n dX8_powered_9 rfl rfl) <| z_cons (ok_if_lt (tgt := 18) (by decide) rfl dX8_powered_10 rfl rfl) <| z_cons (ok_iload_n dX8_powered_13 rfl rfl) <| z_cons (ok_iconst (by decide) dX8_powered_14 rfl rfl) <| z_cons (ok_icmp_le (tgt := 20) (by decide) rfl dX8_powered_15 rfl rfl) <| z_cons (ok_iconst (by decide) dX8_powered_18 rfl rfl) <| z_cons (ok_iret rfl dX8_powered_19 rfl) <| z_cons (ok_iconst (by decide) dX8_powered_20 rfl rfl) <| z_cons (ok_istore_n (Nat.le_of_ble_eq_true rfl) dX8_powered_21 rfl rfl) <| z_cons (ok_iconst (by decide) dX8_powered_22 rfl rfl) <| z_cons (ok_istore (Nat.le_of_ble_eq_true rfl) dX8_powered_23 rfl rfl) <| z_cons (ok_iload dX8_powered_25 rfl rfl) <| z_cons (ok_bipush (by decide) dX8_powered_27 rfl rfl) <| z_cons (ok_icmp_ge (tgt := 86) (by decide) rfl dX8_powered_29 rfl rfl) <| z_cons (ok_aload_n dX8_powered_32 rfl rfl) <| z_cons (ok_getr (k := 1) ⟨by decide, by decide, by decide⟩ (ci := 6) (T := TX8) rfl rfl (Nat.le_of_ble_eq_true rfl) iw_X8 qw_372 gr_9_1 (fun _ _ => by simp) (fun w i => List.mem_of_getElem? (i := 1) rfl) dX8_powered_33 rfl rfl) <| z_cons (ok_iload dX8_powered_36 rfl rfl) <| z_cons (ok_aald dX8_powered_38 rfl rfl) <| z_cons (ok_get ⟨by decide, by decide, by decide⟩ (ci := 4) (T := TX6) rfl rfl (Nat.le_of_ble_eq_true rfl) iw_X6 qw_373 gv_7_0 dX8_powered_39 rfl rfl) <| z_cons (ok_if_eq (tgt := 80) (by decide) rfl dX8_powered_42 rfl rfl) <| z_cons (ok_aload_n dX8_powered_45 rfl rfl) <| z_cons (ok_getr (k := 1) ⟨by decide, by decide, by decide⟩ (ci := 6) (T := TX8) rfl rfl (Nat.le_of_ble_eq_true rfl) iw_X8 qw_372 gr_9_1 (fun _ _ => by simp) (fun w i => List.mem_of_getElem? (i := 1) rfl) dX8_powered_46 rfl rfl) <| z_cons (ok_iload dX8_powered_49 rfl rfl) <| z_cons (ok_aald dX8_powered_51 rfl rfl) <| z_cons (ok_callv ⟨by decide, by decide, by decide⟩ (ci := 4) (C := RX6) (T := TX6) rfl go_7 (k := 83) (n := 0) qw_364 qw_203 ⟨by decide +kernel, by decide +kernel, by decide +kernel⟩ (Nat.le_of_ble_eq_true rfl) qw_414 qw_366 qw_367 dX8_powered_52 rfl rfl) <| z_cons (ok_if_eq (tgt := 80) (by decide) rfl dX8_powered_55 rfl rfl) <| z_cons (ok_aload_n dX8_powered_58 rfl rfl) <| z_cons (ok_getr (k := 1) ⟨by decide, by decide, by decide⟩ (ci := 6) (T := TX8) rfl rfl (Nat.le_of_ble_eq_true rfl) iw_X8 qw_372 gr_9_1 (fun _ _ => by simp) (fun w i => List.mem_of_getElem? (i := 1) rfl) dX8_powered_59 rfl rfl) <| z_cons (ok_iload dX8_powered_62 rfl rfl) <| z_cons (ok_aald dX8_powered_64 rfl rfl) <| z_cons (ok_iload_n dX8_powered_65 rfl rfl) <| z_cons (ok_callv ⟨by decide, by decide, by decide⟩ (ci := 4) (C := RX6) (T := TX6) rfl go_7 (k := 81) (n := 1) qw_225 qw_203 ⟨by decide +kernel, by decide +kernel, by decide +kernel⟩ (Nat.le_of_ble_eq_true rfl) qw_415 qw_227 qw_228 dX8_powered_66 rfl rfl) <| z_cons (ok_iload_n dX8_powered_69 rfl rfl) <| z_cons (ok_icmp_ne (tgt := 80) (by decide) rfl dX8_powered_70 rfl rfl) <| z_cons (ok_iload_n dX8_powered_73 rfl rfl) <| zl_X8_powered_1
theorem dX8_tagsThere_0 : decode cX8_tagsThere 0 = .ok (.iconst 0, 1) := by decide +kernel
theorem dX8_tagsThere_1 : decode cX8_tagsThere 1 = .ok (.istore_n 1, 1) := by decide +kernel
theorem dX8_tagsThere_2 : decode cX8_tagsThere 2 = .ok (.iconst 0, 1) := by decide +kernel
theorem dX8_tagsThere_3 : decode cX8_tagsThere 3 = .ok (.istore_n 2, 1) := by decide +kernel
theorem dX8_tagsThere_4 : decode cX8_tagsThere 4 = .ok (.iload_n 2, 1) := by decide +kernel
theorem dX8_tagsThere_5 : decode cX8_tagsThere 5 = .ok (.bipush 24, 2) := by decide +kernel
theorem dX8_tagsThere_7 : decode cX8_tagsThere 7 = .ok (.if_icmp .ge 31, 3) := by decide +kernel
theorem dX8_tagsThere_10 : decode cX8_tagsThere 10 = .ok (.iload_n 1, 1) := by decide +kernel
theorem dX8_tagsThere_11 : decode cX8_tagsThere 11 = .ok (.aload_n 0, 1) := by decide +kernel
theorem dX8_tagsThere_12 : decode cX8_tagsThere 12 = .ok (.getfield 11, 3) := by decide +kernel
theorem dX8_tagsThere_15 : decode cX8_tagsThere 15 = .ok (.iload_n 2, 1) := by decide +kernel
theorem dX8_tagsThere_16 : decode cX8_tagsThere 16 = .ok (.aaload, 1) := by decide +kernel
theorem dX8_tagsThere_17 : decode cX8_tagsThere 17 = .ok (.getfield 47, 3) := by decide +kernel
theorem dX8_tagsThere_20 : decode cX8_tagsThere 20 = .ok (.ifCond .eq 9, 3) := by decide +kernel
theorem dX8_tagsThere_23 : decode cX8_tagsThere 23 = .ok (.iconst 1, 1) := by decide +kernel
theorem dX8_tagsThere_24 : decode cX8_tagsThere 24 = .ok (.iload_n 2, 1) := by decide +kernel
theorem dX8_tagsThere_25 : decode cX8_tagsThere 25 = .ok (.ishl, 1) := by decide +kernel
theorem dX8_tagsThere_26 : decode cX8_tagsThere 26 = .ok (.goto 4, 3) := by decide +kernel
theorem dX8_tagsThere_29 : decode cX8_tagsThere 29 = .ok (.iconst 0, 1) := by decide +kernel
theorem dX8_tagsThere_30 : decode cX8_tagsThere 30 = .ok (.ior, 1) := by decide +kernel
theorem dX8_tagsThere_31 : decode cX8_tagsThere 31 = .ok (.istore_n 1, 1) := by decide +kernel
theorem dX8_tagsThere_32 : decode cX8_tagsThere 32 = .ok (.iinc 2 1, 3) := by decide +kernel
theorem dX8_tagsThere_35 : decode cX8_tagsThere 35 = .ok (.goto (-31), 3) := by decide +kernel
theorem dX8_tagsThere_38 : decode cX8_tagsThere 38 = .ok (.iload_n 1, 1) := by decide +kernel
theorem dX8_tagsThere_39 : decode cX8_tagsThere 39 = .ok (.ireturn, 1) := by decide +kernel
set_option maxRecDepth 20000 in
theorem zl_X8_tagsThere_0 : z_All z_tab cX8_tagsThere 3 (some .int) RX8 pc_X8_tagsThere 0 (k_X8_tagsThere.drop 0) := z_cons (ok_iconst (by decide) dX8_tagsThere_0 rfl rfl) <| z_cons (ok_istore_n (Nat.le_of_ble_eq_true rfl) dX8_tagsThere_1 rfl rfl) <| z_cons (ok_iconst (by decide) dX8_tagsThere_2 rfl rfl) <| z_cons (ok_istore_n (Nat.le_of_ble_eq_true rfl) dX8_tagsThere_3 rfl rfl) <| z_cons (ok_iload_n dX8_tagsThere_4 rfl rfl) <| z_cons (ok_bipush (by decide) dX8_tagsThere_5 rfl rfl) <| z_cons (ok_icmp_ge (tgt := 38) (by decide) rfl dX8_tagsThere_7 rfl rfl) <| z_cons (ok_iload_n dX8_tagsThere_10 rfl rfl) <| z_cons (ok_aload_n dX8_tagsThere_11 rfl rfl) <| z_cons (ok_getr (k := 1) ⟨by decide, by decide, by decide⟩ (ci := 6) (T := TX8) rfl rfl (Nat.le_of_ble_eq_true rfl) iw_X8 qw_372 gr_9_1 (fun _ _ => by simp) (fun w i => List.mem_of_getElem? (i := 1) rfl) dX8_tagsThere_12 rfl rfl) <| z_cons (ok_iload_n dX8_tagsThere_15 rfl rfl) <| z_cons (ok_aald dX8_tagsThere_16 rfl rfl) <| z_cons (ok_get ⟨by decide, by decide, by decide⟩ (ci := 4) (T := TX6) rfl rfl (Nat.le_of_ble_eq_true rfl) iw_X6 qw_373 gv_7_0 dX8_tagsThere_17 rfl rfl) <| z_cons (ok_if_eq (tgt := 29) (by decide) rfl dX8_tagsThere_20 rfl rfl) <| z_cons (ok_iconst (by decide) dX8_tagsThere_23 rfl rfl) <| z_cons (ok_iload_n dX8_tagsThere_24 rfl rfl) <| z_cons (ok_ishl dX8_tagsThere_25 rfl rfl) <| z_cons (ok_goto (tgt := 30) (by decide) rfl dX8_tagsThere_26 rfl) <| z_cons (ok_iconst (by decide) dX8_tagsThere_29 rfl rfl) <| z_cons (ok_ior dX8_tagsThere_30 rfl rfl) <| z_cons (ok_istore_n (Nat.le_of_ble_eq_true rfl) dX8_tagsThere_31 rfl rfl) <| z_cons (ok_iinc (by decide) (Nat.le_of_ble_eq_true rfl) dX8_tagsThere_32 rfl rfl) <| z_cons (ok_goto (tgt := 4) (by decide) rfl dX8_tagsThere_35 rfl) <| z_cons (ok_iload_n dX8_tagsThere_38 rfl rfl) <| z_cons (ok_iret rfl dX8_tagsThere_39 rfl) <| z_nil
theorem dX8_tagsOf_0 : decode cX8_tagsOf 0 = .ok (.iconst 0, 1) := by decide +kernel
theorem dX8_tagsOf_1 : decode cX8_tagsOf 1 = .ok (.istore_n 2, 1) := by decide +kernel
theorem dX8_tagsOf_2 : decode cX8_tagsOf 2 = .ok (.iconst 0, 1) := by decide +kernel
theorem dX8_tagsOf_3 : decode cX8_tagsOf 3 = .ok (.istore_n 3, 1) := by decide +kernel
theorem dX8_tagsOf_4 : decode cX8_tagsOf 4 = .ok (.iload_n 3, 1) := by decide +kernel
theorem dX8_tagsOf_5 : decode cX8_tagsOf 5 = .ok (.bipush 24, 2) := by decide +kernel
theorem dX8_tagsOf_7 : decode cX8_tagsOf 7 = .ok (.if_icmp .ge 44, 3) := by decide +kernel
theorem dX8_tagsOf_10 : decode cX8_tagsOf 10 = .ok (.iload_n 2, 1) := by decide +kernel
theorem dX8_tagsOf_11 : decode cX8_tagsOf 11 = .ok (.aload_n 0, 1) := by decide +kernel
theorem dX8_tagsOf_12 : decode cX8_tagsOf 12 = .ok (.getfield 11, 3) := by decide +kernel
theorem dX8_tagsOf_15 : decode cX8_tagsOf 15 = .ok (.iload_n 3, 1) := by decide +kernel
theorem dX8_tagsOf_16 : decode cX8_tagsOf 16 = .ok (.aaload, 1) := by decide +kernel
theorem dX8_tagsOf_17 : decode cX8_tagsOf 17 = .ok (.getfield 47, 3) := by decide +kernel
theorem dX8_tagsOf_20 : decode cX8_tagsOf 20 = .ok (.ifCond .eq 22, 3) := by decide +kernel
theorem dX8_tagsOf_23 : decode cX8_tagsOf 23 = .ok (.aload_n 0, 1) := by decide +kernel
theorem dX8_tagsOf_24 : decode cX8_tagsOf 24 = .ok (.getfield 11, 3) := by decide +kernel
theorem dX8_tagsOf_27 : decode cX8_tagsOf 27 = .ok (.iload_n 3, 1) := by decide +kernel
theorem dX8_tagsOf_28 : decode cX8_tagsOf 28 = .ok (.aaload, 1) := by decide +kernel
theorem dX8_tagsOf_29 : decode cX8_tagsOf 29 = .ok (.getfield 86, 3) := by decide +kernel
theorem dX8_tagsOf_32 : decode cX8_tagsOf 32 = .ok (.iload_n 1, 1) := by decide +kernel
theorem dX8_tagsOf_33 : decode cX8_tagsOf 33 = .ok (.if_icmp .ne 9, 3) := by decide +kernel
theorem dX8_tagsOf_36 : decode cX8_tagsOf 36 = .ok (.iconst 1, 1) := by decide +kernel
theorem dX8_tagsOf_37 : decode cX8_tagsOf 37 = .ok (.iload_n 3, 1) := by decide +kernel
theorem dX8_tagsOf_38 : decode cX8_tagsOf 38 = .ok (.ishl, 1) := by decide +kernel
theorem dX8_tagsOf_39 : decode cX8_tagsOf 39 = .ok (.goto 4, 3) := by decide +kernel
theorem dX8_tagsOf_42 : decode cX8_tagsOf 42 = .ok (.iconst 0, 1) := by decide +kernel
theorem dX8_tagsOf_43 : decode cX8_tagsOf 43 = .ok (.ior, 1) := by decide +kernel
theorem dX8_tagsOf_44 : decode cX8_tagsOf 44 = .ok (.istore_n 2, 1) := by decide +kernel
theorem dX8_tagsOf_45 : decode cX8_tagsOf 45 = .ok (.iinc 3 1, 3) := by decide +kernel
theorem dX8_tagsOf_48 : decode cX8_tagsOf 48 = .ok (.goto (-44), 3) := by decide +kernel
theorem dX8_tagsOf_51 : decode cX8_tagsOf 51 = .ok (.iload_n 2, 1) := by decide +kernel
theorem dX8_tagsOf_52 : decode cX8_tagsOf 52 = .ok (.ireturn, 1) := by decide +kernel
set_option maxRecDepth 20000 in
theorem zl_X8_tagsOf_0 : z_All z_tab cX8_tagsOf 4 (some .int) RX8 pc_X8_tagsOf 0 (k_X8_tagsOf.drop 0) := z_cons (ok_iconst (by decide) dX8_tagsOf_0 rfl rfl) <| z_cons (ok_istore_n (Nat.le_of_ble_eq_true rfl) dX8_tagsOf_1 rfl rfl) <| z_cons (ok_iconst (by decide) dX8_tagsOf_2 rfl rfl) <| z_cons (ok_istore_n (Nat.le_of_ble_eq_true rfl) dX8_tagsOf_3 rfl rfl) <| z_cons (ok_iload_n dX8_tagsOf_4 rfl rfl) <| z_cons (ok_bipush (by decide) dX8_tagsOf_5 rfl rfl) <| z_cons (ok_icmp_ge (tgt := 51) (by decide) rfl dX8_tagsOf_7 rfl rfl) <| z_cons (ok_iload_n dX8_tagsOf_10 rfl rfl) <| z_cons (ok_aload_n dX8_tagsOf_11 rfl rfl) <| z_cons (ok_getr (k := 1) ⟨by decide, by decide, by decide⟩ (ci := 6) (T := TX8) rfl rfl (Nat.le_of_ble_eq_true rfl) iw_X8 qw_372 gr_9_1 (fun _ _ => by simp) (fun w i => List.mem_of_getElem? (i := 1) rfl) dX8_tagsOf_12 rfl rfl) <| z_cons (ok_iload_n dX8_tagsOf_15 rfl rfl) <| z_cons (ok_aald dX8_tagsOf_16 rfl rfl) <| z_cons (ok_get ⟨by decide, by decide, by decide⟩ (ci := 4) (T := TX6) rfl rfl (Nat.le_of_ble_eq_true rfl) iw_X6 qw_373 gv_7_0 dX8_tagsOf_17 rfl rfl) <| z_cons (ok_if_eq (tgt := 42) (by decide) rfl dX8_tagsOf_20 rfl rfl) <| z_cons (ok_aload_n dX8_tagsOf_23 rfl rfl) <| z_cons (ok_getr (k := 1) ⟨by decide, by decide, by decide⟩ (ci := 6) (T := TX8) rfl rfl (Nat.le_of_ble_eq_true rfl) iw_X8 qw_372 gr_9_1 (fun _ _ => by simp) (fun w i => List.mem_of_getElem? (i := 1) rfl) dX8_tagsOf_24 rfl rfl) <| z_cons (ok_iload_n dX8_tagsOf_27 rfl rfl) <| z_cons (ok_aald dX8_tagsOf_28 rfl rfl) <| z_cons (ok_get ⟨by decide, by decide, by decide⟩ (ci := 4) (T := TX6) rfl rfl (Nat.le_of_ble_eq_true rfl) iw_X6 qw_400 gv_7_4 dX8_tagsOf_29 rfl rfl) <| z_cons (ok_iload_n dX8_tagsOf_32 rfl rfl) <| z_cons (ok_icmp_ne (tgt := 42) (by decide) rfl dX8_tagsOf_33 rfl rfl) <| z_cons (ok_iconst (by decide) dX8_tagsOf_36 rfl rfl) <| z_cons (ok_iload_n dX8_tagsOf_37 rfl rfl) <| z_cons (ok_ishl dX8_tagsOf_38 rfl rfl) <| z_cons (ok_goto (tgt := 43) (by decide) rfl dX8_tagsOf_39 rfl) <| z_cons (ok_iconst (by decide) dX8_tagsOf_42 rfl rfl) <| z_cons (ok_ior dX8_tagsOf_43 rfl rfl) <| z_cons (ok_istore_n (Nat.le_of_ble_eq_true rfl) dX8_tagsOf_44 rfl rfl) <| z_cons (ok_iinc (by decide) (Nat.le_of_ble_eq_true rfl) dX8_tagsOf_45 rfl rfl) <| z_cons (ok_goto (tgt := 4) (by decide) rfl dX8_tagsOf_48 rfl) <| z_cons (ok_iload_n dX8_tagsOf_51 rfl rfl) <| z_cons (ok_iret rfl dX8_tagsOf_52 rfl) <| z_nil
