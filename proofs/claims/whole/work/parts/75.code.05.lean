theorem dX8_tagsJammed_0 : decode cX8_tagsJammed 0 = .ok (.iconst 0, 1) := by decide +kernel
theorem dX8_tagsJammed_1 : decode cX8_tagsJammed 1 = .ok (.istore_n 2, 1) := by decide +kernel
theorem dX8_tagsJammed_2 : decode cX8_tagsJammed 2 = .ok (.iconst 0, 1) := by decide +kernel
theorem dX8_tagsJammed_3 : decode cX8_tagsJammed 3 = .ok (.istore_n 3, 1) := by decide +kernel
theorem dX8_tagsJammed_4 : decode cX8_tagsJammed 4 = .ok (.iload_n 3, 1) := by decide +kernel
theorem dX8_tagsJammed_5 : decode cX8_tagsJammed 5 = .ok (.bipush 24, 2) := by decide +kernel
theorem dX8_tagsJammed_7 : decode cX8_tagsJammed 7 = .ok (.if_icmp .ge 45, 3) := by decide +kernel
theorem dX8_tagsJammed_10 : decode cX8_tagsJammed 10 = .ok (.iload_n 2, 1) := by decide +kernel
theorem dX8_tagsJammed_11 : decode cX8_tagsJammed 11 = .ok (.aload_n 0, 1) := by decide +kernel
theorem dX8_tagsJammed_12 : decode cX8_tagsJammed 12 = .ok (.getfield 11, 3) := by decide +kernel
theorem dX8_tagsJammed_15 : decode cX8_tagsJammed 15 = .ok (.iload_n 3, 1) := by decide +kernel
theorem dX8_tagsJammed_16 : decode cX8_tagsJammed 16 = .ok (.aaload, 1) := by decide +kernel
theorem dX8_tagsJammed_17 : decode cX8_tagsJammed 17 = .ok (.getfield 47, 3) := by decide +kernel
theorem dX8_tagsJammed_20 : decode cX8_tagsJammed 20 = .ok (.ifCond .eq 23, 3) := by decide +kernel
theorem dX8_tagsJammed_23 : decode cX8_tagsJammed 23 = .ok (.aload_n 0, 1) := by decide +kernel
theorem dX8_tagsJammed_24 : decode cX8_tagsJammed 24 = .ok (.aload_n 0, 1) := by decide +kernel
theorem dX8_tagsJammed_25 : decode cX8_tagsJammed 25 = .ok (.getfield 11, 3) := by decide +kernel
theorem dX8_tagsJammed_28 : decode cX8_tagsJammed 28 = .ok (.iload_n 3, 1) := by decide +kernel
theorem dX8_tagsJammed_29 : decode cX8_tagsJammed 29 = .ok (.aaload, 1) := by decide +kernel
theorem dX8_tagsJammed_30 : decode cX8_tagsJammed 30 = .ok (.iload_n 1, 1) := by decide +kernel
theorem dX8_tagsJammed_31 : decode cX8_tagsJammed 31 = .ok (.invokevirtual 200, 3) := by decide +kernel
theorem dX8_tagsJammed_34 : decode cX8_tagsJammed 34 = .ok (.ifCond .eq 9, 3) := by decide +kernel
theorem dX8_tagsJammed_37 : decode cX8_tagsJammed 37 = .ok (.iconst 1, 1) := by decide +kernel
theorem dX8_tagsJammed_38 : decode cX8_tagsJammed 38 = .ok (.iload_n 3, 1) := by decide +kernel
theorem dX8_tagsJammed_39 : decode cX8_tagsJammed 39 = .ok (.ishl, 1) := by decide +kernel
theorem dX8_tagsJammed_40 : decode cX8_tagsJammed 40 = .ok (.goto 4, 3) := by decide +kernel
theorem dX8_tagsJammed_43 : decode cX8_tagsJammed 43 = .ok (.iconst 0, 1) := by decide +kernel
theorem dX8_tagsJammed_44 : decode cX8_tagsJammed 44 = .ok (.ior, 1) := by decide +kernel
theorem dX8_tagsJammed_45 : decode cX8_tagsJammed 45 = .ok (.istore_n 2, 1) := by decide +kernel
theorem dX8_tagsJammed_46 : decode cX8_tagsJammed 46 = .ok (.iinc 3 1, 3) := by decide +kernel
theorem dX8_tagsJammed_49 : decode cX8_tagsJammed 49 = .ok (.goto (-45), 3) := by decide +kernel
theorem dX8_tagsJammed_52 : decode cX8_tagsJammed 52 = .ok (.iload_n 2, 1) := by decide +kernel
theorem dX8_tagsJammed_53 : decode cX8_tagsJammed 53 = .ok (.ireturn, 1) := by decide +kernel
set_option maxRecDepth 20000 in
theorem zl_X8_tagsJammed_0 : z_All z_tab cX8_tagsJammed 4 (some .int) RX8 pc_X8_tagsJammed 0 (k_X8_tagsJammed.drop 0) := z_cons (ok_iconst (by decide) dX8_tagsJammed_0 rfl rfl) <| z_cons (ok_istore_n (Nat.le_of_ble_eq_true rfl) dX8_tagsJammed_1 rfl rfl) <| z_cons (ok_iconst (by decide) dX8_tagsJammed_2 rfl rfl) <| z_cons (ok_istore_n (Nat.le_of_ble_eq_true rfl) dX8_tagsJammed_3 rfl rfl) <| z_cons (ok_iload_n dX8_tagsJammed_4 rfl rfl) <| z_cons (ok_bipush (by decide) dX8_tagsJammed_5 rfl rfl) <| z_cons (ok_icmp_ge (tgt := 52) (by decide) rfl dX8_tagsJammed_7 rfl rfl) <| z_cons (ok_iload_n dX8_tagsJammed_10 rfl rfl) <| z_cons (ok_aload_n dX8_tagsJammed_11 rfl rfl) <| z_cons (ok_getr (k := 1) ⟨by decide, by decide, by decide⟩ (ci := 6) (T := TX8) rfl rfl (Nat.le_of_ble_eq_true rfl) iw_X8 qw_372 gr_9_1 (fun _ _ => by simp) (fun w i => List.mem_of_getElem? (i := 1) rfl) dX8_tagsJammed_12 rfl rfl) <| z_cons (ok_iload_n dX8_tagsJammed_15 rfl rfl) <| z_cons (ok_aald dX8_tagsJammed_16 rfl rfl) <| z_cons (ok_get ⟨by decide, by decide, by decide⟩ (ci := 4) (T := TX6) rfl rfl (Nat.le_of_ble_eq_true rfl) iw_X6 qw_373 gv_7_0 dX8_tagsJammed_17 rfl rfl) <| z_cons (ok_if_eq (tgt := 43) (by decide) rfl dX8_tagsJammed_20 rfl rfl) <| z_cons (ok_aload_n dX8_tagsJammed_23 rfl rfl) <| z_cons (ok_aload_n dX8_tagsJammed_24 rfl rfl) <| z_cons (ok_getr (k := 1) ⟨by decide, by decide, by decide⟩ (ci := 6) (T := TX8) rfl rfl (Nat.le_of_ble_eq_true rfl) iw_X8 qw_372 gr_9_1 (fun _ _ => by simp) (fun w i => List.mem_of_getElem? (i := 1) rfl) dX8_tagsJammed_25 rfl rfl) <| z_cons (ok_iload_n dX8_tagsJammed_28 rfl rfl) <| z_cons (ok_aald dX8_tagsJammed_29 rfl rfl) <| z_cons (ok_iload_n dX8_tagsJammed_30 rfl rfl) <| z_cons (ok_callv ⟨by decide, by decide, by decide⟩ (ci := 6) (C := RX8) (T := TX8) rfl go_9 (k := 114) (n := 2) qw_463 qw_124 ⟨by decide +kernel, by decide +kernel, by decide +kernel⟩ (Nat.le_of_ble_eq_true rfl) qw_464 qw_465 qw_466 dX8_tagsJammed_31 rfl rfl) <| z_cons (ok_if_eq (tgt := 43) (by decide) rfl dX8_tagsJammed_34 rfl rfl) <| z_cons (ok_iconst (by decide) dX8_tagsJammed_37 rfl rfl) <| z_cons (ok_iload_n dX8_tagsJammed_38 rfl rfl) <| z_cons (ok_ishl dX8_tagsJammed_39 rfl rfl) <| z_cons (ok_goto (tgt := 44) (by decide) rfl dX8_tagsJammed_40 rfl) <| z_cons (ok_iconst (by decide) dX8_tagsJammed_43 rfl rfl) <| z_cons (ok_ior dX8_tagsJammed_44 rfl rfl) <| z_cons (ok_istore_n (Nat.le_of_ble_eq_true rfl) dX8_tagsJammed_45 rfl rfl) <| z_cons (ok_iinc (by decide) (Nat.le_of_ble_eq_true rfl) dX8_tagsJammed_46 rfl rfl) <| z_cons (ok_goto (tgt := 4) (by decide) rfl dX8_tagsJammed_49 rfl) <| z_cons (ok_iload_n dX8_tagsJammed_52 rfl rfl) <| z_cons (ok_iret rfl dX8_tagsJammed_53 rfl) <| z_nil
theorem dX8_isJammed_0 : decode cX8_isJammed 0 = .ok (.aload_n 0, 1) := by decide +kernel
theorem dX8_isJammed_1 : decode cX8_isJammed 1 = .ok (.aload_n 1, 1) := by decide +kernel
theorem dX8_isJammed_2 : decode cX8_isJammed 2 = .ok (.getfield 86, 3) := by decide +kernel
theorem dX8_isJammed_5 : decode cX8_isJammed 5 = .ok (.invokevirtual 95, 3) := by decide +kernel
theorem dX8_isJammed_8 : decode cX8_isJammed 8 = .ok (.astore_n 3, 1) := by decide +kernel
theorem dX8_isJammed_9 : decode cX8_isJammed 9 = .ok (.aload_n 3, 1) := by decide +kernel
theorem dX8_isJammed_10 : decode cX8_isJammed 10 = .ok (.ifnonnull 5, 3) := by decide +kernel
theorem dX8_isJammed_13 : decode cX8_isJammed 13 = .ok (.iconst 0, 1) := by decide +kernel
theorem dX8_isJammed_14 : decode cX8_isJammed 14 = .ok (.ireturn, 1) := by decide +kernel
theorem dX8_isJammed_15 : decode cX8_isJammed 15 = .ok (.iconst 0, 1) := by decide +kernel
theorem dX8_isJammed_16 : decode cX8_isJammed 16 = .ok (.istore 4, 2) := by decide +kernel
theorem dX8_isJammed_18 : decode cX8_isJammed 18 = .ok (.iload 4, 2) := by decide +kernel
theorem dX8_isJammed_20 : decode cX8_isJammed 20 = .ok (.iconst 4, 1) := by decide +kernel
theorem dX8_isJammed_21 : decode cX8_isJammed 21 = .ok (.if_icmp .ge 68, 3) := by decide +kernel
theorem dX8_isJammed_24 : decode cX8_isJammed 24 = .ok (.iload_n 2, 1) := by decide +kernel
theorem dX8_isJammed_25 : decode cX8_isJammed 25 = .ok (.iload 4, 2) := by decide +kernel
theorem dX8_isJammed_27 : decode cX8_isJammed 27 = .ok (.ishr, 1) := by decide +kernel
theorem dX8_isJammed_28 : decode cX8_isJammed 28 = .ok (.iconst 1, 1) := by decide +kernel
theorem dX8_isJammed_29 : decode cX8_isJammed 29 = .ok (.iand, 1) := by decide +kernel
theorem dX8_isJammed_30 : decode cX8_isJammed 30 = .ok (.iconst 1, 1) := by decide +kernel
theorem dX8_isJammed_31 : decode cX8_isJammed 31 = .ok (.if_icmp .ne 16, 3) := by decide +kernel
theorem dX8_isJammed_34 : decode cX8_isJammed 34 = .ok (.aload_n 1, 1) := by decide +kernel
theorem dX8_isJammed_35 : decode cX8_isJammed 35 = .ok (.iload 4, 2) := by decide +kernel
theorem dX8_isJammed_37 : decode cX8_isJammed 37 = .ok (.invokevirtual 89, 3) := by decide +kernel
theorem dX8_isJammed_40 : decode cX8_isJammed 40 = .ok (.ifCond .eq 7, 3) := by decide +kernel
theorem dX8_isJammed_43 : decode cX8_isJammed 43 = .ok (.iconst 1, 1) := by decide +kernel
theorem dX8_isJammed_44 : decode cX8_isJammed 44 = .ok (.goto 4, 3) := by decide +kernel
theorem dX8_isJammed_47 : decode cX8_isJammed 47 = .ok (.iconst 0, 1) := by decide +kernel
theorem dX8_isJammed_48 : decode cX8_isJammed 48 = .ok (.istore 5, 2) := by decide +kernel
theorem dX8_isJammed_50 : decode cX8_isJammed 50 = .ok (.iload 4, 2) := by decide +kernel
theorem dX8_isJammed_52 : decode cX8_isJammed 52 = .ok (.aload_n 1, 1) := by decide +kernel
theorem dX8_isJammed_53 : decode cX8_isJammed 53 = .ok (.getfield 86, 3) := by decide +kernel
theorem dX8_isJammed_56 : decode cX8_isJammed 56 = .ok (.if_icmp .eq 27, 3) := by decide +kernel
theorem dX8_isJammed_59 : decode cX8_isJammed 59 = .ok (.iload 5, 2) := by decide +kernel
theorem dX8_isJammed_61 : decode cX8_isJammed 61 = .ok (.ifCond .eq 22, 3) := by decide +kernel
theorem dX8_isJammed_64 : decode cX8_isJammed 64 = .ok (.aload_n 0, 1) := by decide +kernel
theorem dX8_isJammed_65 : decode cX8_isJammed 65 = .ok (.getfield 19, 3) := by decide +kernel
theorem dX8_isJammed_68 : decode cX8_isJammed 68 = .ok (.iload 4, 2) := by decide +kernel
theorem dX8_isJammed_70 : decode cX8_isJammed 70 = .ok (.aaload, 1) := by decide +kernel
theorem dX8_isJammed_71 : decode cX8_isJammed 71 = .ok (.getfield 203, 3) := by decide +kernel
theorem dX8_isJammed_74 : decode cX8_isJammed 74 = .ok (.aload_n 3, 1) := by decide +kernel
theorem dX8_isJammed_75 : decode cX8_isJammed 75 = .ok (.getfield 203, 3) := by decide +kernel
theorem dX8_isJammed_78 : decode cX8_isJammed 78 = .ok (.if_icmp .ne 5, 3) := by decide +kernel
theorem dX8_isJammed_81 : decode cX8_isJammed 81 = .ok (.iconst 1, 1) := by decide +kernel
theorem dX8_isJammed_82 : decode cX8_isJammed 82 = .ok (.ireturn, 1) := by decide +kernel
theorem dX8_isJammed_83 : decode cX8_isJammed 83 = .ok (.iinc 4 1, 3) := by decide +kernel
theorem dX8_isJammed_86 : decode cX8_isJammed 86 = .ok (.goto (-68), 3) := by decide +kernel
theorem dX8_isJammed_89 : decode cX8_isJammed 89 = .ok (.iconst 0, 1) := by decide +kernel
theorem dX8_isJammed_90 : decode cX8_isJammed 90 = .ok (.ireturn, 1) := by decide +kernel
set_option maxRecDepth 20000 in
theorem zl_X8_isJammed_1 : z_All z_tab cX8_isJammed 6 (some .boolean) RX8 pc_X8_isJammed 40 (k_X8_isJammed.drop 40) := z_cons (ok_aload_n dX8_isJammed_74 rfl rfl) <| z_cons (ok_get ⟨by decide, by decide, by decide⟩ (ci := 3) (T := TX3) rfl rfl (Nat.le_of_ble_eq_true rfl) iw_X3 qw_467 gv_4_4 dX8_isJammed_75 rfl rfl) <| z_cons (ok_icmp_ne (tgt := 83) (by decide) rfl dX8_isJammed_78 rfl rfl) <| z_cons (ok_iconst (by decide) dX8_isJammed_81 rfl rfl) <| z_cons (ok_zret rfl dX8_isJammed_82 rfl) <| z_cons (ok_iinc (by decide) (Nat.le_of_ble_eq_true rfl) dX8_isJammed_83 rfl rfl) <| z_cons (ok_goto (tgt := 18) (by decide) rfl dX8_isJammed_86 rfl) <| z_cons (ok_iconst (by decide) dX8_isJammed_89 rfl rfl) <| z_cons (ok_zret rfl dX8_isJammed_90 rfl) <| z_nil
set_option maxRecDepth 20000 in
theorem zl_X8_isJammed_0 : z_All z_tab cX8_isJammed 6 (some .boolean) RX8 pc_X8_isJammed 0 (k_X8_isJammed.drop 0) := z_cons (ok_aload_n dX8_isJammed_0 rfl rfl) <| z_cons (ok_aload_n dX8_isJammed_1 rfl rfl) <| z_cons (ok_get ⟨by decide, by decide, by decide⟩ (ci := 4) (T := TX6) rfl rfl (Nat.le_of_ble_eq_true rfl) iw_X6 qw_400 gv_7_4 dX8_isJammed_2 rfl rfl) <| z_cons (ok_callv ⟨by decide, by decide, by decide⟩ (ci := 6) (C := RX8) (T := TX8) rfl go_9 (k := 92) (n := 1) qw_123 qw_124 ⟨by decide +kernel, by decide +kernel, by decide +kernel⟩ (Nat.le_of_ble_eq_true rfl) qw_404 qw_126 qw_127 dX8_isJammed_5 rfl rfl) <| z_cons (ok_astore_n (Nat.le_of_ble_eq_true rfl) dX8_isJammed_8 rfl rfl) <| z_cons (ok_aload_n dX8_isJammed_9 rfl rfl) <| z_cons (ok_ifnonnull (tgt := 15) (by decide) rfl dX8_isJammed_10 rfl rfl) <| z_cons (ok_iconst (by decide) dX8_isJammed_13 rfl rfl) <| z_cons (ok_zret rfl dX8_isJammed_14 rfl) <| z_cons (ok_iconst (by decide) dX8_isJammed_15 rfl rfl) <| z_cons (ok_istore (Nat.le_of_ble_eq_true rfl) dX8_isJammed_16 rfl rfl) <| z_cons (ok_iload dX8_isJammed_18 rfl rfl) <| z_cons (ok_iconst (by decide) dX8_isJammed_20 rfl rfl) <| z_cons (ok_icmp_ge (tgt := 89) (by decide) rfl dX8_isJammed_21 rfl rfl) <| z_cons (ok_iload_n dX8_isJammed_24 rfl rfl) <| z_cons (ok_iload dX8_isJammed_25 rfl rfl) <| z_cons (ok_ishr dX8_isJammed_27 rfl rfl) <| z_cons (ok_iconst (by decide) dX8_isJammed_28 rfl rfl) <| z_cons (ok_iand dX8_isJammed_29 rfl rfl) <| z_cons (ok_iconst (by decide) dX8_isJammed_30 rfl rfl) <| z_cons (ok_icmp_ne (tgt := 47) (by decide) rfl dX8_isJammed_31 rfl rfl) <| z_cons (ok_aload_n dX8_isJammed_34 rfl rfl) <| z_cons (ok_iload dX8_isJammed_35 rfl rfl) <| z_cons (ok_callv ⟨by decide, by decide, by decide⟩ (ci := 4) (C := RX6) (T := TX6) rfl go_7 (k := 82) (n := 1) qw_313 qw_203 ⟨by decide +kernel, by decide +kernel, by decide +kernel⟩ (Nat.le_of_ble_eq_true rfl) qw_401 qw_315 qw_316 dX8_isJammed_37 rfl rfl) <| z_cons (ok_if_eq (tgt := 47) (by decide) rfl dX8_isJammed_40 rfl rfl) <| z_cons (ok_iconst (by decide) dX8_isJammed_43 rfl rfl) <| z_cons (ok_goto (tgt := 48) (by decide) rfl dX8_isJammed_44 rfl) <| z_cons (ok_iconst (by decide) dX8_isJammed_47 rfl rfl) <| z_cons (ok_istore (Nat.le_of_ble_eq_true rfl) dX8_isJammed_48 rfl rfl) <| z_cons (ok_iload dX8_isJammed_50 rfl rfl) <| z_cons (ok_aload_n dX8_isJammed_52 rfl rfl) <| z_cons (ok_get ⟨by decide, by decide, by decide⟩ (ci := 4) (T := TX6) rfl rfl (Nat.le_of_ble_eq_true rfl) iw_X6 qw_400 gv_7_4 dX8_isJammed_53 rfl rfl) <| z_cons (ok_icmp_eq (tgt := 83) (by decide) rfl dX8_isJammed_56 rfl rfl) <| z_cons (ok_iload dX8_isJammed_59 rfl rfl) <| z_cons (ok_if_eq (tgt := 83) (by decide) rfl dX8_isJammed_61 rfl rfl) <| z_cons (ok_aload_n dX8_isJammed_64 rfl rfl) <| z_cons (ok_getr (k := 2) ⟨by decide, by decide, by decide⟩ (ci := 6) (T := TX8) rfl rfl (Nat.le_of_ble_eq_true rfl) iw_X8 qw_374 gr_9_2 (fun _ _ => by simp) (fun w i => List.mem_of_getElem? (i := 2) rfl) dX8_isJammed_65 rfl rfl) <| z_cons (ok_iload dX8_isJammed_68 rfl rfl) <| z_cons (ok_aald dX8_isJammed_70 rfl rfl) <| z_cons (ok_get ⟨by decide, by decide, by decide⟩ (ci := 3) (T := TX3) rfl rfl (Nat.le_of_ble_eq_true rfl) iw_X3 qw_467 gv_4_4 dX8_isJammed_71 rfl rfl) <| zl_X8_isJammed_1
theorem dX8_readersOn_0 : decode cX8_readersOn 0 = .ok (.iconst 0, 1) := by decide +kernel
theorem dX8_readersOn_1 : decode cX8_readersOn 1 = .ok (.istore_n 1, 1) := by decide +kernel
theorem dX8_readersOn_2 : decode cX8_readersOn 2 = .ok (.iconst 0, 1) := by decide +kernel
theorem dX8_readersOn_3 : decode cX8_readersOn 3 = .ok (.istore_n 2, 1) := by decide +kernel
theorem dX8_readersOn_4 : decode cX8_readersOn 4 = .ok (.iload_n 2, 1) := by decide +kernel
theorem dX8_readersOn_5 : decode cX8_readersOn 5 = .ok (.iconst 4, 1) := by decide +kernel
theorem dX8_readersOn_6 : decode cX8_readersOn 6 = .ok (.if_icmp .ge 31, 3) := by decide +kernel
theorem dX8_readersOn_9 : decode cX8_readersOn 9 = .ok (.iload_n 1, 1) := by decide +kernel
theorem dX8_readersOn_10 : decode cX8_readersOn 10 = .ok (.aload_n 0, 1) := by decide +kernel
theorem dX8_readersOn_11 : decode cX8_readersOn 11 = .ok (.getfield 19, 3) := by decide +kernel
theorem dX8_readersOn_14 : decode cX8_readersOn 14 = .ok (.iload_n 2, 1) := by decide +kernel
theorem dX8_readersOn_15 : decode cX8_readersOn 15 = .ok (.aaload, 1) := by decide +kernel
theorem dX8_readersOn_16 : decode cX8_readersOn 16 = .ok (.getfield 99, 3) := by decide +kernel
theorem dX8_readersOn_19 : decode cX8_readersOn 19 = .ok (.ifCond .eq 9, 3) := by decide +kernel
theorem dX8_readersOn_22 : decode cX8_readersOn 22 = .ok (.iconst 1, 1) := by decide +kernel
theorem dX8_readersOn_23 : decode cX8_readersOn 23 = .ok (.iload_n 2, 1) := by decide +kernel
theorem dX8_readersOn_24 : decode cX8_readersOn 24 = .ok (.ishl, 1) := by decide +kernel
theorem dX8_readersOn_25 : decode cX8_readersOn 25 = .ok (.goto 4, 3) := by decide +kernel
theorem dX8_readersOn_28 : decode cX8_readersOn 28 = .ok (.iconst 0, 1) := by decide +kernel
theorem dX8_readersOn_29 : decode cX8_readersOn 29 = .ok (.ior, 1) := by decide +kernel
theorem dX8_readersOn_30 : decode cX8_readersOn 30 = .ok (.istore_n 1, 1) := by decide +kernel
theorem dX8_readersOn_31 : decode cX8_readersOn 31 = .ok (.iinc 2 1, 3) := by decide +kernel
theorem dX8_readersOn_34 : decode cX8_readersOn 34 = .ok (.goto (-30), 3) := by decide +kernel
theorem dX8_readersOn_37 : decode cX8_readersOn 37 = .ok (.iload_n 1, 1) := by decide +kernel
theorem dX8_readersOn_38 : decode cX8_readersOn 38 = .ok (.ireturn, 1) := by decide +kernel
set_option maxRecDepth 20000 in
theorem zl_X8_readersOn_0 : z_All z_tab cX8_readersOn 3 (some .int) RX8 pc_X8_readersOn 0 (k_X8_readersOn.drop 0) := z_cons (ok_iconst (by decide) dX8_readersOn_0 rfl rfl) <| z_cons (ok_istore_n (Nat.le_of_ble_eq_true rfl) dX8_readersOn_1 rfl rfl) <| z_cons (ok_iconst (by decide) dX8_readersOn_2 rfl rfl) <| z_cons (ok_istore_n (Nat.le_of_ble_eq_true rfl) dX8_readersOn_3 rfl rfl) <| z_cons (ok_iload_n dX8_readersOn_4 rfl rfl) <| z_cons (ok_iconst (by decide) dX8_readersOn_5 rfl rfl) <| z_cons (ok_icmp_ge (tgt := 37) (by decide) rfl dX8_readersOn_6 rfl rfl) <| z_cons (ok_iload_n dX8_readersOn_9 rfl rfl) <| z_cons (ok_aload_n dX8_readersOn_10 rfl rfl) <| z_cons (ok_getr (k := 2) ⟨by decide, by decide, by decide⟩ (ci := 6) (T := TX8) rfl rfl (Nat.le_of_ble_eq_true rfl) iw_X8 qw_374 gr_9_2 (fun _ _ => by simp) (fun w i => List.mem_of_getElem? (i := 2) rfl) dX8_readersOn_11 rfl rfl) <| z_cons (ok_iload_n dX8_readersOn_14 rfl rfl) <| z_cons (ok_aald dX8_readersOn_15 rfl rfl) <| z_cons (ok_get ⟨by decide, by decide, by decide⟩ (ci := 3) (T := TX3) rfl rfl (Nat.le_of_ble_eq_true rfl) iw_X3 qw_405 gv_4_0 dX8_readersOn_16 rfl rfl) <| z_cons (ok_if_eq (tgt := 28) (by decide) rfl dX8_readersOn_19 rfl rfl) <| z_cons (ok_iconst (by decide) dX8_readersOn_22 rfl rfl) <| z_cons (ok_iload_n dX8_readersOn_23 rfl rfl) <| z_cons (ok_ishl dX8_readersOn_24 rfl rfl) <| z_cons (ok_goto (tgt := 29) (by decide) rfl dX8_readersOn_25 rfl) <| z_cons (ok_iconst (by decide) dX8_readersOn_28 rfl rfl) <| z_cons (ok_ior dX8_readersOn_29 rfl rfl) <| z_cons (ok_istore_n (Nat.le_of_ble_eq_true rfl) dX8_readersOn_30 rfl rfl) <| z_cons (ok_iinc (by decide) (Nat.le_of_ble_eq_true rfl) dX8_readersOn_31 rfl rfl) <| z_cons (ok_goto (tgt := 4) (by decide) rfl dX8_readersOn_34 rfl) <| z_cons (ok_iload_n dX8_readersOn_37 rfl rfl) <| z_cons (ok_iret rfl dX8_readersOn_38 rfl) <| z_nil
theorem dX8_readersTaking_0 : decode cX8_readersTaking 0 = .ok (.iconst 0, 1) := by decide +kernel
theorem dX8_readersTaking_1 : decode cX8_readersTaking 1 = .ok (.istore_n 1, 1) := by decide +kernel
theorem dX8_readersTaking_2 : decode cX8_readersTaking 2 = .ok (.iconst 0, 1) := by decide +kernel
theorem dX8_readersTaking_3 : decode cX8_readersTaking 3 = .ok (.istore_n 2, 1) := by decide +kernel
theorem dX8_readersTaking_4 : decode cX8_readersTaking 4 = .ok (.iload_n 2, 1) := by decide +kernel
theorem dX8_readersTaking_5 : decode cX8_readersTaking 5 = .ok (.iconst 4, 1) := by decide +kernel
theorem dX8_readersTaking_6 : decode cX8_readersTaking 6 = .ok (.if_icmp .ge 31, 3) := by decide +kernel
theorem dX8_readersTaking_9 : decode cX8_readersTaking 9 = .ok (.iload_n 1, 1) := by decide +kernel
theorem dX8_readersTaking_10 : decode cX8_readersTaking 10 = .ok (.aload_n 0, 1) := by decide +kernel
theorem dX8_readersTaking_11 : decode cX8_readersTaking 11 = .ok (.getfield 19, 3) := by decide +kernel
theorem dX8_readersTaking_14 : decode cX8_readersTaking 14 = .ok (.iload_n 2, 1) := by decide +kernel
theorem dX8_readersTaking_15 : decode cX8_readersTaking 15 = .ok (.aaload, 1) := by decide +kernel
theorem dX8_readersTaking_16 : decode cX8_readersTaking 16 = .ok (.getfield 206, 3) := by decide +kernel
theorem dX8_readersTaking_19 : decode cX8_readersTaking 19 = .ok (.ifCond .eq 9, 3) := by decide +kernel
theorem dX8_readersTaking_22 : decode cX8_readersTaking 22 = .ok (.iconst 1, 1) := by decide +kernel
theorem dX8_readersTaking_23 : decode cX8_readersTaking 23 = .ok (.iload_n 2, 1) := by decide +kernel
theorem dX8_readersTaking_24 : decode cX8_readersTaking 24 = .ok (.ishl, 1) := by decide +kernel
theorem dX8_readersTaking_25 : decode cX8_readersTaking 25 = .ok (.goto 4, 3) := by decide +kernel
theorem dX8_readersTaking_28 : decode cX8_readersTaking 28 = .ok (.iconst 0, 1) := by decide +kernel
theorem dX8_readersTaking_29 : decode cX8_readersTaking 29 = .ok (.ior, 1) := by decide +kernel
theorem dX8_readersTaking_30 : decode cX8_readersTaking 30 = .ok (.istore_n 1, 1) := by decide +kernel
theorem dX8_readersTaking_31 : decode cX8_readersTaking 31 = .ok (.iinc 2 1, 3) := by decide +kernel
theorem dX8_readersTaking_34 : decode cX8_readersTaking 34 = .ok (.goto (-30), 3) := by decide +kernel
theorem dX8_readersTaking_37 : decode cX8_readersTaking 37 = .ok (.iload_n 1, 1) := by decide +kernel
theorem dX8_readersTaking_38 : decode cX8_readersTaking 38 = .ok (.ireturn, 1) := by decide +kernel
set_option maxRecDepth 20000 in
theorem zl_X8_readersTaking_0 : z_All z_tab cX8_readersTaking 3 (some .int) RX8 pc_X8_readersTaking 0 (k_X8_readersTaking.drop 0) := z_cons (ok_iconst (by decide) dX8_readersTaking_0 rfl rfl) <| z_cons (ok_istore_n (Nat.le_of_ble_eq_true rfl) dX8_readersTaking_1 rfl rfl) <| z_cons (ok_iconst (by decide) dX8_readersTaking_2 rfl rfl) <| z_cons (ok_istore_n (Nat.le_of_ble_eq_true rfl) dX8_readersTaking_3 rfl rfl) <| z_cons (ok_iload_n dX8_readersTaking_4 rfl rfl) <| z_cons (ok_iconst (by decide) dX8_readersTaking_5 rfl rfl) <| z_cons (ok_icmp_ge (tgt := 37) (by decide) rfl dX8_readersTaking_6 rfl rfl) <| z_cons (ok_iload_n dX8_readersTaking_9 rfl rfl) <| z_cons (ok_aload_n dX8_readersTaking_10 rfl rfl) <| z_cons (ok_getr (k := 2) ⟨by decide, by decide, by decide⟩ (ci := 6) (T := TX8) rfl rfl (Nat.le_of_ble_eq_true rfl) iw_X8 qw_374 gr_9_2 (fun _ _ => by simp) (fun w i => List.mem_of_getElem? (i := 2) rfl) dX8_readersTaking_11 rfl rfl) <| z_cons (ok_iload_n dX8_readersTaking_14 rfl rfl) <| z_cons (ok_aald dX8_readersTaking_15 rfl rfl) <| z_cons (ok_get ⟨by decide, by decide, by decide⟩ (ci := 3) (T := TX3) rfl rfl (Nat.le_of_ble_eq_true rfl) iw_X3 qw_468 gv_4_1 dX8_readersTaking_16 rfl rfl) <| z_cons (ok_if_eq (tgt := 28) (by decide) rfl dX8_readersTaking_19 rfl rfl) <| z_cons (ok_iconst (by decide) dX8_readersTaking_22 rfl rfl) <| z_cons (ok_iload_n dX8_readersTaking_23 rfl rfl) <| z_cons (ok_ishl dX8_readersTaking_24 rfl rfl) <| z_cons (ok_goto (tgt := 29) (by decide) rfl dX8_readersTaking_25 rfl) <| z_cons (ok_iconst (by decide) dX8_readersTaking_28 rfl rfl) <| z_cons (ok_ior dX8_readersTaking_29 rfl rfl) <| z_cons (ok_istore_n (Nat.le_of_ble_eq_true rfl) dX8_readersTaking_30 rfl rfl) <| z_cons (ok_iinc (by decide) (Nat.le_of_ble_eq_true rfl) dX8_readersTaking_31 rfl rfl) <| z_cons (ok_goto (tgt := 4) (by decide) rfl dX8_readersTaking_34 rfl) <| z_cons (ok_iload_n dX8_readersTaking_37 rfl rfl) <| z_cons (ok_iret rfl dX8_readersTaking_38 rfl) <| z_nil
theorem dX8_tells_0 : decode cX8_tells 0 = .ok (.iload_n 1, 1) := by decide +kernel
theorem dX8_tells_1 : decode cX8_tells 1 = .ok (.tableswitch 103 0 10 #[59, 64, 69, 74, 79, 79, 79, 79, 85, 90, 95], 59) := by decide +kernel
theorem dX8_tells_60 : decode cX8_tells 60 = .ok (.aload_n 0, 1) := by decide +kernel
theorem dX8_tells_61 : decode cX8_tells 61 = .ok (.getfield 51, 3) := by decide +kernel
theorem dX8_tells_64 : decode cX8_tells 64 = .ok (.ireturn, 1) := by decide +kernel
theorem dX8_tells_65 : decode cX8_tells 65 = .ok (.aload_n 0, 1) := by decide +kernel
theorem dX8_tells_66 : decode cX8_tells 66 = .ok (.getfield 59, 3) := by decide +kernel
theorem dX8_tells_69 : decode cX8_tells 69 = .ok (.ireturn, 1) := by decide +kernel
theorem dX8_tells_70 : decode cX8_tells 70 = .ok (.aload_n 0, 1) := by decide +kernel
theorem dX8_tells_71 : decode cX8_tells 71 = .ok (.getfield 34, 3) := by decide +kernel
theorem dX8_tells_74 : decode cX8_tells 74 = .ok (.ireturn, 1) := by decide +kernel
theorem dX8_tells_75 : decode cX8_tells 75 = .ok (.aload_n 0, 1) := by decide +kernel
theorem dX8_tells_76 : decode cX8_tells 76 = .ok (.getfield 38, 3) := by decide +kernel
theorem dX8_tells_79 : decode cX8_tells 79 = .ok (.ireturn, 1) := by decide +kernel
theorem dX8_tells_80 : decode cX8_tells 80 = .ok (.aload_n 0, 1) := by decide +kernel
theorem dX8_tells_81 : decode cX8_tells 81 = .ok (.iload_n 1, 1) := by decide +kernel
theorem dX8_tells_82 : decode cX8_tells 82 = .ok (.invokevirtual 209, 3) := by decide +kernel
theorem dX8_tells_85 : decode cX8_tells 85 = .ok (.ireturn, 1) := by decide +kernel
theorem dX8_tells_86 : decode cX8_tells 86 = .ok (.aload_n 0, 1) := by decide +kernel
theorem dX8_tells_87 : decode cX8_tells 87 = .ok (.invokevirtual 108, 3) := by decide +kernel
theorem dX8_tells_90 : decode cX8_tells 90 = .ok (.ireturn, 1) := by decide +kernel
theorem dX8_tells_91 : decode cX8_tells 91 = .ok (.aload_n 0, 1) := by decide +kernel
theorem dX8_tells_92 : decode cX8_tells 92 = .ok (.invokevirtual 150, 3) := by decide +kernel
theorem dX8_tells_95 : decode cX8_tells 95 = .ok (.ireturn, 1) := by decide +kernel
theorem dX8_tells_96 : decode cX8_tells 96 = .ok (.aload_n 0, 1) := by decide +kernel
theorem dX8_tells_97 : decode cX8_tells 97 = .ok (.getfield 26, 3) := by decide +kernel
theorem dX8_tells_100 : decode cX8_tells 100 = .ok (.getfield 212, 3) := by decide +kernel
theorem dX8_tells_103 : decode cX8_tells 103 = .ok (.ireturn, 1) := by decide +kernel
theorem dX8_tells_104 : decode cX8_tells 104 = .ok (.ldc 215, 2) := by decide +kernel
theorem dX8_tells_106 : decode cX8_tells 106 = .ok (.ireturn, 1) := by decide +kernel
set_option maxRecDepth 20000 in
theorem zl_X8_tells_0 : z_All z_tab cX8_tells 2 (some .int) RX8 pc_X8_tells 0 (k_X8_tells.drop 0) := z_cons (ok_iload_n dX8_tells_0 rfl rfl) <| z_cons (ok_tsw (lo := 0) dX8_tells_1 rfl (Nat.le_of_ble_eq_true rfl) (by decide) (by decide +kernel) (by decide)) <| z_cons (ok_aload_n dX8_tells_60 rfl rfl) <| z_cons (ok_get ⟨by decide, by decide, by decide⟩ (ci := 6) (T := TX8) rfl rfl (Nat.le_of_ble_eq_true rfl) iw_X8 qw_376 gv_9_5 dX8_tells_61 rfl rfl) <| z_cons (ok_iret rfl dX8_tells_64 rfl) <| z_cons (ok_aload_n dX8_tells_65 rfl rfl) <| z_cons (ok_get ⟨by decide, by decide, by decide⟩ (ci := 6) (T := TX8) rfl rfl (Nat.le_of_ble_eq_true rfl) iw_X8 qw_383 gv_9_6 dX8_tells_66 rfl rfl) <| z_cons (ok_iret rfl dX8_tells_69 rfl) <| z_cons (ok_aload_n dX8_tells_70 rfl rfl) <| z_cons (ok_get ⟨by decide, by decide, by decide⟩ (ci := 6) (T := TX8) rfl rfl (Nat.le_of_ble_eq_true rfl) iw_X8 qw_385 gv_9_7 dX8_tells_71 rfl rfl) <| z_cons (ok_iret rfl dX8_tells_74 rfl) <| z_cons (ok_aload_n dX8_tells_75 rfl rfl) <| z_cons (ok_get ⟨by decide, by decide, by decide⟩ (ci := 6) (T := TX8) rfl rfl (Nat.le_of_ble_eq_true rfl) iw_X8 qw_386 gv_9_8 dX8_tells_76 rfl rfl) <| z_cons (ok_iret rfl dX8_tells_79 rfl) <| z_cons (ok_aload_n dX8_tells_80 rfl rfl) <| z_cons (ok_iload_n dX8_tells_81 rfl rfl) <| z_cons (ok_callv ⟨by decide, by decide, by decide⟩ (ci := 6) (C := RX8) (T := TX8) rfl go_9 (k := 118) (n := 1) qw_469 qw_124 ⟨by decide +kernel, by decide +kernel, by decide +kernel⟩ (Nat.le_of_ble_eq_true rfl) qw_470 qw_471 qw_472 dX8_tells_82 rfl rfl) <| z_cons (ok_iret rfl dX8_tells_85 rfl) <| z_cons (ok_aload_n dX8_tells_86 rfl rfl) <| z_cons (ok_callv ⟨by decide, by decide, by decide⟩ (ci := 6) (C := RX8) (T := TX8) rfl go_9 (k := 115) (n := 0) qw_409 qw_124 ⟨by decide +kernel, by decide +kernel, by decide +kernel⟩ (Nat.le_of_ble_eq_true rfl) qw_410 qw_411 qw_412 dX8_tells_87 rfl rfl) <| z_cons (ok_iret rfl dX8_tells_90 rfl) <| z_cons (ok_aload_n dX8_tells_91 rfl rfl) <| z_cons (ok_callv ⟨by decide, by decide, by decide⟩ (ci := 6) (C := RX8) (T := TX8) rfl go_9 (k := 116) (n := 0) qw_432 qw_124 ⟨by decide +kernel, by decide +kernel, by decide +kernel⟩ (Nat.le_of_ble_eq_true rfl) qw_433 qw_434 qw_435 dX8_tells_92 rfl rfl) <| z_cons (ok_iret rfl dX8_tells_95 rfl) <| z_cons (ok_aload_n dX8_tells_96 rfl rfl) <| z_cons (ok_getr (k := 3) ⟨by decide, by decide, by decide⟩ (ci := 6) (T := TX8) rfl rfl (Nat.le_of_ble_eq_true rfl) iw_X8 qw_375 gr_9_3 (fun _ _ => by simp) (fun w i => List.mem_of_getElem? (i := 3) rfl) dX8_tells_97 rfl rfl) <| z_cons (ok_get ⟨by decide, by decide, by decide⟩ (ci := 1) (T := TX1) rfl rfl (Nat.le_of_ble_eq_true rfl) iw_X1 qw_473 gv_2_1 dX8_tells_100 rfl rfl) <| z_cons (ok_iret rfl dX8_tells_103 rfl) <| z_cons (ok_ldc qw_474 dX8_tells_104 rfl rfl) <| z_cons (ok_iret rfl dX8_tells_106 rfl) <| z_nil
theorem dX8_tagsThat_0 : decode cX8_tagsThat 0 = .ok (.iconst 0, 1) := by decide +kernel
theorem dX8_tagsThat_1 : decode cX8_tagsThat 1 = .ok (.istore_n 2, 1) := by decide +kernel
theorem dX8_tagsThat_2 : decode cX8_tagsThat 2 = .ok (.iconst 0, 1) := by decide +kernel
theorem dX8_tagsThat_3 : decode cX8_tagsThat 3 = .ok (.istore_n 3, 1) := by decide +kernel
theorem dX8_tagsThat_4 : decode cX8_tagsThat 4 = .ok (.iload_n 3, 1) := by decide +kernel
theorem dX8_tagsThat_5 : decode cX8_tagsThat 5 = .ok (.bipush 24, 2) := by decide +kernel
theorem dX8_tagsThat_7 : decode cX8_tagsThat 7 = .ok (.if_icmp .ge 94, 3) := by decide +kernel
theorem dX8_tagsThat_10 : decode cX8_tagsThat 10 = .ok (.aload_n 0, 1) := by decide +kernel
theorem dX8_tagsThat_11 : decode cX8_tagsThat 11 = .ok (.getfield 11, 3) := by decide +kernel
theorem dX8_tagsThat_14 : decode cX8_tagsThat 14 = .ok (.iload_n 3, 1) := by decide +kernel
theorem dX8_tagsThat_15 : decode cX8_tagsThat 15 = .ok (.aaload, 1) := by decide +kernel
theorem dX8_tagsThat_16 : decode cX8_tagsThat 16 = .ok (.astore 4, 2) := by decide +kernel
theorem dX8_tagsThat_18 : decode cX8_tagsThat 18 = .ok (.iload_n 1, 1) := by decide +kernel
theorem dX8_tagsThat_19 : decode cX8_tagsThat 19 = .ok (.iconst 4, 1) := by decide +kernel
theorem dX8_tagsThat_20 : decode cX8_tagsThat 20 = .ok (.if_icmp .eq 47, 3) := by decide +kernel
theorem dX8_tagsThat_23 : decode cX8_tagsThat 23 = .ok (.iload_n 1, 1) := by decide +kernel
theorem dX8_tagsThat_24 : decode cX8_tagsThat 24 = .ok (.iconst 5, 1) := by decide +kernel
theorem dX8_tagsThat_25 : decode cX8_tagsThat 25 = .ok (.if_icmp .ne 11, 3) := by decide +kernel
theorem dX8_tagsThat_28 : decode cX8_tagsThat 28 = .ok (.aload 4, 2) := by decide +kernel
theorem dX8_tagsThat_30 : decode cX8_tagsThat 30 = .ok (.invokevirtual 114, 3) := by decide +kernel
theorem dX8_tagsThat_33 : decode cX8_tagsThat 33 = .ok (.ifCond .ne 34, 3) := by decide +kernel
theorem dX8_tagsThat_36 : decode cX8_tagsThat 36 = .ok (.iload_n 1, 1) := by decide +kernel
theorem dX8_tagsThat_37 : decode cX8_tagsThat 37 = .ok (.bipush 6, 2) := by decide +kernel
theorem dX8_tagsThat_39 : decode cX8_tagsThat 39 = .ok (.if_icmp .ne 12, 3) := by decide +kernel
theorem dX8_tagsThat_42 : decode cX8_tagsThat 42 = .ok (.aload 4, 2) := by decide +kernel
theorem dX8_tagsThat_44 : decode cX8_tagsThat 44 = .ok (.getfield 86, 3) := by decide +kernel
theorem dX8_tagsThat_47 : decode cX8_tagsThat 47 = .ok (.iconst (-1), 1) := by decide +kernel
theorem dX8_tagsThat_48 : decode cX8_tagsThat 48 = .ok (.if_icmp .ne 19, 3) := by decide +kernel
theorem dX8_tagsThat_51 : decode cX8_tagsThat 51 = .ok (.iload_n 1, 1) := by decide +kernel
theorem dX8_tagsThat_52 : decode cX8_tagsThat 52 = .ok (.bipush 7, 2) := by decide +kernel
theorem dX8_tagsThat_54 : decode cX8_tagsThat 54 = .ok (.if_icmp .ne 17, 3) := by decide +kernel
theorem dX8_tagsThat_57 : decode cX8_tagsThat 57 = .ok (.aload 4, 2) := by decide +kernel
theorem dX8_tagsThat_59 : decode cX8_tagsThat 59 = .ok (.iconst 4, 1) := by decide +kernel
theorem dX8_tagsThat_60 : decode cX8_tagsThat 60 = .ok (.invokevirtual 118, 3) := by decide +kernel
theorem dX8_tagsThat_63 : decode cX8_tagsThat 63 = .ok (.iconst 1, 1) := by decide +kernel
theorem dX8_tagsThat_64 : decode cX8_tagsThat 64 = .ok (.if_icmp .ne 7, 3) := by decide +kernel
theorem dX8_tagsThat_67 : decode cX8_tagsThat 67 = .ok (.iconst 1, 1) := by decide +kernel
theorem dX8_tagsThat_68 : decode cX8_tagsThat 68 = .ok (.goto 4, 3) := by decide +kernel
theorem dX8_tagsThat_71 : decode cX8_tagsThat 71 = .ok (.iconst 0, 1) := by decide +kernel
theorem dX8_tagsThat_72 : decode cX8_tagsThat 72 = .ok (.istore 5, 2) := by decide +kernel
theorem dX8_tagsThat_74 : decode cX8_tagsThat 74 = .ok (.iload_n 2, 1) := by decide +kernel
theorem dX8_tagsThat_75 : decode cX8_tagsThat 75 = .ok (.aload 4, 2) := by decide +kernel
theorem dX8_tagsThat_77 : decode cX8_tagsThat 77 = .ok (.getfield 47, 3) := by decide +kernel
theorem dX8_tagsThat_80 : decode cX8_tagsThat 80 = .ok (.ifCond .eq 12, 3) := by decide +kernel
theorem dX8_tagsThat_83 : decode cX8_tagsThat 83 = .ok (.iload 5, 2) := by decide +kernel
theorem dX8_tagsThat_85 : decode cX8_tagsThat 85 = .ok (.ifCond .eq 7, 3) := by decide +kernel
theorem dX8_tagsThat_88 : decode cX8_tagsThat 88 = .ok (.iconst 1, 1) := by decide +kernel
theorem dX8_tagsThat_89 : decode cX8_tagsThat 89 = .ok (.goto 4, 3) := by decide +kernel
theorem dX8_tagsThat_92 : decode cX8_tagsThat 92 = .ok (.iconst 0, 1) := by decide +kernel
theorem dX8_tagsThat_93 : decode cX8_tagsThat 93 = .ok (.iadd, 1) := by decide +kernel
theorem dX8_tagsThat_94 : decode cX8_tagsThat 94 = .ok (.istore_n 2, 1) := by decide +kernel
theorem dX8_tagsThat_95 : decode cX8_tagsThat 95 = .ok (.iinc 3 1, 3) := by decide +kernel
theorem dX8_tagsThat_98 : decode cX8_tagsThat 98 = .ok (.goto (-94), 3) := by decide +kernel
theorem dX8_tagsThat_101 : decode cX8_tagsThat 101 = .ok (.iload_n 2, 1) := by decide +kernel
theorem dX8_tagsThat_102 : decode cX8_tagsThat 102 = .ok (.ireturn, 1) := by decide +kernel
set_option maxRecDepth 20000 in
theorem zl_X8_tagsThat_1 : z_All z_tab cX8_tagsThat 6 (some .int) RX8 pc_X8_tagsThat 40 (k_X8_tagsThat.drop 40) := z_cons (ok_iload_n dX8_tagsThat_74 rfl rfl) <| z_cons (ok_aload dX8_tagsThat_75 rfl rfl) <| z_cons (ok_get ⟨by decide, by decide, by decide⟩ (ci := 4) (T := TX6) rfl rfl (Nat.le_of_ble_eq_true rfl) iw_X6 qw_373 gv_7_0 dX8_tagsThat_77 rfl rfl) <| z_cons (ok_if_eq (tgt := 92) (by decide) rfl dX8_tagsThat_80 rfl rfl) <| z_cons (ok_iload dX8_tagsThat_83 rfl rfl) <| z_cons (ok_if_eq (tgt := 92) (by decide) rfl dX8_tagsThat_85 rfl rfl) <| z_cons (ok_iconst (by decide) dX8_tagsThat_88 rfl rfl) <| z_cons (ok_goto (tgt := 93) (by decide) rfl dX8_tagsThat_89 rfl) <| z_cons (ok_iconst (by decide) dX8_tagsThat_92 rfl rfl) <| z_cons (ok_iadd dX8_tagsThat_93 rfl rfl) <| z_cons (ok_istore_n (Nat.le_of_ble_eq_true rfl) dX8_tagsThat_94 rfl rfl) <| z_cons (ok_iinc (by decide) (Nat.le_of_ble_eq_true rfl) dX8_tagsThat_95 rfl rfl) <| z_cons (ok_goto (tgt := 4) (by decide) rfl dX8_tagsThat_98 rfl) <| z_cons (ok_iload_n dX8_tagsThat_101 rfl rfl) <| z_cons (ok_iret rfl dX8_tagsThat_102 rfl) <| z_nil
set_option maxRecDepth 20000 in
theorem zl_X8_tagsThat_0 : z_All z_tab cX8_tagsThat 6 (some .int) RX8 pc_X8_tagsThat 0 (k_X8_tagsThat.drop 0) := z_cons (ok_iconst (by decide) dX8_tagsThat_0 rfl rfl) <| z_cons (ok_istore_n (Nat.le_of_ble_eq_true rfl) dX8_tagsThat_1 rfl rfl) <| z_cons (ok_iconst (by decide) dX8_tagsThat_2 rfl rfl) <| z_cons (ok_istore_n (Nat.le_of_ble_eq_true rfl) dX8_tagsThat_3 rfl rfl) <| z_cons (ok_iload_n dX8_tagsThat_4 rfl rfl) <| z_cons (ok_bipush (by decide) dX8_tagsThat_5 rfl rfl) <| z_cons (ok_icmp_ge (tgt := 101) (by decide) rfl dX8_tagsThat_7 rfl rfl) <| z_cons (ok_aload_n dX8_tagsThat_10 rfl rfl) <| z_cons (ok_getr (k := 1) ⟨by decide, by decide, by decide⟩ (ci := 6) (T := TX8) rfl rfl (Nat.le_of_ble_eq_true rfl) iw_X8 qw_372 gr_9_1 (fun _ _ => by simp) (fun w i => List.mem_of_getElem? (i := 1) rfl) dX8_tagsThat_11 rfl rfl) <| z_cons (ok_iload_n dX8_tagsThat_14 rfl rfl) <| z_cons (ok_aald dX8_tagsThat_15 rfl rfl) <| z_cons (ok_astore (Nat.le_of_ble_eq_true rfl) dX8_tagsThat_16 rfl rfl) <| z_cons (ok_iload_n dX8_tagsThat_18 rfl rfl) <| z_cons (ok_iconst (by decide) dX8_tagsThat_19 rfl rfl) <| z_cons (ok_icmp_eq (tgt := 67) (by decide) rfl dX8_tagsThat_20 rfl rfl) <| z_cons (ok_iload_n dX8_tagsThat_23 rfl rfl) <| z_cons (ok_iconst (by decide) dX8_tagsThat_24 rfl rfl) <| z_cons (ok_icmp_ne (tgt := 36) (by decide) rfl dX8_tagsThat_25 rfl rfl) <| z_cons (ok_aload dX8_tagsThat_28 rfl rfl) <| z_cons (ok_callv ⟨by decide, by decide, by decide⟩ (ci := 4) (C := RX6) (T := TX6) rfl go_7 (k := 83) (n := 0) qw_364 qw_203 ⟨by decide +kernel, by decide +kernel, by decide +kernel⟩ (Nat.le_of_ble_eq_true rfl) qw_414 qw_366 qw_367 dX8_tagsThat_30 rfl rfl) <| z_cons (ok_if_ne (tgt := 67) (by decide) rfl dX8_tagsThat_33 rfl rfl) <| z_cons (ok_iload_n dX8_tagsThat_36 rfl rfl) <| z_cons (ok_bipush (by decide) dX8_tagsThat_37 rfl rfl) <| z_cons (ok_icmp_ne (tgt := 51) (by decide) rfl dX8_tagsThat_39 rfl rfl) <| z_cons (ok_aload dX8_tagsThat_42 rfl rfl) <| z_cons (ok_get ⟨by decide, by decide, by decide⟩ (ci := 4) (T := TX6) rfl rfl (Nat.le_of_ble_eq_true rfl) iw_X6 qw_400 gv_7_4 dX8_tagsThat_44 rfl rfl) <| z_cons (ok_iconst (by decide) dX8_tagsThat_47 rfl rfl) <| z_cons (ok_icmp_ne (tgt := 67) (by decide) rfl dX8_tagsThat_48 rfl rfl) <| z_cons (ok_iload_n dX8_tagsThat_51 rfl rfl) <| z_cons (ok_bipush (by decide) dX8_tagsThat_52 rfl rfl) <| z_cons (ok_icmp_ne (tgt := 71) (by decide) rfl dX8_tagsThat_54 rfl rfl) <| z_cons (ok_aload dX8_tagsThat_57 rfl rfl) <| z_cons (ok_iconst (by decide) dX8_tagsThat_59 rfl rfl) <| z_cons (ok_callv ⟨by decide, by decide, by decide⟩ (ci := 4) (C := RX6) (T := TX6) rfl go_7 (k := 81) (n := 1) qw_225 qw_203 ⟨by decide +kernel, by decide +kernel, by decide +kernel⟩ (Nat.le_of_ble_eq_true rfl) qw_415 qw_227 qw_228 dX8_tagsThat_60 rfl rfl) <| z_cons (ok_iconst (by decide) dX8_tagsThat_63 rfl rfl) <| z_cons (ok_icmp_ne (tgt := 71) (by decide) rfl dX8_tagsThat_64 rfl rfl) <| z_cons (ok_iconst (by decide) dX8_tagsThat_67 rfl rfl) <| z_cons (ok_goto (tgt := 72) (by decide) rfl dX8_tagsThat_68 rfl) <| z_cons (ok_iconst (by decide) dX8_tagsThat_71 rfl rfl) <| z_cons (ok_istore (Nat.le_of_ble_eq_true rfl) dX8_tagsThat_72 rfl rfl) <| zl_X8_tagsThat_1
theorem dX8_copyFrom_0 : decode cX8_copyFrom 0 = .ok (.aload_n 0, 1) := by decide +kernel
theorem dX8_copyFrom_1 : decode cX8_copyFrom 1 = .ok (.aload_n 1, 1) := by decide +kernel
theorem dX8_copyFrom_2 : decode cX8_copyFrom 2 = .ok (.getfield 51, 3) := by decide +kernel
theorem dX8_copyFrom_5 : decode cX8_copyFrom 5 = .ok (.putfield 51, 3) := by decide +kernel
theorem dX8_copyFrom_8 : decode cX8_copyFrom 8 = .ok (.aload_n 0, 1) := by decide +kernel
theorem dX8_copyFrom_9 : decode cX8_copyFrom 9 = .ok (.aload_n 1, 1) := by decide +kernel
theorem dX8_copyFrom_10 : decode cX8_copyFrom 10 = .ok (.getfield 59, 3) := by decide +kernel
theorem dX8_copyFrom_13 : decode cX8_copyFrom 13 = .ok (.putfield 59, 3) := by decide +kernel
theorem dX8_copyFrom_16 : decode cX8_copyFrom 16 = .ok (.aload_n 0, 1) := by decide +kernel
theorem dX8_copyFrom_17 : decode cX8_copyFrom 17 = .ok (.aload_n 1, 1) := by decide +kernel
theorem dX8_copyFrom_18 : decode cX8_copyFrom 18 = .ok (.getfield 34, 3) := by decide +kernel
theorem dX8_copyFrom_21 : decode cX8_copyFrom 21 = .ok (.putfield 34, 3) := by decide +kernel
theorem dX8_copyFrom_24 : decode cX8_copyFrom 24 = .ok (.aload_n 0, 1) := by decide +kernel
theorem dX8_copyFrom_25 : decode cX8_copyFrom 25 = .ok (.aload_n 1, 1) := by decide +kernel
theorem dX8_copyFrom_26 : decode cX8_copyFrom 26 = .ok (.getfield 38, 3) := by decide +kernel
theorem dX8_copyFrom_29 : decode cX8_copyFrom 29 = .ok (.putfield 38, 3) := by decide +kernel
theorem dX8_copyFrom_32 : decode cX8_copyFrom 32 = .ok (.iconst 0, 1) := by decide +kernel
theorem dX8_copyFrom_33 : decode cX8_copyFrom 33 = .ok (.istore_n 2, 1) := by decide +kernel
theorem dX8_copyFrom_34 : decode cX8_copyFrom 34 = .ok (.iload_n 2, 1) := by decide +kernel
theorem dX8_copyFrom_35 : decode cX8_copyFrom 35 = .ok (.bipush 24, 2) := by decide +kernel
theorem dX8_copyFrom_37 : decode cX8_copyFrom 37 = .ok (.if_icmp .ge 24, 3) := by decide +kernel
theorem dX8_copyFrom_40 : decode cX8_copyFrom 40 = .ok (.aload_n 0, 1) := by decide +kernel
theorem dX8_copyFrom_41 : decode cX8_copyFrom 41 = .ok (.getfield 11, 3) := by decide +kernel
theorem dX8_copyFrom_44 : decode cX8_copyFrom 44 = .ok (.iload_n 2, 1) := by decide +kernel
theorem dX8_copyFrom_45 : decode cX8_copyFrom 45 = .ok (.aaload, 1) := by decide +kernel
theorem dX8_copyFrom_46 : decode cX8_copyFrom 46 = .ok (.aload_n 1, 1) := by decide +kernel
theorem dX8_copyFrom_47 : decode cX8_copyFrom 47 = .ok (.getfield 11, 3) := by decide +kernel
theorem dX8_copyFrom_50 : decode cX8_copyFrom 50 = .ok (.iload_n 2, 1) := by decide +kernel
theorem dX8_copyFrom_51 : decode cX8_copyFrom 51 = .ok (.aaload, 1) := by decide +kernel
theorem dX8_copyFrom_52 : decode cX8_copyFrom 52 = .ok (.invokevirtual 216, 3) := by decide +kernel
theorem dX8_copyFrom_55 : decode cX8_copyFrom 55 = .ok (.iinc 2 1, 3) := by decide +kernel
theorem dX8_copyFrom_58 : decode cX8_copyFrom 58 = .ok (.goto (-24), 3) := by decide +kernel
theorem dX8_copyFrom_61 : decode cX8_copyFrom 61 = .ok (.iconst 0, 1) := by decide +kernel
theorem dX8_copyFrom_62 : decode cX8_copyFrom 62 = .ok (.istore_n 2, 1) := by decide +kernel
theorem dX8_copyFrom_63 : decode cX8_copyFrom 63 = .ok (.iload_n 2, 1) := by decide +kernel
theorem dX8_copyFrom_64 : decode cX8_copyFrom 64 = .ok (.iconst 4, 1) := by decide +kernel
theorem dX8_copyFrom_65 : decode cX8_copyFrom 65 = .ok (.if_icmp .ge 24, 3) := by decide +kernel
theorem dX8_copyFrom_68 : decode cX8_copyFrom 68 = .ok (.aload_n 0, 1) := by decide +kernel
theorem dX8_copyFrom_69 : decode cX8_copyFrom 69 = .ok (.getfield 19, 3) := by decide +kernel
theorem dX8_copyFrom_72 : decode cX8_copyFrom 72 = .ok (.iload_n 2, 1) := by decide +kernel
theorem dX8_copyFrom_73 : decode cX8_copyFrom 73 = .ok (.aaload, 1) := by decide +kernel
theorem dX8_copyFrom_74 : decode cX8_copyFrom 74 = .ok (.aload_n 1, 1) := by decide +kernel
theorem dX8_copyFrom_75 : decode cX8_copyFrom 75 = .ok (.getfield 19, 3) := by decide +kernel
theorem dX8_copyFrom_78 : decode cX8_copyFrom 78 = .ok (.iload_n 2, 1) := by decide +kernel
theorem dX8_copyFrom_79 : decode cX8_copyFrom 79 = .ok (.aaload, 1) := by decide +kernel
theorem dX8_copyFrom_80 : decode cX8_copyFrom 80 = .ok (.invokevirtual 219, 3) := by decide +kernel
theorem dX8_copyFrom_83 : decode cX8_copyFrom 83 = .ok (.iinc 2 1, 3) := by decide +kernel
theorem dX8_copyFrom_86 : decode cX8_copyFrom 86 = .ok (.goto (-23), 3) := by decide +kernel
theorem dX8_copyFrom_89 : decode cX8_copyFrom 89 = .ok (.aload_n 0, 1) := by decide +kernel
theorem dX8_copyFrom_90 : decode cX8_copyFrom 90 = .ok (.getfield 26, 3) := by decide +kernel
theorem dX8_copyFrom_93 : decode cX8_copyFrom 93 = .ok (.aload_n 1, 1) := by decide +kernel
theorem dX8_copyFrom_94 : decode cX8_copyFrom 94 = .ok (.getfield 26, 3) := by decide +kernel
theorem dX8_copyFrom_97 : decode cX8_copyFrom 97 = .ok (.invokevirtual 222, 3) := by decide +kernel
theorem dX8_copyFrom_100 : decode cX8_copyFrom 100 = .ok (.aload_n 1, 1) := by decide +kernel
theorem dX8_copyFrom_101 : decode cX8_copyFrom 101 = .ok (.getfield 30, 3) := by decide +kernel
theorem dX8_copyFrom_104 : decode cX8_copyFrom 104 = .ok (.iconst 0, 1) := by decide +kernel
theorem dX8_copyFrom_105 : decode cX8_copyFrom 105 = .ok (.aload_n 0, 1) := by decide +kernel
theorem dX8_copyFrom_106 : decode cX8_copyFrom 106 = .ok (.getfield 30, 3) := by decide +kernel
theorem dX8_copyFrom_109 : decode cX8_copyFrom 109 = .ok (.iconst 0, 1) := by decide +kernel
theorem dX8_copyFrom_110 : decode cX8_copyFrom 110 = .ok (.bipush 14, 2) := by decide +kernel
theorem dX8_copyFrom_112 : decode cX8_copyFrom 112 = .ok (.invokestatic 225, 3) := by decide +kernel
theorem dX8_copyFrom_115 : decode cX8_copyFrom 115 = .ok (.return_, 1) := by decide +kernel
set_option maxRecDepth 20000 in
theorem zl_X8_copyFrom_1 : z_All z_tab cX8_copyFrom 3 none RX8 pc_X8_copyFrom 40 (k_X8_copyFrom.drop 40) := z_cons (ok_aald dX8_copyFrom_73 rfl rfl) <| z_cons (ok_aload_n dX8_copyFrom_74 rfl rfl) <| z_cons (ok_getr (k := 2) ⟨by decide, by decide, by decide⟩ (ci := 6) (T := TX8) rfl rfl (Nat.le_of_ble_eq_true rfl) iw_X8 qw_374 gr_9_2 (fun _ _ => by simp) (fun w i => List.mem_of_getElem? (i := 2) rfl) dX8_copyFrom_75 rfl rfl) <| z_cons (ok_iload_n dX8_copyFrom_78 rfl rfl) <| z_cons (ok_aald dX8_copyFrom_79 rfl rfl) <| z_cons (ok_callv ⟨by decide, by decide, by decide⟩ (ci := 3) (C := RX3) (T := TX3) rfl go_4 (k := 39) (n := 1) qw_479 qw_103 ⟨by decide +kernel, by decide +kernel, by decide +kernel⟩ (Nat.le_of_ble_eq_true rfl) qw_480 qw_481 qw_482 dX8_copyFrom_80 rfl rfl) <| z_cons (ok_iinc (by decide) (Nat.le_of_ble_eq_true rfl) dX8_copyFrom_83 rfl rfl) <| z_cons (ok_goto (tgt := 63) (by decide) rfl dX8_copyFrom_86 rfl) <| z_cons (ok_aload_n dX8_copyFrom_89 rfl rfl) <| z_cons (ok_getr (k := 3) ⟨by decide, by decide, by decide⟩ (ci := 6) (T := TX8) rfl rfl (Nat.le_of_ble_eq_true rfl) iw_X8 qw_375 gr_9_3 (fun _ _ => by simp) (fun w i => List.mem_of_getElem? (i := 3) rfl) dX8_copyFrom_90 rfl rfl) <| z_cons (ok_aload_n dX8_copyFrom_93 rfl rfl) <| z_cons (ok_getr (k := 3) ⟨by decide, by decide, by decide⟩ (ci := 6) (T := TX8) rfl rfl (Nat.le_of_ble_eq_true rfl) iw_X8 qw_375 gr_9_3 (fun _ _ => by simp) (fun w i => List.mem_of_getElem? (i := 3) rfl) dX8_copyFrom_94 rfl rfl) <| z_cons (ok_callv ⟨by decide, by decide, by decide⟩ (ci := 1) (C := RX1) (T := TX1) rfl go_2 (k := 14) (n := 1) qw_483 qw_378 ⟨by decide +kernel, by decide +kernel, by decide +kernel⟩ (Nat.le_of_ble_eq_true rfl) qw_484 qw_485 qw_486 dX8_copyFrom_97 rfl rfl) <| z_cons (ok_aload_n dX8_copyFrom_100 rfl rfl) <| z_cons (ok_getr (k := 4) ⟨by decide, by decide, by decide⟩ (ci := 6) (T := TX8) rfl rfl (Nat.le_of_ble_eq_true rfl) iw_X8 qw_403 gr_9_4 (fun _ _ => by simp) (fun w i => List.mem_of_getElem? (i := 4) rfl) dX8_copyFrom_101 rfl rfl) <| z_cons (ok_iconst (by decide) dX8_copyFrom_104 rfl rfl) <| z_cons (ok_aload_n dX8_copyFrom_105 rfl rfl) <| z_cons (ok_getr (k := 4) ⟨by decide, by decide, by decide⟩ (ci := 6) (T := TX8) rfl rfl (Nat.le_of_ble_eq_true rfl) iw_X8 qw_403 gr_9_4 (fun _ _ => by simp) (fun w i => List.mem_of_getElem? (i := 4) rfl) dX8_copyFrom_106 rfl rfl) <| z_cons (ok_iconst (by decide) dX8_copyFrom_109 rfl rfl) <| z_cons (ok_bipush (by decide) dX8_copyFrom_110 rfl rfl) <| z_cons (ok_copy rfl (by decide) (by decide) qw_487 qw_37 qw_38 qw_39 dX8_copyFrom_112 rfl rfl) <| z_cons (ok_ret rfl dX8_copyFrom_115 rfl) <| z_nil
set_option maxRecDepth 20000 in
theorem zl_X8_copyFrom_0 : z_All z_tab cX8_copyFrom 3 none RX8 pc_X8_copyFrom 0 (k_X8_copyFrom.drop 0) := z_cons (ok_aload_n dX8_copyFrom_0 rfl rfl) <| z_cons (ok_aload_n dX8_copyFrom_1 rfl rfl) <| z_cons (ok_get ⟨by decide, by decide, by decide⟩ (ci := 6) (T := TX8) rfl rfl (Nat.le_of_ble_eq_true rfl) iw_X8 qw_376 gv_9_5 dX8_copyFrom_2 rfl rfl) <| z_cons (ok_put ⟨by decide, by decide, by decide⟩ (ci := 6) (T := TX8) rfl rfl (Nat.le_of_ble_eq_true rfl) iw_X8 qw_376 tyX8_ok nmX8 rfl pv_9_5 rfl dX8_copyFrom_5 rfl rfl) <| z_cons (ok_aload_n dX8_copyFrom_8 rfl rfl) <| z_cons (ok_aload_n dX8_copyFrom_9 rfl rfl) <| z_cons (ok_get ⟨by decide, by decide, by decide⟩ (ci := 6) (T := TX8) rfl rfl (Nat.le_of_ble_eq_true rfl) iw_X8 qw_383 gv_9_6 dX8_copyFrom_10 rfl rfl) <| z_cons (ok_put ⟨by decide, by decide, by decide⟩ (ci := 6) (T := TX8) rfl rfl (Nat.le_of_ble_eq_true rfl) iw_X8 qw_383 tyX8_ok nmX8 rfl pv_9_6 rfl dX8_copyFrom_13 rfl rfl) <| z_cons (ok_aload_n dX8_copyFrom_16 rfl rfl) <| z_cons (ok_aload_n dX8_copyFrom_17 rfl rfl) <| z_cons (ok_get ⟨by decide, by decide, by decide⟩ (ci := 6) (T := TX8) rfl rfl (Nat.le_of_ble_eq_true rfl) iw_X8 qw_385 gv_9_7 dX8_copyFrom_18 rfl rfl) <| z_cons (ok_put ⟨by decide, by decide, by decide⟩ (ci := 6) (T := TX8) rfl rfl (Nat.le_of_ble_eq_true rfl) iw_X8 qw_385 tyX8_ok nmX8 rfl pv_9_7 rfl dX8_copyFrom_21 rfl rfl) <| z_cons (ok_aload_n dX8_copyFrom_24 rfl rfl) <| z_cons (ok_aload_n dX8_copyFrom_25 rfl rfl) <| z_cons (ok_get ⟨by decide, by decide, by decide⟩ (ci := 6) (T := TX8) rfl rfl (Nat.le_of_ble_eq_true rfl) iw_X8 qw_386 gv_9_8 dX8_copyFrom_26 rfl rfl) <| z_cons (ok_put ⟨by decide, by decide, by decide⟩ (ci := 6) (T := TX8) rfl rfl (Nat.le_of_ble_eq_true rfl) iw_X8 qw_386 tyX8_ok nmX8 rfl pv_9_8 rfl dX8_copyFrom_29 rfl rfl) <| z_cons (ok_iconst (by decide) dX8_copyFrom_32 rfl rfl) <| z_cons (ok_istore_n (Nat.le_of_ble_eq_true rfl) dX8_copyFrom_33 rfl rfl) <| z_cons (ok_iload_n dX8_copyFrom_34 rfl rfl) <| z_cons (ok_bipush (by decide) dX8_copyFrom_35 rfl rfl) <| z_cons (ok_icmp_ge (tgt := 61) (by decide) rfl dX8_copyFrom_37 rfl rfl) <| z_cons (ok_aload_n dX8_copyFrom_40 rfl rfl) <| z_cons (ok_getr (k := 1) ⟨by decide, by decide, by decide⟩ (ci := 6) (T := TX8) rfl rfl (Nat.le_of_ble_eq_true rfl) iw_X8 qw_372 gr_9_1 (fun _ _ => by simp) (fun w i => List.mem_of_getElem? (i := 1) rfl) dX8_copyFrom_41 rfl rfl) <| z_cons (ok_iload_n dX8_copyFrom_44 rfl rfl) <| z_cons (ok_aald dX8_copyFrom_45 rfl rfl) <| z_cons (ok_aload_n dX8_copyFrom_46 rfl rfl) <| z_cons (ok_getr (k := 1) ⟨by decide, by decide, by decide⟩ (ci := 6) (T := TX8) rfl rfl (Nat.le_of_ble_eq_true rfl) iw_X8 qw_372 gr_9_1 (fun _ _ => by simp) (fun w i => List.mem_of_getElem? (i := 1) rfl) dX8_copyFrom_47 rfl rfl) <| z_cons (ok_iload_n dX8_copyFrom_50 rfl rfl) <| z_cons (ok_aald dX8_copyFrom_51 rfl rfl) <| z_cons (ok_callv ⟨by decide, by decide, by decide⟩ (ci := 4) (C := RX6) (T := TX6) rfl go_7 (k := 86) (n := 1) qw_475 qw_203 ⟨by decide +kernel, by decide +kernel, by decide +kernel⟩ (Nat.le_of_ble_eq_true rfl) qw_476 qw_477 qw_478 dX8_copyFrom_52 rfl rfl) <| z_cons (ok_iinc (by decide) (Nat.le_of_ble_eq_true rfl) dX8_copyFrom_55 rfl rfl) <| z_cons (ok_goto (tgt := 34) (by decide) rfl dX8_copyFrom_58 rfl) <| z_cons (ok_iconst (by decide) dX8_copyFrom_61 rfl rfl) <| z_cons (ok_istore_n (Nat.le_of_ble_eq_true rfl) dX8_copyFrom_62 rfl rfl) <| z_cons (ok_iload_n dX8_copyFrom_63 rfl rfl) <| z_cons (ok_iconst (by decide) dX8_copyFrom_64 rfl rfl) <| z_cons (ok_icmp_ge (tgt := 89) (by decide) rfl dX8_copyFrom_65 rfl rfl) <| z_cons (ok_aload_n dX8_copyFrom_68 rfl rfl) <| z_cons (ok_getr (k := 2) ⟨by decide, by decide, by decide⟩ (ci := 6) (T := TX8) rfl rfl (Nat.le_of_ble_eq_true rfl) iw_X8 qw_374 gr_9_2 (fun _ _ => by simp) (fun w i => List.mem_of_getElem? (i := 2) rfl) dX8_copyFrom_69 rfl rfl) <| z_cons (ok_iload_n dX8_copyFrom_72 rfl rfl) <| zl_X8_copyFrom_1
theorem dX9_set_0 : decode cX9_set 0 = .ok (.aload_n 0, 1) := by decide +kernel
theorem dX9_set_1 : decode cX9_set 1 = .ok (.getfield 21, 3) := by decide +kernel
theorem dX9_set_4 : decode cX9_set 4 = .ok (.iload_n 1, 1) := by decide +kernel
theorem dX9_set_5 : decode cX9_set 5 = .ok (.iload_n 2, 1) := by decide +kernel
theorem dX9_set_6 : decode cX9_set 6 = .ok (.invokevirtual 25, 3) := by decide +kernel
theorem dX9_set_9 : decode cX9_set 9 = .ok (.ireturn, 1) := by decide +kernel
set_option maxRecDepth 20000 in
theorem zl_X9_set_0 : z_All z_tab cX9_set 3 (some .boolean) RX9 pc_X9_set 0 (k_X9_set.drop 0) := z_cons (ok_aload_n dX9_set_0 rfl rfl) <| z_cons (ok_getr (k := 1) ⟨by decide, by decide, by decide⟩ (ci := 7) (T := TX9) rfl rfl (Nat.le_of_ble_eq_true rfl) iw_X9 qw_488 gr_10_1 (fun _ _ => by simp) (fun w i => List.mem_of_getElem? (i := 1) rfl) dX9_set_1 rfl rfl) <| z_cons (ok_iload_n dX9_set_4 rfl rfl) <| z_cons (ok_iload_n dX9_set_5 rfl rfl) <| z_cons (ok_callv ⟨by decide, by decide, by decide⟩ (ci := 6) (C := RX8) (T := TX8) rfl go_9 (k := 95) (n := 2) qw_489 qw_124 ⟨by decide +kernel, by decide +kernel, by decide +kernel⟩ (Nat.le_of_ble_eq_true rfl) qw_490 qw_491 qw_492 dX9_set_6 rfl rfl) <| z_cons (ok_zret rfl dX9_set_9 rfl) <| z_nil
theorem dX9_state_0 : decode cX9_state 0 = .ok (.aload_n 0, 1) := by decide +kernel
theorem dX9_state_1 : decode cX9_state 1 = .ok (.getfield 21, 3) := by decide +kernel
theorem dX9_state_4 : decode cX9_state 4 = .ok (.getfield 29, 3) := by decide +kernel
theorem dX9_state_7 : decode cX9_state 7 = .ok (.istore_n 2, 1) := by decide +kernel
theorem dX9_state_8 : decode cX9_state 8 = .ok (.aload_n 0, 1) := by decide +kernel
theorem dX9_state_9 : decode cX9_state 9 = .ok (.getfield 21, 3) := by decide +kernel
theorem dX9_state_12 : decode cX9_state 12 = .ok (.iload_n 1, 1) := by decide +kernel
theorem dX9_state_13 : decode cX9_state 13 = .ok (.putfield 29, 3) := by decide +kernel
theorem dX9_state_16 : decode cX9_state 16 = .ok (.iload_n 2, 1) := by decide +kernel
theorem dX9_state_17 : decode cX9_state 17 = .ok (.ireturn, 1) := by decide +kernel
set_option maxRecDepth 20000 in
theorem zl_X9_state_0 : z_All z_tab cX9_state 3 (some .int) RX9 pc_X9_state 0 (k_X9_state.drop 0) := z_cons (ok_aload_n dX9_state_0 rfl rfl) <| z_cons (ok_getr (k := 1) ⟨by decide, by decide, by decide⟩ (ci := 7) (T := TX9) rfl rfl (Nat.le_of_ble_eq_true rfl) iw_X9 qw_488 gr_10_1 (fun _ _ => by simp) (fun w i => List.mem_of_getElem? (i := 1) rfl) dX9_state_1 rfl rfl) <| z_cons (ok_get ⟨by decide, by decide, by decide⟩ (ci := 6) (T := TX8) rfl rfl (Nat.le_of_ble_eq_true rfl) iw_X8 qw_493 gv_9_6 dX9_state_4 rfl rfl) <| z_cons (ok_istore_n (Nat.le_of_ble_eq_true rfl) dX9_state_7 rfl rfl) <| z_cons (ok_aload_n dX9_state_8 rfl rfl) <| z_cons (ok_getr (k := 1) ⟨by decide, by decide, by decide⟩ (ci := 7) (T := TX9) rfl rfl (Nat.le_of_ble_eq_true rfl) iw_X9 qw_488 gr_10_1 (fun _ _ => by simp) (fun w i => List.mem_of_getElem? (i := 1) rfl) dX9_state_9 rfl rfl) <| z_cons (ok_iload_n dX9_state_12 rfl rfl) <| z_cons (ok_put ⟨by decide, by decide, by decide⟩ (ci := 6) (T := TX8) rfl rfl (Nat.le_of_ble_eq_true rfl) iw_X8 qw_493 tyX8_ok nmX8 rfl pv_9_6 rfl dX9_state_13 rfl rfl) <| z_cons (ok_iload_n dX9_state_16 rfl rfl) <| z_cons (ok_iret rfl dX9_state_17 rfl) <| z_nil
theorem dX9_tune_0 : decode cX9_tune 0 = .ok (.aload_n 0, 1) := by decide +kernel
theorem dX9_tune_1 : decode cX9_tune 1 = .ok (.getfield 21, 3) := by decide +kernel
theorem dX9_tune_4 : decode cX9_tune 4 = .ok (.iload_n 1, 1) := by decide +kernel
theorem dX9_tune_5 : decode cX9_tune 5 = .ok (.invokevirtual 33, 3) := by decide +kernel
theorem dX9_tune_8 : decode cX9_tune 8 = .ok (.astore 4, 2) := by decide +kernel
theorem dX9_tune_10 : decode cX9_tune 10 = .ok (.aload 4, 2) := by decide +kernel
theorem dX9_tune_12 : decode cX9_tune 12 = .ok (.ifnull 17, 3) := by decide +kernel
theorem dX9_tune_15 : decode cX9_tune 15 = .ok (.aload 4, 2) := by decide +kernel
theorem dX9_tune_17 : decode cX9_tune 17 = .ok (.iload_n 2, 1) := by decide +kernel
theorem dX9_tune_18 : decode cX9_tune 18 = .ok (.iload_n 3, 1) := by decide +kernel
theorem dX9_tune_19 : decode cX9_tune 19 = .ok (.invokevirtual 37, 3) := by decide +kernel
theorem dX9_tune_22 : decode cX9_tune 22 = .ok (.ifCond .eq 7, 3) := by decide +kernel
theorem dX9_tune_25 : decode cX9_tune 25 = .ok (.iconst 1, 1) := by decide +kernel
theorem dX9_tune_26 : decode cX9_tune 26 = .ok (.goto 4, 3) := by decide +kernel
theorem dX9_tune_29 : decode cX9_tune 29 = .ok (.iconst 0, 1) := by decide +kernel
theorem dX9_tune_30 : decode cX9_tune 30 = .ok (.ireturn, 1) := by decide +kernel
set_option maxRecDepth 20000 in
theorem zl_X9_tune_0 : z_All z_tab cX9_tune 5 (some .boolean) RX9 pc_X9_tune 0 (k_X9_tune.drop 0) := z_cons (ok_aload_n dX9_tune_0 rfl rfl) <| z_cons (ok_getr (k := 1) ⟨by decide, by decide, by decide⟩ (ci := 7) (T := TX9) rfl rfl (Nat.le_of_ble_eq_true rfl) iw_X9 qw_488 gr_10_1 (fun _ _ => by simp) (fun w i => List.mem_of_getElem? (i := 1) rfl) dX9_tune_1 rfl rfl) <| z_cons (ok_iload_n dX9_tune_4 rfl rfl) <| z_cons (ok_callv ⟨by decide, by decide, by decide⟩ (ci := 6) (C := RX8) (T := TX8) rfl go_9 (k := 92) (n := 1) qw_123 qw_124 ⟨by decide +kernel, by decide +kernel, by decide +kernel⟩ (Nat.le_of_ble_eq_true rfl) qw_494 qw_126 qw_127 dX9_tune_5 rfl rfl) <| z_cons (ok_astore (Nat.le_of_ble_eq_true rfl) dX9_tune_8 rfl rfl) <| z_cons (ok_aload dX9_tune_10 rfl rfl) <| z_cons (ok_ifnull (tgt := 29) (by decide) rfl dX9_tune_12 rfl rfl) <| z_cons (ok_aload dX9_tune_15 rfl rfl) <| z_cons (ok_iload_n dX9_tune_17 rfl rfl) <| z_cons (ok_iload_n dX9_tune_18 rfl rfl) <| z_cons (ok_callv ⟨by decide, by decide, by decide⟩ (ci := 3) (C := RX3) (T := TX3) rfl go_4 (k := 31) (n := 2) qw_495 qw_103 ⟨by decide +kernel, by decide +kernel, by decide +kernel⟩ (Nat.le_of_ble_eq_true rfl) qw_496 qw_497 qw_498 dX9_tune_19 rfl rfl) <| z_cons (ok_if_eq (tgt := 29) (by decide) rfl dX9_tune_22 rfl rfl) <| z_cons (ok_iconst (by decide) dX9_tune_25 rfl rfl) <| z_cons (ok_goto (tgt := 30) (by decide) rfl dX9_tune_26 rfl) <| z_cons (ok_iconst (by decide) dX9_tune_29 rfl rfl) <| z_cons (ok_zret rfl dX9_tune_30 rfl) <| z_nil
theorem dX9_tag_0 : decode cX9_tag 0 = .ok (.aload_n 0, 1) := by decide +kernel
theorem dX9_tag_1 : decode cX9_tag 1 = .ok (.getfield 21, 3) := by decide +kernel
theorem dX9_tag_4 : decode cX9_tag 4 = .ok (.iload_n 1, 1) := by decide +kernel
theorem dX9_tag_5 : decode cX9_tag 5 = .ok (.iload_n 2, 1) := by decide +kernel
theorem dX9_tag_6 : decode cX9_tag 6 = .ok (.iload_n 3, 1) := by decide +kernel
theorem dX9_tag_7 : decode cX9_tag 7 = .ok (.invokevirtual 42, 3) := by decide +kernel
theorem dX9_tag_10 : decode cX9_tag 10 = .ok (.ireturn, 1) := by decide +kernel
set_option maxRecDepth 20000 in
theorem zl_X9_tag_0 : z_All z_tab cX9_tag 4 (some .boolean) RX9 pc_X9_tag 0 (k_X9_tag.drop 0) := z_cons (ok_aload_n dX9_tag_0 rfl rfl) <| z_cons (ok_getr (k := 1) ⟨by decide, by decide, by decide⟩ (ci := 7) (T := TX9) rfl rfl (Nat.le_of_ble_eq_true rfl) iw_X9 qw_488 gr_10_1 (fun _ _ => by simp) (fun w i => List.mem_of_getElem? (i := 1) rfl) dX9_tag_1 rfl rfl) <| z_cons (ok_iload_n dX9_tag_4 rfl rfl) <| z_cons (ok_iload_n dX9_tag_5 rfl rfl) <| z_cons (ok_iload_n dX9_tag_6 rfl rfl) <| z_cons (ok_callv ⟨by decide, by decide, by decide⟩ (ci := 6) (C := RX8) (T := TX8) rfl go_9 (k := 96) (n := 3) qw_499 qw_124 ⟨by decide +kernel, by decide +kernel, by decide +kernel⟩ (Nat.le_of_ble_eq_true rfl) qw_500 qw_501 qw_502 dX9_tag_7 rfl rfl) <| z_cons (ok_zret rfl dX9_tag_10 rfl) <| z_nil
theorem dX9_gone_0 : decode cX9_gone 0 = .ok (.aload_n 0, 1) := by decide +kernel
theorem dX9_gone_1 : decode cX9_gone 1 = .ok (.getfield 21, 3) := by decide +kernel
theorem dX9_gone_4 : decode cX9_gone 4 = .ok (.iload_n 1, 1) := by decide +kernel
theorem dX9_gone_5 : decode cX9_gone 5 = .ok (.invokevirtual 46, 3) := by decide +kernel
theorem dX9_gone_8 : decode cX9_gone 8 = .ok (.astore_n 2, 1) := by decide +kernel
theorem dX9_gone_9 : decode cX9_gone 9 = .ok (.aload_n 2, 1) := by decide +kernel
theorem dX9_gone_10 : decode cX9_gone 10 = .ok (.ifnonnull 5, 3) := by decide +kernel
theorem dX9_gone_13 : decode cX9_gone 13 = .ok (.iconst 0, 1) := by decide +kernel
theorem dX9_gone_14 : decode cX9_gone 14 = .ok (.ireturn, 1) := by decide +kernel
theorem dX9_gone_15 : decode cX9_gone 15 = .ok (.aload_n 2, 1) := by decide +kernel
theorem dX9_gone_16 : decode cX9_gone 16 = .ok (.invokevirtual 50, 3) := by decide +kernel
theorem dX9_gone_19 : decode cX9_gone 19 = .ok (.iconst 1, 1) := by decide +kernel
theorem dX9_gone_20 : decode cX9_gone 20 = .ok (.ireturn, 1) := by decide +kernel
set_option maxRecDepth 20000 in
theorem zl_X9_gone_0 : z_All z_tab cX9_gone 3 (some .boolean) RX9 pc_X9_gone 0 (k_X9_gone.drop 0) := z_cons (ok_aload_n dX9_gone_0 rfl rfl) <| z_cons (ok_getr (k := 1) ⟨by decide, by decide, by decide⟩ (ci := 7) (T := TX9) rfl rfl (Nat.le_of_ble_eq_true rfl) iw_X9 qw_488 gr_10_1 (fun _ _ => by simp) (fun w i => List.mem_of_getElem? (i := 1) rfl) dX9_gone_1 rfl rfl) <| z_cons (ok_iload_n dX9_gone_4 rfl rfl) <| z_cons (ok_callv ⟨by decide, by decide, by decide⟩ (ci := 6) (C := RX8) (T := TX8) rfl go_9 (k := 91) (n := 1) qw_220 qw_124 ⟨by decide +kernel, by decide +kernel, by decide +kernel⟩ (Nat.le_of_ble_eq_true rfl) qw_503 qw_222 qw_223 dX9_gone_5 rfl rfl) <| z_cons (ok_astore_n (Nat.le_of_ble_eq_true rfl) dX9_gone_8 rfl rfl) <| z_cons (ok_aload_n dX9_gone_9 rfl rfl) <| z_cons (ok_ifnonnull (tgt := 15) (by decide) rfl dX9_gone_10 rfl rfl) <| z_cons (ok_iconst (by decide) dX9_gone_13 rfl rfl) <| z_cons (ok_zret rfl dX9_gone_14 rfl) <| z_cons (ok_aload_n dX9_gone_15 rfl rfl) <| z_cons (ok_callv ⟨by decide, by decide, by decide⟩ (ci := 4) (C := RX6) (T := TX6) rfl go_7 (k := 77) (n := 0) qw_504 qw_203 ⟨by decide +kernel, by decide +kernel, by decide +kernel⟩ (Nat.le_of_ble_eq_true rfl) qw_505 qw_506 qw_507 dX9_gone_16 rfl rfl) <| z_cons (ok_iconst (by decide) dX9_gone_19 rfl rfl) <| z_cons (ok_zret rfl dX9_gone_20 rfl) <| z_nil
theorem dX9_move_0 : decode cX9_move 0 = .ok (.aload_n 0, 1) := by decide +kernel
theorem dX9_move_1 : decode cX9_move 1 = .ok (.getfield 21, 3) := by decide +kernel
theorem dX9_move_4 : decode cX9_move 4 = .ok (.iload_n 1, 1) := by decide +kernel
theorem dX9_move_5 : decode cX9_move 5 = .ok (.iload_n 2, 1) := by decide +kernel
theorem dX9_move_6 : decode cX9_move 6 = .ok (.invokevirtual 55, 3) := by decide +kernel
theorem dX9_move_9 : decode cX9_move 9 = .ok (.ireturn, 1) := by decide +kernel
set_option maxRecDepth 20000 in
theorem zl_X9_move_0 : z_All z_tab cX9_move 3 (some .boolean) RX9 pc_X9_move 0 (k_X9_move.drop 0) := z_cons (ok_aload_n dX9_move_0 rfl rfl) <| z_cons (ok_getr (k := 1) ⟨by decide, by decide, by decide⟩ (ci := 7) (T := TX9) rfl rfl (Nat.le_of_ble_eq_true rfl) iw_X9 qw_488 gr_10_1 (fun _ _ => by simp) (fun w i => List.mem_of_getElem? (i := 1) rfl) dX9_move_1 rfl rfl) <| z_cons (ok_iload_n dX9_move_4 rfl rfl) <| z_cons (ok_iload_n dX9_move_5 rfl rfl) <| z_cons (ok_callv ⟨by decide, by decide, by decide⟩ (ci := 6) (C := RX8) (T := TX8) rfl go_9 (k := 97) (n := 2) qw_508 qw_124 ⟨by decide +kernel, by decide +kernel, by decide +kernel⟩ (Nat.le_of_ble_eq_true rfl) qw_509 qw_510 qw_511 dX9_move_6 rfl rfl) <| z_cons (ok_zret rfl dX9_move_9 rfl) <| z_nil
theorem dX9_power_0 : decode cX9_power 0 = .ok (.aload_n 0, 1) := by decide +kernel
theorem dX9_power_1 : decode cX9_power 1 = .ok (.getfield 21, 3) := by decide +kernel
theorem dX9_power_4 : decode cX9_power 4 = .ok (.iload_n 1, 1) := by decide +kernel
theorem dX9_power_5 : decode cX9_power 5 = .ok (.iload_n 2, 1) := by decide +kernel
theorem dX9_power_6 : decode cX9_power 6 = .ok (.invokevirtual 58, 3) := by decide +kernel
theorem dX9_power_9 : decode cX9_power 9 = .ok (.ireturn, 1) := by decide +kernel
set_option maxRecDepth 20000 in
theorem zl_X9_power_0 : z_All z_tab cX9_power 3 (some .boolean) RX9 pc_X9_power 0 (k_X9_power.drop 0) := z_cons (ok_aload_n dX9_power_0 rfl rfl) <| z_cons (ok_getr (k := 1) ⟨by decide, by decide, by decide⟩ (ci := 7) (T := TX9) rfl rfl (Nat.le_of_ble_eq_true rfl) iw_X9 qw_488 gr_10_1 (fun _ _ => by simp) (fun w i => List.mem_of_getElem? (i := 1) rfl) dX9_power_1 rfl rfl) <| z_cons (ok_iload_n dX9_power_4 rfl rfl) <| z_cons (ok_iload_n dX9_power_5 rfl rfl) <| z_cons (ok_callv ⟨by decide, by decide, by decide⟩ (ci := 6) (C := RX8) (T := TX8) rfl go_9 (k := 98) (n := 2) qw_512 qw_124 ⟨by decide +kernel, by decide +kernel, by decide +kernel⟩ (Nat.le_of_ble_eq_true rfl) qw_513 qw_514 qw_515 dX9_power_6 rfl rfl) <| z_cons (ok_zret rfl dX9_power_9 rfl) <| z_nil
theorem dX9_select_0 : decode cX9_select 0 = .ok (.aload_n 0, 1) := by decide +kernel
theorem dX9_select_1 : decode cX9_select 1 = .ok (.getfield 21, 3) := by decide +kernel
theorem dX9_select_4 : decode cX9_select 4 = .ok (.iload_n 1, 1) := by decide +kernel
theorem dX9_select_5 : decode cX9_select 5 = .ok (.iload_n 2, 1) := by decide +kernel
theorem dX9_select_6 : decode cX9_select 6 = .ok (.iload_n 3, 1) := by decide +kernel
theorem dX9_select_7 : decode cX9_select 7 = .ok (.iload 4, 2) := by decide +kernel
theorem dX9_select_9 : decode cX9_select 9 = .ok (.iload 5, 2) := by decide +kernel
theorem dX9_select_11 : decode cX9_select 11 = .ok (.iload 6, 2) := by decide +kernel
theorem dX9_select_13 : decode cX9_select 13 = .ok (.invokevirtual 62, 3) := by decide +kernel
theorem dX9_select_16 : decode cX9_select 16 = .ok (.ireturn, 1) := by decide +kernel
set_option maxRecDepth 20000 in
theorem zl_X9_select_0 : z_All z_tab cX9_select 7 (some .int) RX9 pc_X9_select 0 (k_X9_select.drop 0) := z_cons (ok_aload_n dX9_select_0 rfl rfl) <| z_cons (ok_getr (k := 1) ⟨by decide, by decide, by decide⟩ (ci := 7) (T := TX9) rfl rfl (Nat.le_of_ble_eq_true rfl) iw_X9 qw_488 gr_10_1 (fun _ _ => by simp) (fun w i => List.mem_of_getElem? (i := 1) rfl) dX9_select_1 rfl rfl) <| z_cons (ok_iload_n dX9_select_4 rfl rfl) <| z_cons (ok_iload_n dX9_select_5 rfl rfl) <| z_cons (ok_iload_n dX9_select_6 rfl rfl) <| z_cons (ok_iload dX9_select_7 rfl rfl) <| z_cons (ok_iload dX9_select_9 rfl rfl) <| z_cons (ok_iload dX9_select_11 rfl rfl) <| z_cons (ok_callv ⟨by decide, by decide, by decide⟩ (ci := 6) (C := RX8) (T := TX8) rfl go_9 (k := 106) (n := 6) qw_516 qw_124 ⟨by decide +kernel, by decide +kernel, by decide +kernel⟩ (Nat.le_of_ble_eq_true rfl) qw_517 qw_518 qw_519 dX9_select_13 rfl rfl) <| z_cons (ok_iret rfl dX9_select_16 rfl) <| z_nil
theorem dX9_put_0 : decode cX9_put 0 = .ok (.aload_n 0, 1) := by decide +kernel
theorem dX9_put_1 : decode cX9_put 1 = .ok (.getfield 21, 3) := by decide +kernel
theorem dX9_put_4 : decode cX9_put 4 = .ok (.iload_n 1, 1) := by decide +kernel
theorem dX9_put_5 : decode cX9_put 5 = .ok (.iload_n 2, 1) := by decide +kernel
theorem dX9_put_6 : decode cX9_put 6 = .ok (.iload_n 3, 1) := by decide +kernel
theorem dX9_put_7 : decode cX9_put 7 = .ok (.iload 4, 2) := by decide +kernel
theorem dX9_put_9 : decode cX9_put 9 = .ok (.iload 5, 2) := by decide +kernel
theorem dX9_put_11 : decode cX9_put 11 = .ok (.invokevirtual 66, 3) := by decide +kernel
theorem dX9_put_14 : decode cX9_put 14 = .ok (.ireturn, 1) := by decide +kernel
set_option maxRecDepth 20000 in
theorem zl_X9_put_0 : z_All z_tab cX9_put 6 (some .boolean) RX9 pc_X9_put 0 (k_X9_put.drop 0) := z_cons (ok_aload_n dX9_put_0 rfl rfl) <| z_cons (ok_getr (k := 1) ⟨by decide, by decide, by decide⟩ (ci := 7) (T := TX9) rfl rfl (Nat.le_of_ble_eq_true rfl) iw_X9 qw_488 gr_10_1 (fun _ _ => by simp) (fun w i => List.mem_of_getElem? (i := 1) rfl) dX9_put_1 rfl rfl) <| z_cons (ok_iload_n dX9_put_4 rfl rfl) <| z_cons (ok_iload_n dX9_put_5 rfl rfl) <| z_cons (ok_iload_n dX9_put_6 rfl rfl) <| z_cons (ok_iload dX9_put_7 rfl rfl) <| z_cons (ok_iload dX9_put_9 rfl rfl) <| z_cons (ok_callv ⟨by decide, by decide, by decide⟩ (ci := 6) (C := RX8) (T := TX8) rfl go_9 (k := 108) (n := 5) qw_520 qw_124 ⟨by decide +kernel, by decide +kernel, by decide +kernel⟩ (Nat.le_of_ble_eq_true rfl) qw_521 qw_522 qw_523 dX9_put_11 rfl rfl) <| z_cons (ok_zret rfl dX9_put_14 rfl) <| z_nil
theorem dX9_begin_0 : decode cX9_begin 0 = .ok (.aload_n 0, 1) := by decide +kernel
theorem dX9_begin_1 : decode cX9_begin 1 = .ok (.getfield 21, 3) := by decide +kernel
theorem dX9_begin_4 : decode cX9_begin 4 = .ok (.iload_n 1, 1) := by decide +kernel
theorem dX9_begin_5 : decode cX9_begin 5 = .ok (.iload_n 2, 1) := by decide +kernel
theorem dX9_begin_6 : decode cX9_begin 6 = .ok (.iload_n 3, 1) := by decide +kernel
theorem dX9_begin_7 : decode cX9_begin 7 = .ok (.iload 4, 2) := by decide +kernel
theorem dX9_begin_9 : decode cX9_begin 9 = .ok (.iload 5, 2) := by decide +kernel
theorem dX9_begin_11 : decode cX9_begin 11 = .ok (.invokestatic 70, 3) := by decide +kernel
theorem dX9_begin_14 : decode cX9_begin 14 = .ok (.ireturn, 1) := by decide +kernel
set_option maxRecDepth 20000 in
theorem zl_X9_begin_0 : z_All z_tab cX9_begin 6 (some .int) RX9 pc_X9_begin 0 (k_X9_begin.drop 0) := z_cons (ok_aload_n dX9_begin_0 rfl rfl) <| z_cons (ok_getr (k := 1) ⟨by decide, by decide, by decide⟩ (ci := 7) (T := TX9) rfl rfl (Nat.le_of_ble_eq_true rfl) iw_X9 qw_488 gr_10_1 (fun _ _ => by simp) (fun w i => List.mem_of_getElem? (i := 1) rfl) dX9_begin_1 rfl rfl) <| z_cons (ok_iload_n dX9_begin_4 rfl rfl) <| z_cons (ok_iload_n dX9_begin_5 rfl rfl) <| z_cons (ok_iload_n dX9_begin_6 rfl rfl) <| z_cons (ok_iload dX9_begin_7 rfl rfl) <| z_cons (ok_iload dX9_begin_9 rfl rfl) <| z_cons (ok_callS (k := 40) (n := 6) qw_524 qw_156 ⟨by decide +kernel, by decide +kernel, by decide +kernel⟩ (Nat.le_of_ble_eq_true rfl) qw_526 qw_525 dX9_begin_11 rfl rfl) <| z_cons (ok_iret rfl dX9_begin_14 rfl) <| z_nil
theorem dX9_stop_0 : decode cX9_stop 0 = .ok (.aload_n 0, 1) := by decide +kernel
theorem dX9_stop_1 : decode cX9_stop 1 = .ok (.getfield 21, 3) := by decide +kernel
theorem dX9_stop_4 : decode cX9_stop 4 = .ok (.iload_n 1, 1) := by decide +kernel
theorem dX9_stop_5 : decode cX9_stop 5 = .ok (.invokestatic 76, 3) := by decide +kernel
theorem dX9_stop_8 : decode cX9_stop 8 = .ok (.ireturn, 1) := by decide +kernel
set_option maxRecDepth 20000 in
theorem zl_X9_stop_0 : z_All z_tab cX9_stop 2 (some .boolean) RX9 pc_X9_stop 0 (k_X9_stop.drop 0) := z_cons (ok_aload_n dX9_stop_0 rfl rfl) <| z_cons (ok_getr (k := 1) ⟨by decide, by decide, by decide⟩ (ci := 7) (T := TX9) rfl rfl (Nat.le_of_ble_eq_true rfl) iw_X9 qw_488 gr_10_1 (fun _ _ => by simp) (fun w i => List.mem_of_getElem? (i := 1) rfl) dX9_stop_1 rfl rfl) <| z_cons (ok_iload_n dX9_stop_4 rfl rfl) <| z_cons (ok_callS (k := 41) (n := 2) qw_406 qw_156 ⟨by decide +kernel, by decide +kernel, by decide +kernel⟩ (Nat.le_of_ble_eq_true rfl) qw_527 qw_407 dX9_stop_5 rfl rfl) <| z_cons (ok_zret rfl dX9_stop_8 rfl) <| z_nil
theorem dX9_tick_0 : decode cX9_tick 0 = .ok (.iload_n 1, 1) := by decide +kernel
theorem dX9_tick_1 : decode cX9_tick 1 = .ok (.iconst 1, 1) := by decide +kernel
theorem dX9_tick_2 : decode cX9_tick 2 = .ok (.if_icmp .lt 24, 3) := by decide +kernel
theorem dX9_tick_5 : decode cX9_tick 5 = .ok (.iload_n 1, 1) := by decide +kernel
theorem dX9_tick_6 : decode cX9_tick 6 = .ok (.bipush 40, 2) := by decide +kernel
theorem dX9_tick_8 : decode cX9_tick 8 = .ok (.if_icmp .gt 18, 3) := by decide +kernel
theorem dX9_tick_11 : decode cX9_tick 11 = .ok (.aload_n 0, 1) := by decide +kernel
theorem dX9_tick_12 : decode cX9_tick 12 = .ok (.getfield 21, 3) := by decide +kernel
theorem dX9_tick_15 : decode cX9_tick 15 = .ok (.getfield 80, 3) := by decide +kernel
theorem dX9_tick_18 : decode cX9_tick 18 = .ok (.iload_n 1, 1) := by decide +kernel
theorem dX9_tick_19 : decode cX9_tick 19 = .ok (.iadd, 1) := by decide +kernel
theorem dX9_tick_20 : decode cX9_tick 20 = .ok (.sipush 9999, 3) := by decide +kernel
theorem dX9_tick_23 : decode cX9_tick 23 = .ok (.if_icmp .le 5, 3) := by decide +kernel
theorem dX9_tick_26 : decode cX9_tick 26 = .ok (.iconst (-1), 1) := by decide +kernel
theorem dX9_tick_27 : decode cX9_tick 27 = .ok (.ireturn, 1) := by decide +kernel
theorem dX9_tick_28 : decode cX9_tick 28 = .ok (.iconst 0, 1) := by decide +kernel
theorem dX9_tick_29 : decode cX9_tick 29 = .ok (.istore_n 2, 1) := by decide +kernel
theorem dX9_tick_30 : decode cX9_tick 30 = .ok (.iload_n 2, 1) := by decide +kernel
theorem dX9_tick_31 : decode cX9_tick 31 = .ok (.iload_n 1, 1) := by decide +kernel
theorem dX9_tick_32 : decode cX9_tick 32 = .ok (.if_icmp .ge 16, 3) := by decide +kernel
theorem dX9_tick_35 : decode cX9_tick 35 = .ok (.aload_n 0, 1) := by decide +kernel
theorem dX9_tick_36 : decode cX9_tick 36 = .ok (.getfield 21, 3) := by decide +kernel
theorem dX9_tick_39 : decode cX9_tick 39 = .ok (.invokevirtual 83, 3) := by decide +kernel
theorem dX9_tick_42 : decode cX9_tick 42 = .ok (.iinc 2 1, 3) := by decide +kernel
theorem dX9_tick_45 : decode cX9_tick 45 = .ok (.goto (-15), 3) := by decide +kernel
theorem dX9_tick_48 : decode cX9_tick 48 = .ok (.aload_n 0, 1) := by decide +kernel
theorem dX9_tick_49 : decode cX9_tick 49 = .ok (.getfield 21, 3) := by decide +kernel
theorem dX9_tick_52 : decode cX9_tick 52 = .ok (.getfield 80, 3) := by decide +kernel
theorem dX9_tick_55 : decode cX9_tick 55 = .ok (.ireturn, 1) := by decide +kernel
set_option maxRecDepth 20000 in
theorem zl_X9_tick_0 : z_All z_tab cX9_tick 3 (some .int) RX9 pc_X9_tick 0 (k_X9_tick.drop 0) := z_cons (ok_iload_n dX9_tick_0 rfl rfl) <| z_cons (ok_iconst (by decide) dX9_tick_1 rfl rfl) <| z_cons (ok_icmp_lt (tgt := 26) (by decide) rfl dX9_tick_2 rfl rfl) <| z_cons (ok_iload_n dX9_tick_5 rfl rfl) <| z_cons (ok_bipush (by decide) dX9_tick_6 rfl rfl) <| z_cons (ok_icmp_gt (tgt := 26) (by decide) rfl dX9_tick_8 rfl rfl) <| z_cons (ok_aload_n dX9_tick_11 rfl rfl) <| z_cons (ok_getr (k := 1) ⟨by decide, by decide, by decide⟩ (ci := 7) (T := TX9) rfl rfl (Nat.le_of_ble_eq_true rfl) iw_X9 qw_488 gr_10_1 (fun _ _ => by simp) (fun w i => List.mem_of_getElem? (i := 1) rfl) dX9_tick_12 rfl rfl) <| z_cons (ok_get ⟨by decide, by decide, by decide⟩ (ci := 6) (T := TX8) rfl rfl (Nat.le_of_ble_eq_true rfl) iw_X8 qw_528 gv_9_5 dX9_tick_15 rfl rfl) <| z_cons (ok_iload_n dX9_tick_18 rfl rfl) <| z_cons (ok_iadd dX9_tick_19 rfl rfl) <| z_cons (ok_sipush (by decide) dX9_tick_20 rfl rfl) <| z_cons (ok_icmp_le (tgt := 28) (by decide) rfl dX9_tick_23 rfl rfl) <| z_cons (ok_iconst (by decide) dX9_tick_26 rfl rfl) <| z_cons (ok_iret rfl dX9_tick_27 rfl) <| z_cons (ok_iconst (by decide) dX9_tick_28 rfl rfl) <| z_cons (ok_istore_n (Nat.le_of_ble_eq_true rfl) dX9_tick_29 rfl rfl) <| z_cons (ok_iload_n dX9_tick_30 rfl rfl) <| z_cons (ok_iload_n dX9_tick_31 rfl rfl) <| z_cons (ok_icmp_ge (tgt := 48) (by decide) rfl dX9_tick_32 rfl rfl) <| z_cons (ok_aload_n dX9_tick_35 rfl rfl) <| z_cons (ok_getr (k := 1) ⟨by decide, by decide, by decide⟩ (ci := 7) (T := TX9) rfl rfl (Nat.le_of_ble_eq_true rfl) iw_X9 qw_488 gr_10_1 (fun _ _ => by simp) (fun w i => List.mem_of_getElem? (i := 1) rfl) dX9_tick_36 rfl rfl) <| z_cons (ok_callv ⟨by decide, by decide, by decide⟩ (ci := 6) (C := RX8) (T := TX8) rfl go_9 (k := 105) (n := 0) qw_529 qw_124 ⟨by decide +kernel, by decide +kernel, by decide +kernel⟩ (Nat.le_of_ble_eq_true rfl) qw_530 qw_531 qw_532 dX9_tick_39 rfl rfl) <| z_cons (ok_iinc (by decide) (Nat.le_of_ble_eq_true rfl) dX9_tick_42 rfl rfl) <| z_cons (ok_goto (tgt := 30) (by decide) rfl dX9_tick_45 rfl) <| z_cons (ok_aload_n dX9_tick_48 rfl rfl) <| z_cons (ok_getr (k := 1) ⟨by decide, by decide, by decide⟩ (ci := 7) (T := TX9) rfl rfl (Nat.le_of_ble_eq_true rfl) iw_X9 qw_488 gr_10_1 (fun _ _ => by simp) (fun w i => List.mem_of_getElem? (i := 1) rfl) dX9_tick_49 rfl rfl) <| z_cons (ok_get ⟨by decide, by decide, by decide⟩ (ci := 6) (T := TX8) rfl rfl (Nat.le_of_ble_eq_true rfl) iw_X8 qw_528 gv_9_5 dX9_tick_52 rfl rfl) <| z_cons (ok_iret rfl dX9_tick_55 rfl) <| z_nil
theorem dX9_tagOf_0 : decode cX9_tagOf 0 = .ok (.aload_n 0, 1) := by decide +kernel
theorem dX9_tagOf_1 : decode cX9_tagOf 1 = .ok (.getfield 21, 3) := by decide +kernel
theorem dX9_tagOf_4 : decode cX9_tagOf 4 = .ok (.iload_n 1, 1) := by decide +kernel
theorem dX9_tagOf_5 : decode cX9_tagOf 5 = .ok (.invokevirtual 46, 3) := by decide +kernel
theorem dX9_tagOf_8 : decode cX9_tagOf 8 = .ok (.astore_n 3, 1) := by decide +kernel
theorem dX9_tagOf_9 : decode cX9_tagOf 9 = .ok (.aload_n 3, 1) := by decide +kernel
theorem dX9_tagOf_10 : decode cX9_tagOf 10 = .ok (.ifnonnull 8, 3) := by decide +kernel
theorem dX9_tagOf_13 : decode cX9_tagOf 13 = .ok (.bipush (-2), 2) := by decide +kernel
theorem dX9_tagOf_15 : decode cX9_tagOf 15 = .ok (.goto 15, 3) := by decide +kernel
theorem dX9_tagOf_18 : decode cX9_tagOf 18 = .ok (.aload_n 3, 1) := by decide +kernel
theorem dX9_tagOf_19 : decode cX9_tagOf 19 = .ok (.iload_n 2, 1) := by decide +kernel
theorem dX9_tagOf_20 : decode cX9_tagOf 20 = .ok (.aload_n 0, 1) := by decide +kernel
theorem dX9_tagOf_21 : decode cX9_tagOf 21 = .ok (.getfield 21, 3) := by decide +kernel
theorem dX9_tagOf_24 : decode cX9_tagOf 24 = .ok (.getfield 80, 3) := by decide +kernel
theorem dX9_tagOf_27 : decode cX9_tagOf 27 = .ok (.invokevirtual 86, 3) := by decide +kernel
theorem dX9_tagOf_30 : decode cX9_tagOf 30 = .ok (.ireturn, 1) := by decide +kernel
set_option maxRecDepth 20000 in
theorem zl_X9_tagOf_0 : z_All z_tab cX9_tagOf 4 (some .int) RX9 pc_X9_tagOf 0 (k_X9_tagOf.drop 0) := z_cons (ok_aload_n dX9_tagOf_0 rfl rfl) <| z_cons (ok_getr (k := 1) ⟨by decide, by decide, by decide⟩ (ci := 7) (T := TX9) rfl rfl (Nat.le_of_ble_eq_true rfl) iw_X9 qw_488 gr_10_1 (fun _ _ => by simp) (fun w i => List.mem_of_getElem? (i := 1) rfl) dX9_tagOf_1 rfl rfl) <| z_cons (ok_iload_n dX9_tagOf_4 rfl rfl) <| z_cons (ok_callv ⟨by decide, by decide, by decide⟩ (ci := 6) (C := RX8) (T := TX8) rfl go_9 (k := 91) (n := 1) qw_220 qw_124 ⟨by decide +kernel, by decide +kernel, by decide +kernel⟩ (Nat.le_of_ble_eq_true rfl) qw_503 qw_222 qw_223 dX9_tagOf_5 rfl rfl) <| z_cons (ok_astore_n (Nat.le_of_ble_eq_true rfl) dX9_tagOf_8 rfl rfl) <| z_cons (ok_aload_n dX9_tagOf_9 rfl rfl) <| z_cons (ok_ifnonnull (tgt := 18) (by decide) rfl dX9_tagOf_10 rfl rfl) <| z_cons (ok_bipush (by decide) dX9_tagOf_13 rfl rfl) <| z_cons (ok_goto (tgt := 30) (by decide) rfl dX9_tagOf_15 rfl) <| z_cons (ok_aload_n dX9_tagOf_18 rfl rfl) <| z_cons (ok_iload_n dX9_tagOf_19 rfl rfl) <| z_cons (ok_aload_n dX9_tagOf_20 rfl rfl) <| z_cons (ok_getr (k := 1) ⟨by decide, by decide, by decide⟩ (ci := 7) (T := TX9) rfl rfl (Nat.le_of_ble_eq_true rfl) iw_X9 qw_488 gr_10_1 (fun _ _ => by simp) (fun w i => List.mem_of_getElem? (i := 1) rfl) dX9_tagOf_21 rfl rfl) <| z_cons (ok_get ⟨by decide, by decide, by decide⟩ (ci := 6) (T := TX8) rfl rfl (Nat.le_of_ble_eq_true rfl) iw_X8 qw_528 gv_9_5 dX9_tagOf_24 rfl rfl) <| z_cons (ok_callv ⟨by decide, by decide, by decide⟩ (ci := 4) (C := RX6) (T := TX6) rfl go_7 (k := 85) (n := 2) qw_533 qw_203 ⟨by decide +kernel, by decide +kernel, by decide +kernel⟩ (Nat.le_of_ble_eq_true rfl) qw_534 qw_535 qw_536 dX9_tagOf_27 rfl rfl) <| z_cons (ok_iret rfl dX9_tagOf_30 rfl) <| z_nil
theorem dX9_bits_0 : decode cX9_bits 0 = .ok (.aload_n 0, 1) := by decide +kernel
theorem dX9_bits_1 : decode cX9_bits 1 = .ok (.getfield 21, 3) := by decide +kernel
theorem dX9_bits_4 : decode cX9_bits 4 = .ok (.iload_n 1, 1) := by decide +kernel
theorem dX9_bits_5 : decode cX9_bits 5 = .ok (.invokevirtual 46, 3) := by decide +kernel
theorem dX9_bits_8 : decode cX9_bits 8 = .ok (.astore 4, 2) := by decide +kernel
theorem dX9_bits_10 : decode cX9_bits 10 = .ok (.aload 4, 2) := by decide +kernel
theorem dX9_bits_12 : decode cX9_bits 12 = .ok (.ifnull 22, 3) := by decide +kernel
theorem dX9_bits_15 : decode cX9_bits 15 = .ok (.iload_n 3, 1) := by decide +kernel
theorem dX9_bits_16 : decode cX9_bits 16 = .ok (.iconst 1, 1) := by decide +kernel
theorem dX9_bits_17 : decode cX9_bits 17 = .ok (.if_icmp .lt 17, 3) := by decide +kernel
theorem dX9_bits_20 : decode cX9_bits 20 = .ok (.iload_n 3, 1) := by decide +kernel
theorem dX9_bits_21 : decode cX9_bits 21 = .ok (.bipush 31, 2) := by decide +kernel
theorem dX9_bits_23 : decode cX9_bits 23 = .ok (.if_icmp .gt 11, 3) := by decide +kernel
theorem dX9_bits_26 : decode cX9_bits 26 = .ok (.iload_n 2, 1) := by decide +kernel
theorem dX9_bits_27 : decode cX9_bits 27 = .ok (.iload_n 3, 1) := by decide +kernel
theorem dX9_bits_28 : decode cX9_bits 28 = .ok (.invokestatic 90, 3) := by decide +kernel
theorem dX9_bits_31 : decode cX9_bits 31 = .ok (.ifCond .ne 7, 3) := by decide +kernel
theorem dX9_bits_34 : decode cX9_bits 34 = .ok (.iconst (-1), 1) := by decide +kernel
theorem dX9_bits_35 : decode cX9_bits 35 = .ok (.goto 10, 3) := by decide +kernel
theorem dX9_bits_38 : decode cX9_bits 38 = .ok (.aload 4, 2) := by decide +kernel
theorem dX9_bits_40 : decode cX9_bits 40 = .ok (.iload_n 2, 1) := by decide +kernel
theorem dX9_bits_41 : decode cX9_bits 41 = .ok (.iload_n 3, 1) := by decide +kernel
theorem dX9_bits_42 : decode cX9_bits 42 = .ok (.invokevirtual 93, 3) := by decide +kernel
theorem dX9_bits_45 : decode cX9_bits 45 = .ok (.ireturn, 1) := by decide +kernel
set_option maxRecDepth 20000 in
theorem zl_X9_bits_0 : z_All z_tab cX9_bits 5 (some .int) RX9 pc_X9_bits 0 (k_X9_bits.drop 0) := z_cons (ok_aload_n dX9_bits_0 rfl rfl) <| z_cons (ok_getr (k := 1) ⟨by decide, by decide, by decide⟩ (ci := 7) (T := TX9) rfl rfl (Nat.le_of_ble_eq_true rfl) iw_X9 qw_488 gr_10_1 (fun _ _ => by simp) (fun w i => List.mem_of_getElem? (i := 1) rfl) dX9_bits_1 rfl rfl) <| z_cons (ok_iload_n dX9_bits_4 rfl rfl) <| z_cons (ok_callv ⟨by decide, by decide, by decide⟩ (ci := 6) (C := RX8) (T := TX8) rfl go_9 (k := 91) (n := 1) qw_220 qw_124 ⟨by decide +kernel, by decide +kernel, by decide +kernel⟩ (Nat.le_of_ble_eq_true rfl) qw_503 qw_222 qw_223 dX9_bits_5 rfl rfl) <| z_cons (ok_astore (Nat.le_of_ble_eq_true rfl) dX9_bits_8 rfl rfl) <| z_cons (ok_aload dX9_bits_10 rfl rfl) <| z_cons (ok_ifnull (tgt := 34) (by decide) rfl dX9_bits_12 rfl rfl) <| z_cons (ok_iload_n dX9_bits_15 rfl rfl) <| z_cons (ok_iconst (by decide) dX9_bits_16 rfl rfl) <| z_cons (ok_icmp_lt (tgt := 34) (by decide) rfl dX9_bits_17 rfl rfl) <| z_cons (ok_iload_n dX9_bits_20 rfl rfl) <| z_cons (ok_bipush (by decide) dX9_bits_21 rfl rfl) <| z_cons (ok_icmp_gt (tgt := 34) (by decide) rfl dX9_bits_23 rfl rfl) <| z_cons (ok_iload_n dX9_bits_26 rfl rfl) <| z_cons (ok_iload_n dX9_bits_27 rfl rfl) <| z_cons (ok_callS (k := 158) (n := 2) qw_449 qw_22 ⟨by decide +kernel, by decide +kernel, by decide +kernel⟩ (Nat.le_of_ble_eq_true rfl) qw_537 qw_450 dX9_bits_28 rfl rfl) <| z_cons (ok_if_ne (tgt := 38) (by decide) rfl dX9_bits_31 rfl rfl) <| z_cons (ok_iconst (by decide) dX9_bits_34 rfl rfl) <| z_cons (ok_goto (tgt := 45) (by decide) rfl dX9_bits_35 rfl) <| z_cons (ok_aload dX9_bits_38 rfl rfl) <| z_cons (ok_iload_n dX9_bits_40 rfl rfl) <| z_cons (ok_iload_n dX9_bits_41 rfl rfl) <| z_cons (ok_callv ⟨by decide, by decide, by decide⟩ (ci := 4) (C := RX6) (T := TX6) rfl go_7 (k := 80) (n := 2) qw_323 qw_203 ⟨by decide +kernel, by decide +kernel, by decide +kernel⟩ (Nat.le_of_ble_eq_true rfl) qw_538 qw_325 qw_326 dX9_bits_42 rfl rfl) <| z_cons (ok_iret rfl dX9_bits_45 rfl) <| z_nil
theorem dX9_reader_0 : decode cX9_reader 0 = .ok (.aload_n 0, 1) := by decide +kernel
theorem dX9_reader_1 : decode cX9_reader 1 = .ok (.getfield 21, 3) := by decide +kernel
theorem dX9_reader_4 : decode cX9_reader 4 = .ok (.iload_n 1, 1) := by decide +kernel
theorem dX9_reader_5 : decode cX9_reader 5 = .ok (.invokevirtual 33, 3) := by decide +kernel
theorem dX9_reader_8 : decode cX9_reader 8 = .ok (.astore_n 3, 1) := by decide +kernel
theorem dX9_reader_9 : decode cX9_reader 9 = .ok (.aload_n 3, 1) := by decide +kernel
theorem dX9_reader_10 : decode cX9_reader 10 = .ok (.ifnonnull 5, 3) := by decide +kernel
theorem dX9_reader_13 : decode cX9_reader 13 = .ok (.iconst (-1), 1) := by decide +kernel
theorem dX9_reader_14 : decode cX9_reader 14 = .ok (.ireturn, 1) := by decide +kernel
theorem dX9_reader_15 : decode cX9_reader 15 = .ok (.iload_n 2, 1) := by decide +kernel
theorem dX9_reader_16 : decode cX9_reader 16 = .ok (.bipush 10, 2) := by decide +kernel
theorem dX9_reader_18 : decode cX9_reader 18 = .ok (.if_icmp .ne 17, 3) := by decide +kernel
theorem dX9_reader_21 : decode cX9_reader 21 = .ok (.aload_n 0, 1) := by decide +kernel
theorem dX9_reader_22 : decode cX9_reader 22 = .ok (.getfield 21, 3) := by decide +kernel
theorem dX9_reader_25 : decode cX9_reader 25 = .ok (.iload_n 1, 1) := by decide +kernel
theorem dX9_reader_26 : decode cX9_reader 26 = .ok (.invokevirtual 96, 3) := by decide +kernel
theorem dX9_reader_29 : decode cX9_reader 29 = .ok (.invokestatic 100, 3) := by decide +kernel
theorem dX9_reader_32 : decode cX9_reader 32 = .ok (.goto 8, 3) := by decide +kernel
theorem dX9_reader_35 : decode cX9_reader 35 = .ok (.aload_n 3, 1) := by decide +kernel
theorem dX9_reader_36 : decode cX9_reader 36 = .ok (.iload_n 2, 1) := by decide +kernel
theorem dX9_reader_37 : decode cX9_reader 37 = .ok (.invokevirtual 105, 3) := by decide +kernel
theorem dX9_reader_40 : decode cX9_reader 40 = .ok (.ireturn, 1) := by decide +kernel
set_option maxRecDepth 20000 in
theorem zl_X9_reader_0 : z_All z_tab cX9_reader 4 (some .int) RX9 pc_X9_reader 0 (k_X9_reader.drop 0) := z_cons (ok_aload_n dX9_reader_0 rfl rfl) <| z_cons (ok_getr (k := 1) ⟨by decide, by decide, by decide⟩ (ci := 7) (T := TX9) rfl rfl (Nat.le_of_ble_eq_true rfl) iw_X9 qw_488 gr_10_1 (fun _ _ => by simp) (fun w i => List.mem_of_getElem? (i := 1) rfl) dX9_reader_1 rfl rfl) <| z_cons (ok_iload_n dX9_reader_4 rfl rfl) <| z_cons (ok_callv ⟨by decide, by decide, by decide⟩ (ci := 6) (C := RX8) (T := TX8) rfl go_9 (k := 92) (n := 1) qw_123 qw_124 ⟨by decide +kernel, by decide +kernel, by decide +kernel⟩ (Nat.le_of_ble_eq_true rfl) qw_494 qw_126 qw_127 dX9_reader_5 rfl rfl) <| z_cons (ok_astore_n (Nat.le_of_ble_eq_true rfl) dX9_reader_8 rfl rfl) <| z_cons (ok_aload_n dX9_reader_9 rfl rfl) <| z_cons (ok_ifnonnull (tgt := 15) (by decide) rfl dX9_reader_10 rfl rfl) <| z_cons (ok_iconst (by decide) dX9_reader_13 rfl rfl) <| z_cons (ok_iret rfl dX9_reader_14 rfl) <| z_cons (ok_iload_n dX9_reader_15 rfl rfl) <| z_cons (ok_bipush (by decide) dX9_reader_16 rfl rfl) <| z_cons (ok_icmp_ne (tgt := 35) (by decide) rfl dX9_reader_18 rfl rfl) <| z_cons (ok_aload_n dX9_reader_21 rfl rfl) <| z_cons (ok_getr (k := 1) ⟨by decide, by decide, by decide⟩ (ci := 7) (T := TX9) rfl rfl (Nat.le_of_ble_eq_true rfl) iw_X9 qw_488 gr_10_1 (fun _ _ => by simp) (fun w i => List.mem_of_getElem? (i := 1) rfl) dX9_reader_22 rfl rfl) <| z_cons (ok_iload_n dX9_reader_25 rfl rfl) <| z_cons (ok_callv ⟨by decide, by decide, by decide⟩ (ci := 6) (C := RX8) (T := TX8) rfl go_9 (k := 112) (n := 1) qw_255 qw_124 ⟨by decide +kernel, by decide +kernel, by decide +kernel⟩ (Nat.le_of_ble_eq_true rfl) qw_539 qw_257 qw_258 dX9_reader_26 rfl rfl) <| z_cons (ok_callS (k := 274) (n := 1) qw_25 qw_26 ⟨by decide +kernel, by decide +kernel, by decide +kernel⟩ (Nat.le_of_ble_eq_true rfl) qw_540 qw_27 dX9_reader_29 rfl rfl) <| z_cons (ok_goto (tgt := 40) (by decide) rfl dX9_reader_32 rfl) <| z_cons (ok_aload_n dX9_reader_35 rfl rfl) <| z_cons (ok_iload_n dX9_reader_36 rfl rfl) <| z_cons (ok_callv ⟨by decide, by decide, by decide⟩ (ci := 3) (C := RX3) (T := TX3) rfl go_4 (k := 37) (n := 1) qw_541 qw_103 ⟨by decide +kernel, by decide +kernel, by decide +kernel⟩ (Nat.le_of_ble_eq_true rfl) qw_542 qw_543 qw_544 dX9_reader_37 rfl rfl) <| z_cons (ok_iret rfl dX9_reader_40 rfl) <| z_nil
theorem dX9_prefix_0 : decode cX9_prefix 0 = .ok (.aload_n 0, 1) := by decide +kernel
theorem dX9_prefix_1 : decode cX9_prefix 1 = .ok (.getfield 21, 3) := by decide +kernel
theorem dX9_prefix_4 : decode cX9_prefix 4 = .ok (.iload_n 1, 1) := by decide +kernel
theorem dX9_prefix_5 : decode cX9_prefix 5 = .ok (.invokevirtual 33, 3) := by decide +kernel
theorem dX9_prefix_8 : decode cX9_prefix 8 = .ok (.astore 4, 2) := by decide +kernel
theorem dX9_prefix_10 : decode cX9_prefix 10 = .ok (.aload 4, 2) := by decide +kernel
theorem dX9_prefix_12 : decode cX9_prefix 12 = .ok (.ifnull 12, 3) := by decide +kernel
theorem dX9_prefix_15 : decode cX9_prefix 15 = .ok (.iload_n 3, 1) := by decide +kernel
theorem dX9_prefix_16 : decode cX9_prefix 16 = .ok (.ifCond .lt 8, 3) := by decide +kernel
theorem dX9_prefix_19 : decode cX9_prefix 19 = .ok (.iload_n 3, 1) := by decide +kernel
theorem dX9_prefix_20 : decode cX9_prefix 20 = .ok (.iconst 1, 1) := by decide +kernel
theorem dX9_prefix_21 : decode cX9_prefix 21 = .ok (.if_icmp .le 7, 3) := by decide +kernel
theorem dX9_prefix_24 : decode cX9_prefix 24 = .ok (.iconst (-1), 1) := by decide +kernel
theorem dX9_prefix_25 : decode cX9_prefix 25 = .ok (.goto 24, 3) := by decide +kernel
theorem dX9_prefix_28 : decode cX9_prefix 28 = .ok (.aload 4, 2) := by decide +kernel
theorem dX9_prefix_30 : decode cX9_prefix 30 = .ok (.getfield 107, 3) := by decide +kernel
theorem dX9_prefix_33 : decode cX9_prefix 33 = .ok (.aload 4, 2) := by decide +kernel
theorem dX9_prefix_35 : decode cX9_prefix 35 = .ok (.getfield 107, 3) := by decide +kernel
theorem dX9_prefix_38 : decode cX9_prefix 38 = .ok (.getfield 111, 3) := by decide +kernel
theorem dX9_prefix_41 : decode cX9_prefix 41 = .ok (.iconst 1, 1) := by decide +kernel
theorem dX9_prefix_42 : decode cX9_prefix 42 = .ok (.isub, 1) := by decide +kernel
theorem dX9_prefix_43 : decode cX9_prefix 43 = .ok (.iload_n 2, 1) := by decide +kernel
theorem dX9_prefix_44 : decode cX9_prefix 44 = .ok (.isub, 1) := by decide +kernel
theorem dX9_prefix_45 : decode cX9_prefix 45 = .ok (.iload_n 3, 1) := by decide +kernel
theorem dX9_prefix_46 : decode cX9_prefix 46 = .ok (.invokevirtual 116, 3) := by decide +kernel
theorem dX9_prefix_49 : decode cX9_prefix 49 = .ok (.ireturn, 1) := by decide +kernel
set_option maxRecDepth 20000 in
theorem zl_X9_prefix_0 : z_All z_tab cX9_prefix 5 (some .int) RX9 pc_X9_prefix 0 (k_X9_prefix.drop 0) := z_cons (ok_aload_n dX9_prefix_0 rfl rfl) <| z_cons (ok_getr (k := 1) ⟨by decide, by decide, by decide⟩ (ci := 7) (T := TX9) rfl rfl (Nat.le_of_ble_eq_true rfl) iw_X9 qw_488 gr_10_1 (fun _ _ => by simp) (fun w i => List.mem_of_getElem? (i := 1) rfl) dX9_prefix_1 rfl rfl) <| z_cons (ok_iload_n dX9_prefix_4 rfl rfl) <| z_cons (ok_callv ⟨by decide, by decide, by decide⟩ (ci := 6) (C := RX8) (T := TX8) rfl go_9 (k := 92) (n := 1) qw_123 qw_124 ⟨by decide +kernel, by decide +kernel, by decide +kernel⟩ (Nat.le_of_ble_eq_true rfl) qw_494 qw_126 qw_127 dX9_prefix_5 rfl rfl) <| z_cons (ok_astore (Nat.le_of_ble_eq_true rfl) dX9_prefix_8 rfl rfl) <| z_cons (ok_aload dX9_prefix_10 rfl rfl) <| z_cons (ok_ifnull (tgt := 24) (by decide) rfl dX9_prefix_12 rfl rfl) <| z_cons (ok_iload_n dX9_prefix_15 rfl rfl) <| z_cons (ok_if_lt (tgt := 24) (by decide) rfl dX9_prefix_16 rfl rfl) <| z_cons (ok_iload_n dX9_prefix_19 rfl rfl) <| z_cons (ok_iconst (by decide) dX9_prefix_20 rfl rfl) <| z_cons (ok_icmp_le (tgt := 28) (by decide) rfl dX9_prefix_21 rfl rfl) <| z_cons (ok_iconst (by decide) dX9_prefix_24 rfl rfl) <| z_cons (ok_goto (tgt := 49) (by decide) rfl dX9_prefix_25 rfl) <| z_cons (ok_aload dX9_prefix_28 rfl rfl) <| z_cons (ok_getr (k := 15) ⟨by decide, by decide, by decide⟩ (ci := 3) (T := TX3) rfl rfl (Nat.le_of_ble_eq_true rfl) iw_X3 qw_545 gr_4_15 (fun _ _ => by simp) (fun w i => List.mem_of_getElem? (i := 3) rfl) dX9_prefix_30 rfl rfl) <| z_cons (ok_aload dX9_prefix_33 rfl rfl) <| z_cons (ok_getr (k := 15) ⟨by decide, by decide, by decide⟩ (ci := 3) (T := TX3) rfl rfl (Nat.le_of_ble_eq_true rfl) iw_X3 qw_545 gr_4_15 (fun _ _ => by simp) (fun w i => List.mem_of_getElem? (i := 3) rfl) dX9_prefix_35 rfl rfl) <| z_cons (ok_get ⟨by decide, by decide, by decide⟩ (ci := 2) (T := TX2) rfl rfl (Nat.le_of_ble_eq_true rfl) iw_X2 qw_546 gv_3_1 dX9_prefix_38 rfl rfl) <| z_cons (ok_iconst (by decide) dX9_prefix_41 rfl rfl) <| z_cons (ok_isub dX9_prefix_42 rfl rfl) <| z_cons (ok_iload_n dX9_prefix_43 rfl rfl) <| z_cons (ok_isub dX9_prefix_44 rfl rfl) <| z_cons (ok_iload_n dX9_prefix_45 rfl rfl) <| z_cons (ok_callv ⟨by decide, by decide, by decide⟩ (ci := 2) (C := RX2) (T := TX2) rfl go_3 (k := 23) (n := 2) qw_547 qw_42 ⟨by decide +kernel, by decide +kernel, by decide +kernel⟩ (Nat.le_of_ble_eq_true rfl) qw_548 qw_549 qw_550 dX9_prefix_46 rfl rfl) <| z_cons (ok_iret rfl dX9_prefix_49 rfl) <| z_nil
theorem dX9_learnt_0 : decode cX9_learnt 0 = .ok (.aload_n 0, 1) := by decide +kernel
theorem dX9_learnt_1 : decode cX9_learnt 1 = .ok (.getfield 21, 3) := by decide +kernel
theorem dX9_learnt_4 : decode cX9_learnt 4 = .ok (.iload_n 1, 1) := by decide +kernel
theorem dX9_learnt_5 : decode cX9_learnt 5 = .ok (.invokevirtual 33, 3) := by decide +kernel
theorem dX9_learnt_8 : decode cX9_learnt 8 = .ok (.astore 4, 2) := by decide +kernel
theorem dX9_learnt_10 : decode cX9_learnt 10 = .ok (.aload 4, 2) := by decide +kernel
theorem dX9_learnt_12 : decode cX9_learnt 12 = .ok (.ifnonnull 7, 3) := by decide +kernel
theorem dX9_learnt_15 : decode cX9_learnt 15 = .ok (.iconst (-1), 1) := by decide +kernel
theorem dX9_learnt_16 : decode cX9_learnt 16 = .ok (.goto 13, 3) := by decide +kernel
theorem dX9_learnt_19 : decode cX9_learnt 19 = .ok (.aload 4, 2) := by decide +kernel
theorem dX9_learnt_21 : decode cX9_learnt 21 = .ok (.getfield 117, 3) := by decide +kernel
theorem dX9_learnt_24 : decode cX9_learnt 24 = .ok (.iload_n 2, 1) := by decide +kernel
theorem dX9_learnt_25 : decode cX9_learnt 25 = .ok (.iload_n 3, 1) := by decide +kernel
theorem dX9_learnt_26 : decode cX9_learnt 26 = .ok (.invokevirtual 116, 3) := by decide +kernel
theorem dX9_learnt_29 : decode cX9_learnt 29 = .ok (.ireturn, 1) := by decide +kernel
set_option maxRecDepth 20000 in
theorem zl_X9_learnt_0 : z_All z_tab cX9_learnt 5 (some .int) RX9 pc_X9_learnt 0 (k_X9_learnt.drop 0) := z_cons (ok_aload_n dX9_learnt_0 rfl rfl) <| z_cons (ok_getr (k := 1) ⟨by decide, by decide, by decide⟩ (ci := 7) (T := TX9) rfl rfl (Nat.le_of_ble_eq_true rfl) iw_X9 qw_488 gr_10_1 (fun _ _ => by simp) (fun w i => List.mem_of_getElem? (i := 1) rfl) dX9_learnt_1 rfl rfl) <| z_cons (ok_iload_n dX9_learnt_4 rfl rfl) <| z_cons (ok_callv ⟨by decide, by decide, by decide⟩ (ci := 6) (C := RX8) (T := TX8) rfl go_9 (k := 92) (n := 1) qw_123 qw_124 ⟨by decide +kernel, by decide +kernel, by decide +kernel⟩ (Nat.le_of_ble_eq_true rfl) qw_494 qw_126 qw_127 dX9_learnt_5 rfl rfl) <| z_cons (ok_astore (Nat.le_of_ble_eq_true rfl) dX9_learnt_8 rfl rfl) <| z_cons (ok_aload dX9_learnt_10 rfl rfl) <| z_cons (ok_ifnonnull (tgt := 19) (by decide) rfl dX9_learnt_12 rfl rfl) <| z_cons (ok_iconst (by decide) dX9_learnt_15 rfl rfl) <| z_cons (ok_goto (tgt := 29) (by decide) rfl dX9_learnt_16 rfl) <| z_cons (ok_aload dX9_learnt_19 rfl rfl) <| z_cons (ok_getr (k := 17) ⟨by decide, by decide, by decide⟩ (ci := 3) (T := TX3) rfl rfl (Nat.le_of_ble_eq_true rfl) iw_X3 qw_551 gr_4_17 (fun _ _ => by simp) (fun w i => List.mem_of_getElem? (i := 5) rfl) dX9_learnt_21 rfl rfl) <| z_cons (ok_iload_n dX9_learnt_24 rfl rfl) <| z_cons (ok_iload_n dX9_learnt_25 rfl rfl) <| z_cons (ok_callv ⟨by decide, by decide, by decide⟩ (ci := 2) (C := RX2) (T := TX2) rfl go_3 (k := 23) (n := 2) qw_547 qw_42 ⟨by decide +kernel, by decide +kernel, by decide +kernel⟩ (Nat.le_of_ble_eq_true rfl) qw_548 qw_549 qw_550 dX9_learnt_26 rfl rfl) <| z_cons (ok_iret rfl dX9_learnt_29 rfl) <| z_nil
theorem dX9_jammed_0 : decode cX9_jammed 0 = .ok (.aload_n 0, 1) := by decide +kernel
theorem dX9_jammed_1 : decode cX9_jammed 1 = .ok (.getfield 21, 3) := by decide +kernel
theorem dX9_jammed_4 : decode cX9_jammed 4 = .ok (.iload_n 1, 1) := by decide +kernel
theorem dX9_jammed_5 : decode cX9_jammed 5 = .ok (.invokevirtual 46, 3) := by decide +kernel
theorem dX9_jammed_8 : decode cX9_jammed 8 = .ok (.astore_n 2, 1) := by decide +kernel
theorem dX9_jammed_9 : decode cX9_jammed 9 = .ok (.aload_n 2, 1) := by decide +kernel
theorem dX9_jammed_10 : decode cX9_jammed 10 = .ok (.ifnull 11, 3) := by decide +kernel
theorem dX9_jammed_13 : decode cX9_jammed 13 = .ok (.aload_n 2, 1) := by decide +kernel
theorem dX9_jammed_14 : decode cX9_jammed 14 = .ok (.getfield 120, 3) := by decide +kernel
theorem dX9_jammed_17 : decode cX9_jammed 17 = .ok (.iconst (-1), 1) := by decide +kernel
theorem dX9_jammed_18 : decode cX9_jammed 18 = .ok (.if_icmp .ne 5, 3) := by decide +kernel
theorem dX9_jammed_21 : decode cX9_jammed 21 = .ok (.iconst (-1), 1) := by decide +kernel
theorem dX9_jammed_22 : decode cX9_jammed 22 = .ok (.ireturn, 1) := by decide +kernel
theorem dX9_jammed_23 : decode cX9_jammed 23 = .ok (.aload_n 0, 1) := by decide +kernel
theorem dX9_jammed_24 : decode cX9_jammed 24 = .ok (.getfield 21, 3) := by decide +kernel
theorem dX9_jammed_27 : decode cX9_jammed 27 = .ok (.aload_n 2, 1) := by decide +kernel
theorem dX9_jammed_28 : decode cX9_jammed 28 = .ok (.aload_n 0, 1) := by decide +kernel
theorem dX9_jammed_29 : decode cX9_jammed 29 = .ok (.getfield 21, 3) := by decide +kernel
theorem dX9_jammed_32 : decode cX9_jammed 32 = .ok (.invokevirtual 123, 3) := by decide +kernel
theorem dX9_jammed_35 : decode cX9_jammed 35 = .ok (.invokevirtual 127, 3) := by decide +kernel
theorem dX9_jammed_38 : decode cX9_jammed 38 = .ok (.ifCond .eq 7, 3) := by decide +kernel
theorem dX9_jammed_41 : decode cX9_jammed 41 = .ok (.iconst 1, 1) := by decide +kernel
theorem dX9_jammed_42 : decode cX9_jammed 42 = .ok (.goto 4, 3) := by decide +kernel
theorem dX9_jammed_45 : decode cX9_jammed 45 = .ok (.iconst 0, 1) := by decide +kernel
theorem dX9_jammed_46 : decode cX9_jammed 46 = .ok (.ireturn, 1) := by decide +kernel
set_option maxRecDepth 20000 in
theorem zl_X9_jammed_0 : z_All z_tab cX9_jammed 3 (some .int) RX9 pc_X9_jammed 0 (k_X9_jammed.drop 0) := z_cons (ok_aload_n dX9_jammed_0 rfl rfl) <| z_cons (ok_getr (k := 1) ⟨by decide, by decide, by decide⟩ (ci := 7) (T := TX9) rfl rfl (Nat.le_of_ble_eq_true rfl) iw_X9 qw_488 gr_10_1 (fun _ _ => by simp) (fun w i => List.mem_of_getElem? (i := 1) rfl) dX9_jammed_1 rfl rfl) <| z_cons (ok_iload_n dX9_jammed_4 rfl rfl) <| z_cons (ok_callv ⟨by decide, by decide, by decide⟩ (ci := 6) (C := RX8) (T := TX8) rfl go_9 (k := 91) (n := 1) qw_220 qw_124 ⟨by decide +kernel, by decide +kernel, by decide +kernel⟩ (Nat.le_of_ble_eq_true rfl) qw_503 qw_222 qw_223 dX9_jammed_5 rfl rfl) <| z_cons (ok_astore_n (Nat.le_of_ble_eq_true rfl) dX9_jammed_8 rfl rfl) <| z_cons (ok_aload_n dX9_jammed_9 rfl rfl) <| z_cons (ok_ifnull (tgt := 21) (by decide) rfl dX9_jammed_10 rfl rfl) <| z_cons (ok_aload_n dX9_jammed_13 rfl rfl) <| z_cons (ok_get ⟨by decide, by decide, by decide⟩ (ci := 4) (T := TX6) rfl rfl (Nat.le_of_ble_eq_true rfl) iw_X6 qw_552 gv_7_4 dX9_jammed_14 rfl rfl) <| z_cons (ok_iconst (by decide) dX9_jammed_17 rfl rfl) <| z_cons (ok_icmp_ne (tgt := 23) (by decide) rfl dX9_jammed_18 rfl rfl) <| z_cons (ok_iconst (by decide) dX9_jammed_21 rfl rfl) <| z_cons (ok_iret rfl dX9_jammed_22 rfl) <| z_cons (ok_aload_n dX9_jammed_23 rfl rfl) <| z_cons (ok_getr (k := 1) ⟨by decide, by decide, by decide⟩ (ci := 7) (T := TX9) rfl rfl (Nat.le_of_ble_eq_true rfl) iw_X9 qw_488 gr_10_1 (fun _ _ => by simp) (fun w i => List.mem_of_getElem? (i := 1) rfl) dX9_jammed_24 rfl rfl) <| z_cons (ok_aload_n dX9_jammed_27 rfl rfl) <| z_cons (ok_aload_n dX9_jammed_28 rfl rfl) <| z_cons (ok_getr (k := 1) ⟨by decide, by decide, by decide⟩ (ci := 7) (T := TX9) rfl rfl (Nat.le_of_ble_eq_true rfl) iw_X9 qw_488 gr_10_1 (fun _ _ => by simp) (fun w i => List.mem_of_getElem? (i := 1) rfl) dX9_jammed_29 rfl rfl) <| z_cons (ok_callv ⟨by decide, by decide, by decide⟩ (ci := 6) (C := RX8) (T := TX8) rfl go_9 (k := 116) (n := 0) qw_432 qw_124 ⟨by decide +kernel, by decide +kernel, by decide +kernel⟩ (Nat.le_of_ble_eq_true rfl) qw_553 qw_434 qw_435 dX9_jammed_32 rfl rfl) <| z_cons (ok_callv ⟨by decide, by decide, by decide⟩ (ci := 6) (C := RX8) (T := TX8) rfl go_9 (k := 114) (n := 2) qw_463 qw_124 ⟨by decide +kernel, by decide +kernel, by decide +kernel⟩ (Nat.le_of_ble_eq_true rfl) qw_554 qw_465 qw_466 dX9_jammed_35 rfl rfl) <| z_cons (ok_if_eq (tgt := 45) (by decide) rfl dX9_jammed_38 rfl rfl) <| z_cons (ok_iconst (by decide) dX9_jammed_41 rfl rfl) <| z_cons (ok_goto (tgt := 46) (by decide) rfl dX9_jammed_42 rfl) <| z_cons (ok_iconst (by decide) dX9_jammed_45 rfl rfl) <| z_cons (ok_iret rfl dX9_jammed_46 rfl) <| z_nil
theorem dX9_channels_0 : decode cX9_channels 0 = .ok (.aload_n 0, 1) := by decide +kernel
theorem dX9_channels_1 : decode cX9_channels 1 = .ok (.getfield 21, 3) := by decide +kernel
theorem dX9_channels_4 : decode cX9_channels 4 = .ok (.getfield 131, 3) := by decide +kernel
theorem dX9_channels_7 : decode cX9_channels 7 = .ok (.iload_n 1, 1) := by decide +kernel
theorem dX9_channels_8 : decode cX9_channels 8 = .ok (.invokestatic 135, 3) := by decide +kernel
theorem dX9_channels_11 : decode cX9_channels 11 = .ok (.ireturn, 1) := by decide +kernel
set_option maxRecDepth 20000 in
theorem zl_X9_channels_0 : z_All z_tab cX9_channels 2 (some .int) RX9 pc_X9_channels 0 (k_X9_channels.drop 0) := z_cons (ok_aload_n dX9_channels_0 rfl rfl) <| z_cons (ok_getr (k := 1) ⟨by decide, by decide, by decide⟩ (ci := 7) (T := TX9) rfl rfl (Nat.le_of_ble_eq_true rfl) iw_X9 qw_488 gr_10_1 (fun _ _ => by simp) (fun w i => List.mem_of_getElem? (i := 1) rfl) dX9_channels_1 rfl rfl) <| z_cons (ok_getr (k := 1) ⟨by decide, by decide, by decide⟩ (ci := 6) (T := TX8) rfl rfl (Nat.le_of_ble_eq_true rfl) iw_X8 qw_555 gr_9_1 (fun _ _ => by simp) (fun w i => List.mem_of_getElem? (i := 1) rfl) dX9_channels_4 rfl rfl) <| z_cons (ok_iload_n dX9_channels_7 rfl rfl) <| z_cons (ok_callS (k := 56) (n := 2) qw_556 qw_297 ⟨by decide +kernel, by decide +kernel, by decide +kernel⟩ (Nat.le_of_ble_eq_true rfl) qw_558 qw_557 dX9_channels_8 rfl rfl) <| z_cons (ok_iret rfl dX9_channels_11 rfl) <| z_nil
theorem dX9_cover_0 : decode cX9_cover 0 = .ok (.aload_n 0, 1) := by decide +kernel
theorem dX9_cover_1 : decode cX9_cover 1 = .ok (.getfield 21, 3) := by decide +kernel
theorem dX9_cover_4 : decode cX9_cover 4 = .ok (.getfield 131, 3) := by decide +kernel
theorem dX9_cover_7 : decode cX9_cover 7 = .ok (.invokestatic 141, 3) := by decide +kernel
theorem dX9_cover_10 : decode cX9_cover 10 = .ok (.ireturn, 1) := by decide +kernel
set_option maxRecDepth 20000 in
theorem zl_X9_cover_0 : z_All z_tab cX9_cover 1 (some .int) RX9 pc_X9_cover 0 (k_X9_cover.drop 0) := z_cons (ok_aload_n dX9_cover_0 rfl rfl) <| z_cons (ok_getr (k := 1) ⟨by decide, by decide, by decide⟩ (ci := 7) (T := TX9) rfl rfl (Nat.le_of_ble_eq_true rfl) iw_X9 qw_488 gr_10_1 (fun _ _ => by simp) (fun w i => List.mem_of_getElem? (i := 1) rfl) dX9_cover_1 rfl rfl) <| z_cons (ok_getr (k := 1) ⟨by decide, by decide, by decide⟩ (ci := 6) (T := TX8) rfl rfl (Nat.le_of_ble_eq_true rfl) iw_X8 qw_555 gr_9_1 (fun _ _ => by simp) (fun w i => List.mem_of_getElem? (i := 1) rfl) dX9_cover_4 rfl rfl) <| z_cons (ok_callS (k := 62) (n := 1) qw_559 qw_297 ⟨by decide +kernel, by decide +kernel, by decide +kernel⟩ (Nat.le_of_ble_eq_true rfl) qw_561 qw_560 dX9_cover_7 rfl rfl) <| z_cons (ok_iret rfl dX9_cover_10 rfl) <| z_nil
theorem dX9_read_0 : decode cX9_read 0 = .ok (.aload_n 0, 1) := by decide +kernel
theorem dX9_read_1 : decode cX9_read 1 = .ok (.getfield 21, 3) := by decide +kernel
theorem dX9_read_4 : decode cX9_read 4 = .ok (.iload_n 1, 1) := by decide +kernel
theorem dX9_read_5 : decode cX9_read 5 = .ok (.invokevirtual 33, 3) := by decide +kernel
theorem dX9_read_8 : decode cX9_read 8 = .ok (.astore_n 3, 1) := by decide +kernel
theorem dX9_read_9 : decode cX9_read 9 = .ok (.aload_n 3, 1) := by decide +kernel
theorem dX9_read_10 : decode cX9_read 10 = .ok (.ifnull 24, 3) := by decide +kernel
theorem dX9_read_13 : decode cX9_read 13 = .ok (.iload_n 2, 1) := by decide +kernel
theorem dX9_read_14 : decode cX9_read 14 = .ok (.ifCond .lt 20, 3) := by decide +kernel
theorem dX9_read_17 : decode cX9_read 17 = .ok (.iload_n 2, 1) := by decide +kernel
theorem dX9_read_18 : decode cX9_read 18 = .ok (.aload_n 3, 1) := by decide +kernel
theorem dX9_read_19 : decode cX9_read 19 = .ok (.getfield 145, 3) := by decide +kernel
theorem dX9_read_22 : decode cX9_read 22 = .ok (.getfield 149, 3) := by decide +kernel
theorem dX9_read_25 : decode cX9_read 25 = .ok (.if_icmp .ge 9, 3) := by decide +kernel
theorem dX9_read_28 : decode cX9_read 28 = .ok (.iload_n 2, 1) := by decide +kernel
theorem dX9_read_29 : decode cX9_read 29 = .ok (.bipush 24, 2) := by decide +kernel
theorem dX9_read_31 : decode cX9_read 31 = .ok (.if_icmp .lt 7, 3) := by decide +kernel
theorem dX9_read_34 : decode cX9_read 34 = .ok (.iconst (-1), 1) := by decide +kernel
theorem dX9_read_35 : decode cX9_read 35 = .ok (.goto 9, 3) := by decide +kernel
theorem dX9_read_38 : decode cX9_read 38 = .ok (.aload_n 3, 1) := by decide +kernel
theorem dX9_read_39 : decode cX9_read 39 = .ok (.getfield 154, 3) := by decide +kernel
theorem dX9_read_42 : decode cX9_read 42 = .ok (.iload_n 2, 1) := by decide +kernel
theorem dX9_read_43 : decode cX9_read 43 = .ok (.iaload, 1) := by decide +kernel
theorem dX9_read_44 : decode cX9_read 44 = .ok (.ireturn, 1) := by decide +kernel
set_option maxRecDepth 20000 in
theorem zl_X9_read_0 : z_All z_tab cX9_read 4 (some .int) RX9 pc_X9_read 0 (k_X9_read.drop 0) := z_cons (ok_aload_n dX9_read_0 rfl rfl) <| z_cons (ok_getr (k := 1) ⟨by decide, by decide, by decide⟩ (ci := 7) (T := TX9) rfl rfl (Nat.le_of_ble_eq_true rfl) iw_X9 qw_488 gr_10_1 (fun _ _ => by simp) (fun w i => List.mem_of_getElem? (i := 1) rfl) dX9_read_1 rfl rfl) <| z_cons (ok_iload_n dX9_read_4 rfl rfl) <| z_cons (ok_callv ⟨by decide, by decide, by decide⟩ (ci := 6) (C := RX8) (T := TX8) rfl go_9 (k := 92) (n := 1) qw_123 qw_124 ⟨by decide +kernel, by decide +kernel, by decide +kernel⟩ (Nat.le_of_ble_eq_true rfl) qw_494 qw_126 qw_127 dX9_read_5 rfl rfl) <| z_cons (ok_astore_n (Nat.le_of_ble_eq_true rfl) dX9_read_8 rfl rfl) <| z_cons (ok_aload_n dX9_read_9 rfl rfl) <| z_cons (ok_ifnull (tgt := 34) (by decide) rfl dX9_read_10 rfl rfl) <| z_cons (ok_iload_n dX9_read_13 rfl rfl) <| z_cons (ok_if_lt (tgt := 34) (by decide) rfl dX9_read_14 rfl rfl) <| z_cons (ok_iload_n dX9_read_17 rfl rfl) <| z_cons (ok_aload_n dX9_read_18 rfl rfl) <| z_cons (ok_getr (k := 12) ⟨by decide, by decide, by decide⟩ (ci := 3) (T := TX3) rfl rfl (Nat.le_of_ble_eq_true rfl) iw_X3 qw_562 gr_4_12 (fun _ _ => by simp) (fun w i => List.mem_of_getElem? (i := 0) rfl) dX9_read_19 rfl rfl) <| z_cons (ok_get ⟨by decide, by decide, by decide⟩ (ci := 5) (T := TX7) rfl rfl (Nat.le_of_ble_eq_true rfl) iw_X7 qw_563 gv_8_1 dX9_read_22 rfl rfl) <| z_cons (ok_icmp_ge (tgt := 34) (by decide) rfl dX9_read_25 rfl rfl) <| z_cons (ok_iload_n dX9_read_28 rfl rfl) <| z_cons (ok_bipush (by decide) dX9_read_29 rfl rfl) <| z_cons (ok_icmp_lt (tgt := 38) (by decide) rfl dX9_read_31 rfl rfl) <| z_cons (ok_iconst (by decide) dX9_read_34 rfl rfl) <| z_cons (ok_goto (tgt := 44) (by decide) rfl dX9_read_35 rfl) <| z_cons (ok_aload_n dX9_read_38 rfl rfl) <| z_cons (ok_getr (k := 14) ⟨by decide, by decide, by decide⟩ (ci := 3) (T := TX3) rfl rfl (Nat.le_of_ble_eq_true rfl) iw_X3 qw_564 gr_4_14 (fun _ _ => by simp) (fun w i => List.mem_of_getElem? (i := 2) rfl) dX9_read_39 rfl rfl) <| z_cons (ok_iload_n dX9_read_42 rfl rfl) <| z_cons (ok_iald dX9_read_43 rfl rfl) <| z_cons (ok_iret rfl dX9_read_44 rfl) <| z_nil
theorem dX9_wouldHave_0 : decode cX9_wouldHave 0 = .ok (.aload_n 0, 1) := by decide +kernel
theorem dX9_wouldHave_1 : decode cX9_wouldHave 1 = .ok (.getfield 21, 3) := by decide +kernel
theorem dX9_wouldHave_4 : decode cX9_wouldHave 4 = .ok (.iload_n 1, 1) := by decide +kernel
theorem dX9_wouldHave_5 : decode cX9_wouldHave 5 = .ok (.iload_n 2, 1) := by decide +kernel
theorem dX9_wouldHave_6 : decode cX9_wouldHave 6 = .ok (.iload_n 3, 1) := by decide +kernel
theorem dX9_wouldHave_7 : decode cX9_wouldHave 7 = .ok (.iload 4, 2) := by decide +kernel
theorem dX9_wouldHave_9 : decode cX9_wouldHave 9 = .ok (.invokevirtual 158, 3) := by decide +kernel
theorem dX9_wouldHave_12 : decode cX9_wouldHave 12 = .ok (.istore 5, 2) := by decide +kernel
theorem dX9_wouldHave_14 : decode cX9_wouldHave 14 = .ok (.iload 5, 2) := by decide +kernel
theorem dX9_wouldHave_16 : decode cX9_wouldHave 16 = .ok (.iconst (-1), 1) := by decide +kernel
theorem dX9_wouldHave_17 : decode cX9_wouldHave 17 = .ok (.if_icmp .ne 7, 3) := by decide +kernel
theorem dX9_wouldHave_20 : decode cX9_wouldHave 20 = .ok (.iconst (-1), 1) := by decide +kernel
theorem dX9_wouldHave_21 : decode cX9_wouldHave 21 = .ok (.goto 8, 3) := by decide +kernel
theorem dX9_wouldHave_24 : decode cX9_wouldHave 24 = .ok (.iload 5, 2) := by decide +kernel
theorem dX9_wouldHave_26 : decode cX9_wouldHave 26 = .ok (.invokestatic 100, 3) := by decide +kernel
theorem dX9_wouldHave_29 : decode cX9_wouldHave 29 = .ok (.ireturn, 1) := by decide +kernel
set_option maxRecDepth 20000 in
theorem zl_X9_wouldHave_0 : z_All z_tab cX9_wouldHave 6 (some .int) RX9 pc_X9_wouldHave 0 (k_X9_wouldHave.drop 0) := z_cons (ok_aload_n dX9_wouldHave_0 rfl rfl) <| z_cons (ok_getr (k := 1) ⟨by decide, by decide, by decide⟩ (ci := 7) (T := TX9) rfl rfl (Nat.le_of_ble_eq_true rfl) iw_X9 qw_488 gr_10_1 (fun _ _ => by simp) (fun w i => List.mem_of_getElem? (i := 1) rfl) dX9_wouldHave_1 rfl rfl) <| z_cons (ok_iload_n dX9_wouldHave_4 rfl rfl) <| z_cons (ok_iload_n dX9_wouldHave_5 rfl rfl) <| z_cons (ok_iload_n dX9_wouldHave_6 rfl rfl) <| z_cons (ok_iload dX9_wouldHave_7 rfl rfl) <| z_cons (ok_callv ⟨by decide, by decide, by decide⟩ (ci := 6) (C := RX8) (T := TX8) rfl go_9 (k := 109) (n := 4) qw_128 qw_124 ⟨by decide +kernel, by decide +kernel, by decide +kernel⟩ (Nat.le_of_ble_eq_true rfl) qw_565 qw_130 qw_131 dX9_wouldHave_9 rfl rfl) <| z_cons (ok_istore (Nat.le_of_ble_eq_true rfl) dX9_wouldHave_12 rfl rfl) <| z_cons (ok_iload dX9_wouldHave_14 rfl rfl) <| z_cons (ok_iconst (by decide) dX9_wouldHave_16 rfl rfl) <| z_cons (ok_icmp_ne (tgt := 24) (by decide) rfl dX9_wouldHave_17 rfl rfl) <| z_cons (ok_iconst (by decide) dX9_wouldHave_20 rfl rfl) <| z_cons (ok_goto (tgt := 29) (by decide) rfl dX9_wouldHave_21 rfl) <| z_cons (ok_iload dX9_wouldHave_24 rfl rfl) <| z_cons (ok_callS (k := 274) (n := 1) qw_25 qw_26 ⟨by decide +kernel, by decide +kernel, by decide +kernel⟩ (Nat.le_of_ble_eq_true rfl) qw_540 qw_27 dX9_wouldHave_26 rfl rfl) <| z_cons (ok_iret rfl dX9_wouldHave_29 rfl) <| z_nil
theorem dX9_queries_0 : decode cX9_queries 0 = .ok (.aload_n 0, 1) := by decide +kernel
theorem dX9_queries_1 : decode cX9_queries 1 = .ok (.getfield 21, 3) := by decide +kernel
theorem dX9_queries_4 : decode cX9_queries 4 = .ok (.iload_n 1, 1) := by decide +kernel
theorem dX9_queries_5 : decode cX9_queries 5 = .ok (.iload_n 2, 1) := by decide +kernel
theorem dX9_queries_6 : decode cX9_queries 6 = .ok (.iload_n 3, 1) := by decide +kernel
theorem dX9_queries_7 : decode cX9_queries 7 = .ok (.iload 4, 2) := by decide +kernel
theorem dX9_queries_9 : decode cX9_queries 9 = .ok (.invokevirtual 158, 3) := by decide +kernel
theorem dX9_queries_12 : decode cX9_queries 12 = .ok (.istore 5, 2) := by decide +kernel
theorem dX9_queries_14 : decode cX9_queries 14 = .ok (.iload 5, 2) := by decide +kernel
theorem dX9_queries_16 : decode cX9_queries 16 = .ok (.iconst (-1), 1) := by decide +kernel
theorem dX9_queries_17 : decode cX9_queries 17 = .ok (.if_icmp .ne 7, 3) := by decide +kernel
theorem dX9_queries_20 : decode cX9_queries 20 = .ok (.iconst (-1), 1) := by decide +kernel
theorem dX9_queries_21 : decode cX9_queries 21 = .ok (.goto 16, 3) := by decide +kernel
theorem dX9_queries_24 : decode cX9_queries 24 = .ok (.aload_n 0, 1) := by decide +kernel
theorem dX9_queries_25 : decode cX9_queries 25 = .ok (.getfield 21, 3) := by decide +kernel
theorem dX9_queries_28 : decode cX9_queries 28 = .ok (.getfield 131, 3) := by decide +kernel
theorem dX9_queries_31 : decode cX9_queries 31 = .ok (.iload 5, 2) := by decide +kernel
theorem dX9_queries_33 : decode cX9_queries 33 = .ok (.iconst 0, 1) := by decide +kernel
theorem dX9_queries_34 : decode cX9_queries 34 = .ok (.invokestatic 162, 3) := by decide +kernel
theorem dX9_queries_37 : decode cX9_queries 37 = .ok (.ireturn, 1) := by decide +kernel
set_option maxRecDepth 20000 in
theorem zl_X9_queries_0 : z_All z_tab cX9_queries 6 (some .int) RX9 pc_X9_queries 0 (k_X9_queries.drop 0) := z_cons (ok_aload_n dX9_queries_0 rfl rfl) <| z_cons (ok_getr (k := 1) ⟨by decide, by decide, by decide⟩ (ci := 7) (T := TX9) rfl rfl (Nat.le_of_ble_eq_true rfl) iw_X9 qw_488 gr_10_1 (fun _ _ => by simp) (fun w i => List.mem_of_getElem? (i := 1) rfl) dX9_queries_1 rfl rfl) <| z_cons (ok_iload_n dX9_queries_4 rfl rfl) <| z_cons (ok_iload_n dX9_queries_5 rfl rfl) <| z_cons (ok_iload_n dX9_queries_6 rfl rfl) <| z_cons (ok_iload dX9_queries_7 rfl rfl) <| z_cons (ok_callv ⟨by decide, by decide, by decide⟩ (ci := 6) (C := RX8) (T := TX8) rfl go_9 (k := 109) (n := 4) qw_128 qw_124 ⟨by decide +kernel, by decide +kernel, by decide +kernel⟩ (Nat.le_of_ble_eq_true rfl) qw_565 qw_130 qw_131 dX9_queries_9 rfl rfl) <| z_cons (ok_istore (Nat.le_of_ble_eq_true rfl) dX9_queries_12 rfl rfl) <| z_cons (ok_iload dX9_queries_14 rfl rfl) <| z_cons (ok_iconst (by decide) dX9_queries_16 rfl rfl) <| z_cons (ok_icmp_ne (tgt := 24) (by decide) rfl dX9_queries_17 rfl rfl) <| z_cons (ok_iconst (by decide) dX9_queries_20 rfl rfl) <| z_cons (ok_goto (tgt := 37) (by decide) rfl dX9_queries_21 rfl) <| z_cons (ok_aload_n dX9_queries_24 rfl rfl) <| z_cons (ok_getr (k := 1) ⟨by decide, by decide, by decide⟩ (ci := 7) (T := TX9) rfl rfl (Nat.le_of_ble_eq_true rfl) iw_X9 qw_488 gr_10_1 (fun _ _ => by simp) (fun w i => List.mem_of_getElem? (i := 1) rfl) dX9_queries_25 rfl rfl) <| z_cons (ok_getr (k := 1) ⟨by decide, by decide, by decide⟩ (ci := 6) (T := TX8) rfl rfl (Nat.le_of_ble_eq_true rfl) iw_X8 qw_555 gr_9_1 (fun _ _ => by simp) (fun w i => List.mem_of_getElem? (i := 1) rfl) dX9_queries_28 rfl rfl) <| z_cons (ok_iload dX9_queries_31 rfl rfl) <| z_cons (ok_iconst (by decide) dX9_queries_33 rfl rfl) <| z_cons (ok_callN (k := 64) (n := 3) qw_327 qw_297 ⟨by decide +kernel, by decide +kernel, by decide +kernel⟩ (Nat.le_of_ble_eq_true rfl) (host := "TagReaders") (by decide +kernel) qw_328 dX9_queries_34 rfl rfl) <| z_cons (ok_iret rfl dX9_queries_37 rfl) <| z_nil
theorem dX9_ways_0 : decode cX9_ways 0 = .ok (.aload_n 0, 1) := by decide +kernel
theorem dX9_ways_1 : decode cX9_ways 1 = .ok (.getfield 10, 3) := by decide +kernel
theorem dX9_ways_4 : decode cX9_ways 4 = .ok (.iload_n 1, 1) := by decide +kernel
theorem dX9_ways_5 : decode cX9_ways 5 = .ok (.iload_n 2, 1) := by decide +kernel
theorem dX9_ways_6 : decode cX9_ways 6 = .ok (.iload_n 3, 1) := by decide +kernel
theorem dX9_ways_7 : decode cX9_ways 7 = .ok (.invokevirtual 177, 3) := by decide +kernel
theorem dX9_ways_10 : decode cX9_ways 10 = .ok (.lreturn, 1) := by decide +kernel
set_option maxRecDepth 20000 in
theorem zl_X9_ways_0 : z_All z_tab cX9_ways 4 (some .long) RX9 pc_X9_ways 0 (k_X9_ways.drop 0) := z_cons (ok_aload_n dX9_ways_0 rfl rfl) <| z_cons (ok_getr (k := 0) ⟨by decide, by decide, by decide⟩ (ci := 7) (T := TX9) rfl rfl (Nat.le_of_ble_eq_true rfl) iw_X9 qw_566 gr_10_0 (fun _ _ => by simp) (fun w i => List.mem_of_getElem? (i := 0) rfl) dX9_ways_1 rfl rfl) <| z_cons (ok_iload_n dX9_ways_4 rfl rfl) <| z_cons (ok_iload_n dX9_ways_5 rfl rfl) <| z_cons (ok_iload_n dX9_ways_6 rfl rfl) <| z_cons (ok_callv ⟨by decide, by decide, by decide⟩ (ci := 0) (C := RX0) (T := TX0) rfl go_1 (k := 6) (n := 3) qw_567 qw_1 ⟨by decide +kernel, by decide +kernel, by decide +kernel⟩ (Nat.le_of_ble_eq_true rfl) qw_568 qw_569 qw_570 dX9_ways_7 rfl rfl) <| z_cons (ok_lret rfl dX9_ways_10 rfl) <| z_nil
theorem dX9_hope_0 : decode cX9_hope 0 = .ok (.aload_n 0, 1) := by decide +kernel
theorem dX9_hope_1 : decode cX9_hope 1 = .ok (.getfield 10, 3) := by decide +kernel
theorem dX9_hope_4 : decode cX9_hope 4 = .ok (.iload_n 1, 1) := by decide +kernel
theorem dX9_hope_5 : decode cX9_hope 5 = .ok (.iload_n 2, 1) := by decide +kernel
theorem dX9_hope_6 : decode cX9_hope 6 = .ok (.iload_n 3, 1) := by decide +kernel
theorem dX9_hope_7 : decode cX9_hope 7 = .ok (.invokevirtual 181, 3) := by decide +kernel
theorem dX9_hope_10 : decode cX9_hope 10 = .ok (.lreturn, 1) := by decide +kernel
set_option maxRecDepth 20000 in
theorem zl_X9_hope_0 : z_All z_tab cX9_hope 4 (some .long) RX9 pc_X9_hope 0 (k_X9_hope.drop 0) := z_cons (ok_aload_n dX9_hope_0 rfl rfl) <| z_cons (ok_getr (k := 0) ⟨by decide, by decide, by decide⟩ (ci := 7) (T := TX9) rfl rfl (Nat.le_of_ble_eq_true rfl) iw_X9 qw_566 gr_10_0 (fun _ _ => by simp) (fun w i => List.mem_of_getElem? (i := 0) rfl) dX9_hope_1 rfl rfl) <| z_cons (ok_iload_n dX9_hope_4 rfl rfl) <| z_cons (ok_iload_n dX9_hope_5 rfl rfl) <| z_cons (ok_iload_n dX9_hope_6 rfl rfl) <| z_cons (ok_callv ⟨by decide, by decide, by decide⟩ (ci := 0) (C := RX0) (T := TX0) rfl go_1 (k := 8) (n := 3) qw_571 qw_1 ⟨by decide +kernel, by decide +kernel, by decide +kernel⟩ (Nat.le_of_ble_eq_true rfl) qw_572 qw_573 qw_574 dX9_hope_7 rfl rfl) <| z_cons (ok_lret rfl dX9_hope_10 rfl) <| z_nil
theorem dX9_best_0 : decode cX9_best 0 = .ok (.aload_n 0, 1) := by decide +kernel
theorem dX9_best_1 : decode cX9_best 1 = .ok (.getfield 10, 3) := by decide +kernel
theorem dX9_best_4 : decode cX9_best 4 = .ok (.iload_n 1, 1) := by decide +kernel
theorem dX9_best_5 : decode cX9_best 5 = .ok (.invokevirtual 184, 3) := by decide +kernel
theorem dX9_best_8 : decode cX9_best 8 = .ok (.ireturn, 1) := by decide +kernel
set_option maxRecDepth 20000 in
theorem zl_X9_best_0 : z_All z_tab cX9_best 2 (some .int) RX9 pc_X9_best 0 (k_X9_best.drop 0) := z_cons (ok_aload_n dX9_best_0 rfl rfl) <| z_cons (ok_getr (k := 0) ⟨by decide, by decide, by decide⟩ (ci := 7) (T := TX9) rfl rfl (Nat.le_of_ble_eq_true rfl) iw_X9 qw_566 gr_10_0 (fun _ _ => by simp) (fun w i => List.mem_of_getElem? (i := 0) rfl) dX9_best_1 rfl rfl) <| z_cons (ok_iload_n dX9_best_4 rfl rfl) <| z_cons (ok_callv ⟨by decide, by decide, by decide⟩ (ci := 0) (C := RX0) (T := TX0) rfl go_1 (k := 9) (n := 1) qw_280 qw_1 ⟨by decide +kernel, by decide +kernel, by decide +kernel⟩ (Nat.le_of_ble_eq_true rfl) qw_575 qw_282 qw_283 dX9_best_5 rfl rfl) <| z_cons (ok_iret rfl dX9_best_8 rfl) <| z_nil
theorem dX9_guess_0 : decode cX9_guess 0 = .ok (.aload_n 0, 1) := by decide +kernel
theorem dX9_guess_1 : decode cX9_guess 1 = .ok (.getfield 10, 3) := by decide +kernel
theorem dX9_guess_4 : decode cX9_guess 4 = .ok (.iload_n 1, 1) := by decide +kernel
theorem dX9_guess_5 : decode cX9_guess 5 = .ok (.iload_n 2, 1) := by decide +kernel
theorem dX9_guess_6 : decode cX9_guess 6 = .ok (.iload_n 3, 1) := by decide +kernel
theorem dX9_guess_7 : decode cX9_guess 7 = .ok (.invokevirtual 187, 3) := by decide +kernel
theorem dX9_guess_10 : decode cX9_guess 10 = .ok (.ireturn, 1) := by decide +kernel
set_option maxRecDepth 20000 in
theorem zl_X9_guess_0 : z_All z_tab cX9_guess 4 (some .int) RX9 pc_X9_guess 0 (k_X9_guess.drop 0) := z_cons (ok_aload_n dX9_guess_0 rfl rfl) <| z_cons (ok_getr (k := 0) ⟨by decide, by decide, by decide⟩ (ci := 7) (T := TX9) rfl rfl (Nat.le_of_ble_eq_true rfl) iw_X9 qw_566 gr_10_0 (fun _ _ => by simp) (fun w i => List.mem_of_getElem? (i := 0) rfl) dX9_guess_1 rfl rfl) <| z_cons (ok_iload_n dX9_guess_4 rfl rfl) <| z_cons (ok_iload_n dX9_guess_5 rfl rfl) <| z_cons (ok_iload_n dX9_guess_6 rfl rfl) <| z_cons (ok_callv ⟨by decide, by decide, by decide⟩ (ci := 0) (C := RX0) (T := TX0) rfl go_1 (k := 11) (n := 3) qw_276 qw_1 ⟨by decide +kernel, by decide +kernel, by decide +kernel⟩ (Nat.le_of_ble_eq_true rfl) qw_576 qw_278 qw_279 dX9_guess_7 rfl rfl) <| z_cons (ok_iret rfl dX9_guess_10 rfl) <| z_nil
theorem dX9_least_0 : decode cX9_least 0 = .ok (.aload_n 0, 1) := by decide +kernel
theorem dX9_least_1 : decode cX9_least 1 = .ok (.getfield 21, 3) := by decide +kernel
theorem dX9_least_4 : decode cX9_least 4 = .ok (.getfield 131, 3) := by decide +kernel
theorem dX9_least_7 : decode cX9_least 7 = .ok (.iload_n 1, 1) := by decide +kernel
theorem dX9_least_8 : decode cX9_least 8 = .ok (.invokestatic 191, 3) := by decide +kernel
theorem dX9_least_11 : decode cX9_least 11 = .ok (.ireturn, 1) := by decide +kernel
set_option maxRecDepth 20000 in
theorem zl_X9_least_0 : z_All z_tab cX9_least 2 (some .int) RX9 pc_X9_least 0 (k_X9_least.drop 0) := z_cons (ok_aload_n dX9_least_0 rfl rfl) <| z_cons (ok_getr (k := 1) ⟨by decide, by decide, by decide⟩ (ci := 7) (T := TX9) rfl rfl (Nat.le_of_ble_eq_true rfl) iw_X9 qw_488 gr_10_1 (fun _ _ => by simp) (fun w i => List.mem_of_getElem? (i := 1) rfl) dX9_least_1 rfl rfl) <| z_cons (ok_getr (k := 1) ⟨by decide, by decide, by decide⟩ (ci := 6) (T := TX8) rfl rfl (Nat.le_of_ble_eq_true rfl) iw_X8 qw_555 gr_9_1 (fun _ _ => by simp) (fun w i => List.mem_of_getElem? (i := 1) rfl) dX9_least_4 rfl rfl) <| z_cons (ok_iload_n dX9_least_7 rfl rfl) <| z_cons (ok_callS (k := 71) (n := 2) qw_577 qw_297 ⟨by decide +kernel, by decide +kernel, by decide +kernel⟩ (Nat.le_of_ble_eq_true rfl) qw_579 qw_578 dX9_least_8 rfl rfl) <| z_cons (ok_iret rfl dX9_least_11 rfl) <| z_nil
theorem dX9_sharp_0 : decode cX9_sharp 0 = .ok (.aload_n 0, 1) := by decide +kernel
theorem dX9_sharp_1 : decode cX9_sharp 1 = .ok (.getfield 21, 3) := by decide +kernel
theorem dX9_sharp_4 : decode cX9_sharp 4 = .ok (.getfield 131, 3) := by decide +kernel
theorem dX9_sharp_7 : decode cX9_sharp 7 = .ok (.iload_n 1, 1) := by decide +kernel
theorem dX9_sharp_8 : decode cX9_sharp 8 = .ok (.invokestatic 194, 3) := by decide +kernel
theorem dX9_sharp_11 : decode cX9_sharp 11 = .ok (.ireturn, 1) := by decide +kernel
set_option maxRecDepth 20000 in
theorem zl_X9_sharp_0 : z_All z_tab cX9_sharp 2 (some .int) RX9 pc_X9_sharp 0 (k_X9_sharp.drop 0) := z_cons (ok_aload_n dX9_sharp_0 rfl rfl) <| z_cons (ok_getr (k := 1) ⟨by decide, by decide, by decide⟩ (ci := 7) (T := TX9) rfl rfl (Nat.le_of_ble_eq_true rfl) iw_X9 qw_488 gr_10_1 (fun _ _ => by simp) (fun w i => List.mem_of_getElem? (i := 1) rfl) dX9_sharp_1 rfl rfl) <| z_cons (ok_getr (k := 1) ⟨by decide, by decide, by decide⟩ (ci := 6) (T := TX8) rfl rfl (Nat.le_of_ble_eq_true rfl) iw_X8 qw_555 gr_9_1 (fun _ _ => by simp) (fun w i => List.mem_of_getElem? (i := 1) rfl) dX9_sharp_4 rfl rfl) <| z_cons (ok_iload_n dX9_sharp_7 rfl rfl) <| z_cons (ok_callS (k := 68) (n := 2) qw_580 qw_297 ⟨by decide +kernel, by decide +kernel, by decide +kernel⟩ (Nat.le_of_ble_eq_true rfl) qw_582 qw_581 dX9_sharp_8 rfl rfl) <| z_cons (ok_iret rfl dX9_sharp_11 rfl) <| z_nil
theorem dX9_values_0 : decode cX9_values 0 = .ok (.iload_n 2, 1) := by decide +kernel
theorem dX9_values_1 : decode cX9_values 1 = .ok (.iconst 1, 1) := by decide +kernel
theorem dX9_values_2 : decode cX9_values 2 = .ok (.if_icmp .lt 11, 3) := by decide +kernel
theorem dX9_values_5 : decode cX9_values 5 = .ok (.iload_n 1, 1) := by decide +kernel
theorem dX9_values_6 : decode cX9_values 6 = .ok (.iload_n 2, 1) := by decide +kernel
theorem dX9_values_7 : decode cX9_values 7 = .ok (.invokestatic 90, 3) := by decide +kernel
theorem dX9_values_10 : decode cX9_values 10 = .ok (.ifCond .ne 7, 3) := by decide +kernel
theorem dX9_values_13 : decode cX9_values 13 = .ok (.iconst (-1), 1) := by decide +kernel
theorem dX9_values_14 : decode cX9_values 14 = .ok (.goto 15, 3) := by decide +kernel
theorem dX9_values_17 : decode cX9_values 17 = .ok (.aload_n 0, 1) := by decide +kernel
theorem dX9_values_18 : decode cX9_values 18 = .ok (.getfield 21, 3) := by decide +kernel
theorem dX9_values_21 : decode cX9_values 21 = .ok (.getfield 131, 3) := by decide +kernel
theorem dX9_values_24 : decode cX9_values 24 = .ok (.iload_n 1, 1) := by decide +kernel
theorem dX9_values_25 : decode cX9_values 25 = .ok (.iload_n 2, 1) := by decide +kernel
theorem dX9_values_26 : decode cX9_values 26 = .ok (.invokestatic 197, 3) := by decide +kernel
theorem dX9_values_29 : decode cX9_values 29 = .ok (.ireturn, 1) := by decide +kernel
set_option maxRecDepth 20000 in
theorem zl_X9_values_0 : z_All z_tab cX9_values 3 (some .int) RX9 pc_X9_values 0 (k_X9_values.drop 0) := z_cons (ok_iload_n dX9_values_0 rfl rfl) <| z_cons (ok_iconst (by decide) dX9_values_1 rfl rfl) <| z_cons (ok_icmp_lt (tgt := 13) (by decide) rfl dX9_values_2 rfl rfl) <| z_cons (ok_iload_n dX9_values_5 rfl rfl) <| z_cons (ok_iload_n dX9_values_6 rfl rfl) <| z_cons (ok_callS (k := 158) (n := 2) qw_449 qw_22 ⟨by decide +kernel, by decide +kernel, by decide +kernel⟩ (Nat.le_of_ble_eq_true rfl) qw_537 qw_450 dX9_values_7 rfl rfl) <| z_cons (ok_if_ne (tgt := 17) (by decide) rfl dX9_values_10 rfl rfl) <| z_cons (ok_iconst (by decide) dX9_values_13 rfl rfl) <| z_cons (ok_goto (tgt := 29) (by decide) rfl dX9_values_14 rfl) <| z_cons (ok_aload_n dX9_values_17 rfl rfl) <| z_cons (ok_getr (k := 1) ⟨by decide, by decide, by decide⟩ (ci := 7) (T := TX9) rfl rfl (Nat.le_of_ble_eq_true rfl) iw_X9 qw_488 gr_10_1 (fun _ _ => by simp) (fun w i => List.mem_of_getElem? (i := 1) rfl) dX9_values_18 rfl rfl) <| z_cons (ok_getr (k := 1) ⟨by decide, by decide, by decide⟩ (ci := 6) (T := TX8) rfl rfl (Nat.le_of_ble_eq_true rfl) iw_X8 qw_555 gr_9_1 (fun _ _ => by simp) (fun w i => List.mem_of_getElem? (i := 1) rfl) dX9_values_21 rfl rfl) <| z_cons (ok_iload_n dX9_values_24 rfl rfl) <| z_cons (ok_iload_n dX9_values_25 rfl rfl) <| z_cons (ok_callS (k := 66) (n := 3) qw_583 qw_297 ⟨by decide +kernel, by decide +kernel, by decide +kernel⟩ (Nat.le_of_ble_eq_true rfl) qw_585 qw_584 dX9_values_26 rfl rfl) <| z_cons (ok_iret rfl dX9_values_29 rfl) <| z_nil
theorem dX9_fadesIn_0 : decode cX9_fadesIn 0 = .ok (.aload_n 0, 1) := by decide +kernel
theorem dX9_fadesIn_1 : decode cX9_fadesIn 1 = .ok (.getfield 21, 3) := by decide +kernel
theorem dX9_fadesIn_4 : decode cX9_fadesIn 4 = .ok (.iload_n 1, 1) := by decide +kernel
theorem dX9_fadesIn_5 : decode cX9_fadesIn 5 = .ok (.invokevirtual 46, 3) := by decide +kernel
theorem dX9_fadesIn_8 : decode cX9_fadesIn 8 = .ok (.astore_n 3, 1) := by decide +kernel
theorem dX9_fadesIn_9 : decode cX9_fadesIn 9 = .ok (.aload_n 3, 1) := by decide +kernel
theorem dX9_fadesIn_10 : decode cX9_fadesIn 10 = .ok (.ifnull 12, 3) := by decide +kernel
theorem dX9_fadesIn_13 : decode cX9_fadesIn 13 = .ok (.iload_n 2, 1) := by decide +kernel
theorem dX9_fadesIn_14 : decode cX9_fadesIn 14 = .ok (.ifCond .lt 8, 3) := by decide +kernel
theorem dX9_fadesIn_17 : decode cX9_fadesIn 17 = .ok (.iload_n 2, 1) := by decide +kernel
theorem dX9_fadesIn_18 : decode cX9_fadesIn 18 = .ok (.iconst 5, 1) := by decide +kernel
theorem dX9_fadesIn_19 : decode cX9_fadesIn 19 = .ok (.if_icmp .lt 7, 3) := by decide +kernel
theorem dX9_fadesIn_22 : decode cX9_fadesIn 22 = .ok (.iconst (-1), 1) := by decide +kernel
theorem dX9_fadesIn_23 : decode cX9_fadesIn 23 = .ok (.goto 12, 3) := by decide +kernel
theorem dX9_fadesIn_26 : decode cX9_fadesIn 26 = .ok (.aload_n 0, 1) := by decide +kernel
theorem dX9_fadesIn_27 : decode cX9_fadesIn 27 = .ok (.getfield 21, 3) := by decide +kernel
theorem dX9_fadesIn_30 : decode cX9_fadesIn 30 = .ok (.aload_n 3, 1) := by decide +kernel
theorem dX9_fadesIn_31 : decode cX9_fadesIn 31 = .ok (.iload_n 2, 1) := by decide +kernel
theorem dX9_fadesIn_32 : decode cX9_fadesIn 32 = .ok (.invokevirtual 200, 3) := by decide +kernel
theorem dX9_fadesIn_35 : decode cX9_fadesIn 35 = .ok (.ireturn, 1) := by decide +kernel
set_option maxRecDepth 20000 in
theorem zl_X9_fadesIn_0 : z_All z_tab cX9_fadesIn 4 (some .int) RX9 pc_X9_fadesIn 0 (k_X9_fadesIn.drop 0) := z_cons (ok_aload_n dX9_fadesIn_0 rfl rfl) <| z_cons (ok_getr (k := 1) ⟨by decide, by decide, by decide⟩ (ci := 7) (T := TX9) rfl rfl (Nat.le_of_ble_eq_true rfl) iw_X9 qw_488 gr_10_1 (fun _ _ => by simp) (fun w i => List.mem_of_getElem? (i := 1) rfl) dX9_fadesIn_1 rfl rfl) <| z_cons (ok_iload_n dX9_fadesIn_4 rfl rfl) <| z_cons (ok_callv ⟨by decide, by decide, by decide⟩ (ci := 6) (C := RX8) (T := TX8) rfl go_9 (k := 91) (n := 1) qw_220 qw_124 ⟨by decide +kernel, by decide +kernel, by decide +kernel⟩ (Nat.le_of_ble_eq_true rfl) qw_503 qw_222 qw_223 dX9_fadesIn_5 rfl rfl) <| z_cons (ok_astore_n (Nat.le_of_ble_eq_true rfl) dX9_fadesIn_8 rfl rfl) <| z_cons (ok_aload_n dX9_fadesIn_9 rfl rfl) <| z_cons (ok_ifnull (tgt := 22) (by decide) rfl dX9_fadesIn_10 rfl rfl) <| z_cons (ok_iload_n dX9_fadesIn_13 rfl rfl) <| z_cons (ok_if_lt (tgt := 22) (by decide) rfl dX9_fadesIn_14 rfl rfl) <| z_cons (ok_iload_n dX9_fadesIn_17 rfl rfl) <| z_cons (ok_iconst (by decide) dX9_fadesIn_18 rfl rfl) <| z_cons (ok_icmp_lt (tgt := 26) (by decide) rfl dX9_fadesIn_19 rfl rfl) <| z_cons (ok_iconst (by decide) dX9_fadesIn_22 rfl rfl) <| z_cons (ok_goto (tgt := 35) (by decide) rfl dX9_fadesIn_23 rfl) <| z_cons (ok_aload_n dX9_fadesIn_26 rfl rfl) <| z_cons (ok_getr (k := 1) ⟨by decide, by decide, by decide⟩ (ci := 7) (T := TX9) rfl rfl (Nat.le_of_ble_eq_true rfl) iw_X9 qw_488 gr_10_1 (fun _ _ => by simp) (fun w i => List.mem_of_getElem? (i := 1) rfl) dX9_fadesIn_27 rfl rfl) <| z_cons (ok_aload_n dX9_fadesIn_30 rfl rfl) <| z_cons (ok_iload_n dX9_fadesIn_31 rfl rfl) <| z_cons (ok_callv ⟨by decide, by decide, by decide⟩ (ci := 6) (C := RX8) (T := TX8) rfl go_9 (k := 102) (n := 2) qw_586 qw_124 ⟨by decide +kernel, by decide +kernel, by decide +kernel⟩ (Nat.le_of_ble_eq_true rfl) qw_587 qw_588 qw_589 dX9_fadesIn_32 rfl rfl) <| z_cons (ok_iret rfl dX9_fadesIn_35 rfl) <| z_nil
