theorem dX5_isBefore_0 : decode cX5_isBefore 0 = .ok (.iconst 0, 1) := by decide +kernel
theorem dX5_isBefore_1 : decode cX5_isBefore 1 = .ok (.istore 4, 2) := by decide +kernel
theorem dX5_isBefore_3 : decode cX5_isBefore 3 = .ok (.iload 4, 2) := by decide +kernel
theorem dX5_isBefore_5 : decode cX5_isBefore 5 = .ok (.iload_n 1, 1) := by decide +kernel
theorem dX5_isBefore_6 : decode cX5_isBefore 6 = .ok (.if_icmp .ge 41, 3) := by decide +kernel
theorem dX5_isBefore_9 : decode cX5_isBefore 9 = .ok (.aload_n 0, 1) := by decide +kernel
theorem dX5_isBefore_10 : decode cX5_isBefore 10 = .ok (.iload 4, 2) := by decide +kernel
theorem dX5_isBefore_12 : decode cX5_isBefore 12 = .ok (.aaload, 1) := by decide +kernel
theorem dX5_isBefore_13 : decode cX5_isBefore 13 = .ok (.getfield 41, 3) := by decide +kernel
theorem dX5_isBefore_16 : decode cX5_isBefore 16 = .ok (.ifCond .eq 25, 3) := by decide +kernel
theorem dX5_isBefore_19 : decode cX5_isBefore 19 = .ok (.aload_n 0, 1) := by decide +kernel
theorem dX5_isBefore_20 : decode cX5_isBefore 20 = .ok (.iload 4, 2) := by decide +kernel
theorem dX5_isBefore_22 : decode cX5_isBefore 22 = .ok (.aaload, 1) := by decide +kernel
theorem dX5_isBefore_23 : decode cX5_isBefore 23 = .ok (.iload_n 2, 1) := by decide +kernel
theorem dX5_isBefore_24 : decode cX5_isBefore 24 = .ok (.iload_n 3, 1) := by decide +kernel
theorem dX5_isBefore_25 : decode cX5_isBefore 25 = .ok (.invokevirtual 58, 3) := by decide +kernel
theorem dX5_isBefore_28 : decode cX5_isBefore 28 = .ok (.aload_n 0, 1) := by decide +kernel
theorem dX5_isBefore_29 : decode cX5_isBefore 29 = .ok (.iload_n 1, 1) := by decide +kernel
theorem dX5_isBefore_30 : decode cX5_isBefore 30 = .ok (.aaload, 1) := by decide +kernel
theorem dX5_isBefore_31 : decode cX5_isBefore 31 = .ok (.iload_n 2, 1) := by decide +kernel
theorem dX5_isBefore_32 : decode cX5_isBefore 32 = .ok (.iload_n 3, 1) := by decide +kernel
theorem dX5_isBefore_33 : decode cX5_isBefore 33 = .ok (.invokevirtual 58, 3) := by decide +kernel
theorem dX5_isBefore_36 : decode cX5_isBefore 36 = .ok (.if_icmp .ne 5, 3) := by decide +kernel
theorem dX5_isBefore_39 : decode cX5_isBefore 39 = .ok (.iconst 1, 1) := by decide +kernel
theorem dX5_isBefore_40 : decode cX5_isBefore 40 = .ok (.ireturn, 1) := by decide +kernel
theorem dX5_isBefore_41 : decode cX5_isBefore 41 = .ok (.iinc 4 1, 3) := by decide +kernel
theorem dX5_isBefore_44 : decode cX5_isBefore 44 = .ok (.goto (-41), 3) := by decide +kernel
theorem dX5_isBefore_47 : decode cX5_isBefore 47 = .ok (.iconst 0, 1) := by decide +kernel
theorem dX5_isBefore_48 : decode cX5_isBefore 48 = .ok (.ireturn, 1) := by decide +kernel
set_option maxRecDepth 20000 in
theorem zl_X5_isBefore_0 : z_All z_tab cX5_isBefore 5 (some .boolean) RX5 pc_X5_isBefore 0 (k_X5_isBefore.drop 0) := z_cons (ok_iconst (by decide) dX5_isBefore_0 rfl rfl) <| z_cons (ok_istore (Nat.le_of_ble_eq_true rfl) dX5_isBefore_1 rfl rfl) <| z_cons (ok_iload dX5_isBefore_3 rfl rfl) <| z_cons (ok_iload_n dX5_isBefore_5 rfl rfl) <| z_cons (ok_icmp_ge (tgt := 47) (by decide) rfl dX5_isBefore_6 rfl rfl) <| z_cons (ok_aload_n dX5_isBefore_9 rfl rfl) <| z_cons (ok_iload dX5_isBefore_10 rfl rfl) <| z_cons (ok_aald dX5_isBefore_12 rfl rfl) <| z_cons (ok_get ⟨by decide, by decide, by decide⟩ (ci := 4) (T := TX6) rfl rfl (Nat.le_of_ble_eq_true rfl) iw_X6 qw_317 gv_7_0 dX5_isBefore_13 rfl rfl) <| z_cons (ok_if_eq (tgt := 41) (by decide) rfl dX5_isBefore_16 rfl rfl) <| z_cons (ok_aload_n dX5_isBefore_19 rfl rfl) <| z_cons (ok_iload dX5_isBefore_20 rfl rfl) <| z_cons (ok_aald dX5_isBefore_22 rfl rfl) <| z_cons (ok_iload_n dX5_isBefore_23 rfl rfl) <| z_cons (ok_iload_n dX5_isBefore_24 rfl rfl) <| z_cons (ok_callv ⟨by decide, by decide, by decide⟩ (ci := 4) (C := RX6) (T := TX6) rfl go_7 (k := 80) (n := 2) qw_323 qw_203 ⟨by decide +kernel, by decide +kernel, by decide +kernel⟩ (Nat.le_of_ble_eq_true rfl) qw_324 qw_325 qw_326 dX5_isBefore_25 rfl rfl) <| z_cons (ok_aload_n dX5_isBefore_28 rfl rfl) <| z_cons (ok_iload_n dX5_isBefore_29 rfl rfl) <| z_cons (ok_aald dX5_isBefore_30 rfl rfl) <| z_cons (ok_iload_n dX5_isBefore_31 rfl rfl) <| z_cons (ok_iload_n dX5_isBefore_32 rfl rfl) <| z_cons (ok_callv ⟨by decide, by decide, by decide⟩ (ci := 4) (C := RX6) (T := TX6) rfl go_7 (k := 80) (n := 2) qw_323 qw_203 ⟨by decide +kernel, by decide +kernel, by decide +kernel⟩ (Nat.le_of_ble_eq_true rfl) qw_324 qw_325 qw_326 dX5_isBefore_33 rfl rfl) <| z_cons (ok_icmp_ne (tgt := 41) (by decide) rfl dX5_isBefore_36 rfl rfl) <| z_cons (ok_iconst (by decide) dX5_isBefore_39 rfl rfl) <| z_cons (ok_zret rfl dX5_isBefore_40 rfl) <| z_cons (ok_iinc (by decide) (Nat.le_of_ble_eq_true rfl) dX5_isBefore_41 rfl rfl) <| z_cons (ok_goto (tgt := 3) (by decide) rfl dX5_isBefore_44 rfl) <| z_cons (ok_iconst (by decide) dX5_isBefore_47 rfl rfl) <| z_cons (ok_zret rfl dX5_isBefore_48 rfl) <| z_nil
theorem dX5_sharpTold_0 : decode cX5_sharpTold 0 = .ok (.iconst 0, 1) := by decide +kernel
theorem dX5_sharpTold_1 : decode cX5_sharpTold 1 = .ok (.istore_n 2, 1) := by decide +kernel
theorem dX5_sharpTold_2 : decode cX5_sharpTold 2 = .ok (.iconst 0, 1) := by decide +kernel
theorem dX5_sharpTold_3 : decode cX5_sharpTold 3 = .ok (.istore_n 3, 1) := by decide +kernel
theorem dX5_sharpTold_4 : decode cX5_sharpTold 4 = .ok (.iload_n 3, 1) := by decide +kernel
theorem dX5_sharpTold_5 : decode cX5_sharpTold 5 = .ok (.bipush 24, 2) := by decide +kernel
theorem dX5_sharpTold_7 : decode cX5_sharpTold 7 = .ok (.if_icmp .ge 26, 3) := by decide +kernel
theorem dX5_sharpTold_10 : decode cX5_sharpTold 10 = .ok (.iload_n 2, 1) := by decide +kernel
theorem dX5_sharpTold_11 : decode cX5_sharpTold 11 = .ok (.aload_n 0, 1) := by decide +kernel
theorem dX5_sharpTold_12 : decode cX5_sharpTold 12 = .ok (.iload_n 3, 1) := by decide +kernel
theorem dX5_sharpTold_13 : decode cX5_sharpTold 13 = .ok (.aaload, 1) := by decide +kernel
theorem dX5_sharpTold_14 : decode cX5_sharpTold 14 = .ok (.getfield 41, 3) := by decide +kernel
theorem dX5_sharpTold_17 : decode cX5_sharpTold 17 = .ok (.ifCond .eq 7, 3) := by decide +kernel
theorem dX5_sharpTold_20 : decode cX5_sharpTold 20 = .ok (.iconst 1, 1) := by decide +kernel
theorem dX5_sharpTold_21 : decode cX5_sharpTold 21 = .ok (.goto 4, 3) := by decide +kernel
theorem dX5_sharpTold_24 : decode cX5_sharpTold 24 = .ok (.iconst 0, 1) := by decide +kernel
theorem dX5_sharpTold_25 : decode cX5_sharpTold 25 = .ok (.iadd, 1) := by decide +kernel
theorem dX5_sharpTold_26 : decode cX5_sharpTold 26 = .ok (.istore_n 2, 1) := by decide +kernel
theorem dX5_sharpTold_27 : decode cX5_sharpTold 27 = .ok (.iinc 3 1, 3) := by decide +kernel
theorem dX5_sharpTold_30 : decode cX5_sharpTold 30 = .ok (.goto (-26), 3) := by decide +kernel
theorem dX5_sharpTold_33 : decode cX5_sharpTold 33 = .ok (.iload_n 2, 1) := by decide +kernel
theorem dX5_sharpTold_34 : decode cX5_sharpTold 34 = .ok (.ifCond .eq 12, 3) := by decide +kernel
theorem dX5_sharpTold_37 : decode cX5_sharpTold 37 = .ok (.iload_n 1, 1) := by decide +kernel
theorem dX5_sharpTold_38 : decode cX5_sharpTold 38 = .ok (.ifCond .lt 8, 3) := by decide +kernel
theorem dX5_sharpTold_41 : decode cX5_sharpTold 41 = .ok (.iload_n 1, 1) := by decide +kernel
theorem dX5_sharpTold_42 : decode cX5_sharpTold 42 = .ok (.iconst 2, 1) := by decide +kernel
theorem dX5_sharpTold_43 : decode cX5_sharpTold 43 = .ok (.if_icmp .le 5, 3) := by decide +kernel
theorem dX5_sharpTold_46 : decode cX5_sharpTold 46 = .ok (.iconst (-1), 1) := by decide +kernel
theorem dX5_sharpTold_47 : decode cX5_sharpTold 47 = .ok (.ireturn, 1) := by decide +kernel
theorem dX5_sharpTold_48 : decode cX5_sharpTold 48 = .ok (.aload_n 0, 1) := by decide +kernel
theorem dX5_sharpTold_49 : decode cX5_sharpTold 49 = .ok (.invokestatic 69, 3) := by decide +kernel
theorem dX5_sharpTold_52 : decode cX5_sharpTold 52 = .ok (.istore_n 3, 1) := by decide +kernel
theorem dX5_sharpTold_53 : decode cX5_sharpTold 53 = .ok (.iload_n 3, 1) := by decide +kernel
theorem dX5_sharpTold_54 : decode cX5_sharpTold 54 = .ok (.iconst (-1), 1) := by decide +kernel
theorem dX5_sharpTold_55 : decode cX5_sharpTold 55 = .ok (.if_icmp .ne 5, 3) := by decide +kernel
theorem dX5_sharpTold_58 : decode cX5_sharpTold 58 = .ok (.iconst (-1), 1) := by decide +kernel
theorem dX5_sharpTold_59 : decode cX5_sharpTold 59 = .ok (.ireturn, 1) := by decide +kernel
theorem dX5_sharpTold_60 : decode cX5_sharpTold 60 = .ok (.iload_n 1, 1) := by decide +kernel
theorem dX5_sharpTold_61 : decode cX5_sharpTold 61 = .ok (.iconst 2, 1) := by decide +kernel
theorem dX5_sharpTold_62 : decode cX5_sharpTold 62 = .ok (.if_icmp .ne 7, 3) := by decide +kernel
theorem dX5_sharpTold_65 : decode cX5_sharpTold 65 = .ok (.iload_n 2, 1) := by decide +kernel
theorem dX5_sharpTold_66 : decode cX5_sharpTold 66 = .ok (.goto 8, 3) := by decide +kernel
theorem dX5_sharpTold_69 : decode cX5_sharpTold 69 = .ok (.iload_n 3, 1) := by decide +kernel
theorem dX5_sharpTold_70 : decode cX5_sharpTold 70 = .ok (.iload_n 1, 1) := by decide +kernel
theorem dX5_sharpTold_71 : decode cX5_sharpTold 71 = .ok (.invokestatic 72, 3) := by decide +kernel
theorem dX5_sharpTold_74 : decode cX5_sharpTold 74 = .ok (.ireturn, 1) := by decide +kernel
set_option maxRecDepth 20000 in
theorem zl_X5_sharpTold_1 : z_All z_tab cX5_sharpTold 4 (some .int) RX5 pc_X5_sharpTold 40 (k_X5_sharpTold.drop 40) := z_cons (ok_iload_n dX5_sharpTold_65 rfl rfl) <| z_cons (ok_goto (tgt := 74) (by decide) rfl dX5_sharpTold_66 rfl) <| z_cons (ok_iload_n dX5_sharpTold_69 rfl rfl) <| z_cons (ok_iload_n dX5_sharpTold_70 rfl rfl) <| z_cons (ok_callS (k := 72) (n := 2) qw_336 qw_297 ⟨by decide +kernel, by decide +kernel, by decide +kernel⟩ (Nat.le_of_ble_eq_true rfl) qw_338 qw_337 dX5_sharpTold_71 rfl rfl) <| z_cons (ok_iret rfl dX5_sharpTold_74 rfl) <| z_nil
set_option maxRecDepth 20000 in
theorem zl_X5_sharpTold_0 : z_All z_tab cX5_sharpTold 4 (some .int) RX5 pc_X5_sharpTold 0 (k_X5_sharpTold.drop 0) := z_cons (ok_iconst (by decide) dX5_sharpTold_0 rfl rfl) <| z_cons (ok_istore_n (Nat.le_of_ble_eq_true rfl) dX5_sharpTold_1 rfl rfl) <| z_cons (ok_iconst (by decide) dX5_sharpTold_2 rfl rfl) <| z_cons (ok_istore_n (Nat.le_of_ble_eq_true rfl) dX5_sharpTold_3 rfl rfl) <| z_cons (ok_iload_n dX5_sharpTold_4 rfl rfl) <| z_cons (ok_bipush (by decide) dX5_sharpTold_5 rfl rfl) <| z_cons (ok_icmp_ge (tgt := 33) (by decide) rfl dX5_sharpTold_7 rfl rfl) <| z_cons (ok_iload_n dX5_sharpTold_10 rfl rfl) <| z_cons (ok_aload_n dX5_sharpTold_11 rfl rfl) <| z_cons (ok_iload_n dX5_sharpTold_12 rfl rfl) <| z_cons (ok_aald dX5_sharpTold_13 rfl rfl) <| z_cons (ok_get ⟨by decide, by decide, by decide⟩ (ci := 4) (T := TX6) rfl rfl (Nat.le_of_ble_eq_true rfl) iw_X6 qw_317 gv_7_0 dX5_sharpTold_14 rfl rfl) <| z_cons (ok_if_eq (tgt := 24) (by decide) rfl dX5_sharpTold_17 rfl rfl) <| z_cons (ok_iconst (by decide) dX5_sharpTold_20 rfl rfl) <| z_cons (ok_goto (tgt := 25) (by decide) rfl dX5_sharpTold_21 rfl) <| z_cons (ok_iconst (by decide) dX5_sharpTold_24 rfl rfl) <| z_cons (ok_iadd dX5_sharpTold_25 rfl rfl) <| z_cons (ok_istore_n (Nat.le_of_ble_eq_true rfl) dX5_sharpTold_26 rfl rfl) <| z_cons (ok_iinc (by decide) (Nat.le_of_ble_eq_true rfl) dX5_sharpTold_27 rfl rfl) <| z_cons (ok_goto (tgt := 4) (by decide) rfl dX5_sharpTold_30 rfl) <| z_cons (ok_iload_n dX5_sharpTold_33 rfl rfl) <| z_cons (ok_if_eq (tgt := 46) (by decide) rfl dX5_sharpTold_34 rfl rfl) <| z_cons (ok_iload_n dX5_sharpTold_37 rfl rfl) <| z_cons (ok_if_lt (tgt := 46) (by decide) rfl dX5_sharpTold_38 rfl rfl) <| z_cons (ok_iload_n dX5_sharpTold_41 rfl rfl) <| z_cons (ok_iconst (by decide) dX5_sharpTold_42 rfl rfl) <| z_cons (ok_icmp_le (tgt := 48) (by decide) rfl dX5_sharpTold_43 rfl rfl) <| z_cons (ok_iconst (by decide) dX5_sharpTold_46 rfl rfl) <| z_cons (ok_iret rfl dX5_sharpTold_47 rfl) <| z_cons (ok_aload_n dX5_sharpTold_48 rfl rfl) <| z_cons (ok_callS (k := 69) (n := 1) qw_333 qw_297 ⟨by decide +kernel, by decide +kernel, by decide +kernel⟩ (Nat.le_of_ble_eq_true rfl) qw_335 qw_334 dX5_sharpTold_49 rfl rfl) <| z_cons (ok_istore_n (Nat.le_of_ble_eq_true rfl) dX5_sharpTold_52 rfl rfl) <| z_cons (ok_iload_n dX5_sharpTold_53 rfl rfl) <| z_cons (ok_iconst (by decide) dX5_sharpTold_54 rfl rfl) <| z_cons (ok_icmp_ne (tgt := 60) (by decide) rfl dX5_sharpTold_55 rfl rfl) <| z_cons (ok_iconst (by decide) dX5_sharpTold_58 rfl rfl) <| z_cons (ok_iret rfl dX5_sharpTold_59 rfl) <| z_cons (ok_iload_n dX5_sharpTold_60 rfl rfl) <| z_cons (ok_iconst (by decide) dX5_sharpTold_61 rfl rfl) <| z_cons (ok_icmp_ne (tgt := 69) (by decide) rfl dX5_sharpTold_62 rfl rfl) <| zl_X5_sharpTold_1
theorem dX5_sharpSpan_0 : decode cX5_sharpSpan 0 = .ok (.iconst 0, 1) := by decide +kernel
theorem dX5_sharpSpan_1 : decode cX5_sharpSpan 1 = .ok (.istore_n 1, 1) := by decide +kernel
theorem dX5_sharpSpan_2 : decode cX5_sharpSpan 2 = .ok (.iload_n 1, 1) := by decide +kernel
theorem dX5_sharpSpan_3 : decode cX5_sharpSpan 3 = .ok (.bipush 32, 2) := by decide +kernel
theorem dX5_sharpSpan_5 : decode cX5_sharpSpan 5 = .ok (.if_icmp .gt 47, 3) := by decide +kernel
theorem dX5_sharpSpan_8 : decode cX5_sharpSpan 8 = .ok (.iconst 0, 1) := by decide +kernel
theorem dX5_sharpSpan_9 : decode cX5_sharpSpan 9 = .ok (.istore_n 2, 1) := by decide +kernel
theorem dX5_sharpSpan_10 : decode cX5_sharpSpan 10 = .ok (.iload_n 2, 1) := by decide +kernel
theorem dX5_sharpSpan_11 : decode cX5_sharpSpan 11 = .ok (.bipush 32, 2) := by decide +kernel
theorem dX5_sharpSpan_13 : decode cX5_sharpSpan 13 = .ok (.if_icmp .ge 33, 3) := by decide +kernel
theorem dX5_sharpSpan_16 : decode cX5_sharpSpan 16 = .ok (.iload_n 2, 1) := by decide +kernel
theorem dX5_sharpSpan_17 : decode cX5_sharpSpan 17 = .ok (.bipush 32, 2) := by decide +kernel
theorem dX5_sharpSpan_19 : decode cX5_sharpSpan 19 = .ok (.iload_n 1, 1) := by decide +kernel
theorem dX5_sharpSpan_20 : decode cX5_sharpSpan 20 = .ok (.isub, 1) := by decide +kernel
theorem dX5_sharpSpan_21 : decode cX5_sharpSpan 21 = .ok (.if_icmp .gt 25, 3) := by decide +kernel
theorem dX5_sharpSpan_24 : decode cX5_sharpSpan 24 = .ok (.aload_n 0, 1) := by decide +kernel
theorem dX5_sharpSpan_25 : decode cX5_sharpSpan 25 = .ok (.iload_n 2, 1) := by decide +kernel
theorem dX5_sharpSpan_26 : decode cX5_sharpSpan 26 = .ok (.iload_n 1, 1) := by decide +kernel
theorem dX5_sharpSpan_27 : decode cX5_sharpSpan 27 = .ok (.invokestatic 75, 3) := by decide +kernel
theorem dX5_sharpSpan_30 : decode cX5_sharpSpan 30 = .ok (.ifCond .eq 10, 3) := by decide +kernel
theorem dX5_sharpSpan_33 : decode cX5_sharpSpan 33 = .ok (.iload_n 1, 1) := by decide +kernel
theorem dX5_sharpSpan_34 : decode cX5_sharpSpan 34 = .ok (.bipush 6, 2) := by decide +kernel
theorem dX5_sharpSpan_36 : decode cX5_sharpSpan 36 = .ok (.ishl, 1) := by decide +kernel
theorem dX5_sharpSpan_37 : decode cX5_sharpSpan 37 = .ok (.iload_n 2, 1) := by decide +kernel
theorem dX5_sharpSpan_38 : decode cX5_sharpSpan 38 = .ok (.ior, 1) := by decide +kernel
theorem dX5_sharpSpan_39 : decode cX5_sharpSpan 39 = .ok (.ireturn, 1) := by decide +kernel
theorem dX5_sharpSpan_40 : decode cX5_sharpSpan 40 = .ok (.iinc 2 1, 3) := by decide +kernel
theorem dX5_sharpSpan_43 : decode cX5_sharpSpan 43 = .ok (.goto (-33), 3) := by decide +kernel
theorem dX5_sharpSpan_46 : decode cX5_sharpSpan 46 = .ok (.iinc 1 1, 3) := by decide +kernel
theorem dX5_sharpSpan_49 : decode cX5_sharpSpan 49 = .ok (.goto (-47), 3) := by decide +kernel
theorem dX5_sharpSpan_52 : decode cX5_sharpSpan 52 = .ok (.iconst (-1), 1) := by decide +kernel
theorem dX5_sharpSpan_53 : decode cX5_sharpSpan 53 = .ok (.ireturn, 1) := by decide +kernel
set_option maxRecDepth 20000 in
theorem zl_X5_sharpSpan_0 : z_All z_tab cX5_sharpSpan 3 (some .int) RX5 pc_X5_sharpSpan 0 (k_X5_sharpSpan.drop 0) := z_cons (ok_iconst (by decide) dX5_sharpSpan_0 rfl rfl) <| z_cons (ok_istore_n (Nat.le_of_ble_eq_true rfl) dX5_sharpSpan_1 rfl rfl) <| z_cons (ok_iload_n dX5_sharpSpan_2 rfl rfl) <| z_cons (ok_bipush (by decide) dX5_sharpSpan_3 rfl rfl) <| z_cons (ok_icmp_gt (tgt := 52) (by decide) rfl dX5_sharpSpan_5 rfl rfl) <| z_cons (ok_iconst (by decide) dX5_sharpSpan_8 rfl rfl) <| z_cons (ok_istore_n (Nat.le_of_ble_eq_true rfl) dX5_sharpSpan_9 rfl rfl) <| z_cons (ok_iload_n dX5_sharpSpan_10 rfl rfl) <| z_cons (ok_bipush (by decide) dX5_sharpSpan_11 rfl rfl) <| z_cons (ok_icmp_ge (tgt := 46) (by decide) rfl dX5_sharpSpan_13 rfl rfl) <| z_cons (ok_iload_n dX5_sharpSpan_16 rfl rfl) <| z_cons (ok_bipush (by decide) dX5_sharpSpan_17 rfl rfl) <| z_cons (ok_iload_n dX5_sharpSpan_19 rfl rfl) <| z_cons (ok_isub dX5_sharpSpan_20 rfl rfl) <| z_cons (ok_icmp_gt (tgt := 46) (by decide) rfl dX5_sharpSpan_21 rfl rfl) <| z_cons (ok_aload_n dX5_sharpSpan_24 rfl rfl) <| z_cons (ok_iload_n dX5_sharpSpan_25 rfl rfl) <| z_cons (ok_iload_n dX5_sharpSpan_26 rfl rfl) <| z_cons (ok_callS (k := 70) (n := 3) qw_339 qw_297 ⟨by decide +kernel, by decide +kernel, by decide +kernel⟩ (Nat.le_of_ble_eq_true rfl) qw_341 qw_340 dX5_sharpSpan_27 rfl rfl) <| z_cons (ok_if_eq (tgt := 40) (by decide) rfl dX5_sharpSpan_30 rfl rfl) <| z_cons (ok_iload_n dX5_sharpSpan_33 rfl rfl) <| z_cons (ok_bipush (by decide) dX5_sharpSpan_34 rfl rfl) <| z_cons (ok_ishl dX5_sharpSpan_36 rfl rfl) <| z_cons (ok_iload_n dX5_sharpSpan_37 rfl rfl) <| z_cons (ok_ior dX5_sharpSpan_38 rfl rfl) <| z_cons (ok_iret rfl dX5_sharpSpan_39 rfl) <| z_cons (ok_iinc (by decide) (Nat.le_of_ble_eq_true rfl) dX5_sharpSpan_40 rfl rfl) <| z_cons (ok_goto (tgt := 10) (by decide) rfl dX5_sharpSpan_43 rfl) <| z_cons (ok_iinc (by decide) (Nat.le_of_ble_eq_true rfl) dX5_sharpSpan_46 rfl rfl) <| z_cons (ok_goto (tgt := 2) (by decide) rfl dX5_sharpSpan_49 rfl) <| z_cons (ok_iconst (by decide) dX5_sharpSpan_52 rfl rfl) <| z_cons (ok_iret rfl dX5_sharpSpan_53 rfl) <| z_nil
theorem dX5_areUnlike_0 : decode cX5_areUnlike 0 = .ok (.iconst 0, 1) := by decide +kernel
theorem dX5_areUnlike_1 : decode cX5_areUnlike 1 = .ok (.istore_n 3, 1) := by decide +kernel
theorem dX5_areUnlike_2 : decode cX5_areUnlike 2 = .ok (.iload_n 3, 1) := by decide +kernel
theorem dX5_areUnlike_3 : decode cX5_areUnlike 3 = .ok (.bipush 24, 2) := by decide +kernel
theorem dX5_areUnlike_5 : decode cX5_areUnlike 5 = .ok (.if_icmp .ge 30, 3) := by decide +kernel
theorem dX5_areUnlike_8 : decode cX5_areUnlike 8 = .ok (.aload_n 0, 1) := by decide +kernel
theorem dX5_areUnlike_9 : decode cX5_areUnlike 9 = .ok (.iload_n 3, 1) := by decide +kernel
theorem dX5_areUnlike_10 : decode cX5_areUnlike 10 = .ok (.aaload, 1) := by decide +kernel
theorem dX5_areUnlike_11 : decode cX5_areUnlike 11 = .ok (.getfield 41, 3) := by decide +kernel
theorem dX5_areUnlike_14 : decode cX5_areUnlike 14 = .ok (.ifCond .eq 15, 3) := by decide +kernel
theorem dX5_areUnlike_17 : decode cX5_areUnlike 17 = .ok (.aload_n 0, 1) := by decide +kernel
theorem dX5_areUnlike_18 : decode cX5_areUnlike 18 = .ok (.iload_n 3, 1) := by decide +kernel
theorem dX5_areUnlike_19 : decode cX5_areUnlike 19 = .ok (.iload_n 1, 1) := by decide +kernel
theorem dX5_areUnlike_20 : decode cX5_areUnlike 20 = .ok (.iload_n 2, 1) := by decide +kernel
theorem dX5_areUnlike_21 : decode cX5_areUnlike 21 = .ok (.invokestatic 65, 3) := by decide +kernel
theorem dX5_areUnlike_24 : decode cX5_areUnlike 24 = .ok (.ifCond .eq 5, 3) := by decide +kernel
theorem dX5_areUnlike_27 : decode cX5_areUnlike 27 = .ok (.iconst 0, 1) := by decide +kernel
theorem dX5_areUnlike_28 : decode cX5_areUnlike 28 = .ok (.ireturn, 1) := by decide +kernel
theorem dX5_areUnlike_29 : decode cX5_areUnlike 29 = .ok (.iinc 3 1, 3) := by decide +kernel
theorem dX5_areUnlike_32 : decode cX5_areUnlike 32 = .ok (.goto (-30), 3) := by decide +kernel
theorem dX5_areUnlike_35 : decode cX5_areUnlike 35 = .ok (.iconst 1, 1) := by decide +kernel
theorem dX5_areUnlike_36 : decode cX5_areUnlike 36 = .ok (.ireturn, 1) := by decide +kernel
set_option maxRecDepth 20000 in
theorem zl_X5_areUnlike_0 : z_All z_tab cX5_areUnlike 4 (some .boolean) RX5 pc_X5_areUnlike 0 (k_X5_areUnlike.drop 0) := z_cons (ok_iconst (by decide) dX5_areUnlike_0 rfl rfl) <| z_cons (ok_istore_n (Nat.le_of_ble_eq_true rfl) dX5_areUnlike_1 rfl rfl) <| z_cons (ok_iload_n dX5_areUnlike_2 rfl rfl) <| z_cons (ok_bipush (by decide) dX5_areUnlike_3 rfl rfl) <| z_cons (ok_icmp_ge (tgt := 35) (by decide) rfl dX5_areUnlike_5 rfl rfl) <| z_cons (ok_aload_n dX5_areUnlike_8 rfl rfl) <| z_cons (ok_iload_n dX5_areUnlike_9 rfl rfl) <| z_cons (ok_aald dX5_areUnlike_10 rfl rfl) <| z_cons (ok_get ⟨by decide, by decide, by decide⟩ (ci := 4) (T := TX6) rfl rfl (Nat.le_of_ble_eq_true rfl) iw_X6 qw_317 gv_7_0 dX5_areUnlike_11 rfl rfl) <| z_cons (ok_if_eq (tgt := 29) (by decide) rfl dX5_areUnlike_14 rfl rfl) <| z_cons (ok_aload_n dX5_areUnlike_17 rfl rfl) <| z_cons (ok_iload_n dX5_areUnlike_18 rfl rfl) <| z_cons (ok_iload_n dX5_areUnlike_19 rfl rfl) <| z_cons (ok_iload_n dX5_areUnlike_20 rfl rfl) <| z_cons (ok_callS (k := 67) (n := 4) qw_330 qw_297 ⟨by decide +kernel, by decide +kernel, by decide +kernel⟩ (Nat.le_of_ble_eq_true rfl) qw_332 qw_331 dX5_areUnlike_21 rfl rfl) <| z_cons (ok_if_eq (tgt := 29) (by decide) rfl dX5_areUnlike_24 rfl rfl) <| z_cons (ok_iconst (by decide) dX5_areUnlike_27 rfl rfl) <| z_cons (ok_zret rfl dX5_areUnlike_28 rfl) <| z_cons (ok_iinc (by decide) (Nat.le_of_ble_eq_true rfl) dX5_areUnlike_29 rfl rfl) <| z_cons (ok_goto (tgt := 2) (by decide) rfl dX5_areUnlike_32 rfl) <| z_cons (ok_iconst (by decide) dX5_areUnlike_35 rfl rfl) <| z_cons (ok_zret rfl dX5_areUnlike_36 rfl) <| z_nil
theorem dX5_leastTold_0 : decode cX5_leastTold 0 = .ok (.aload_n 0, 1) := by decide +kernel
theorem dX5_leastTold_1 : decode cX5_leastTold 1 = .ok (.invokestatic 79, 3) := by decide +kernel
theorem dX5_leastTold_4 : decode cX5_leastTold 4 = .ok (.istore_n 2, 1) := by decide +kernel
theorem dX5_leastTold_5 : decode cX5_leastTold 5 = .ok (.iload_n 2, 1) := by decide +kernel
theorem dX5_leastTold_6 : decode cX5_leastTold 6 = .ok (.iconst (-1), 1) := by decide +kernel
theorem dX5_leastTold_7 : decode cX5_leastTold 7 = .ok (.if_icmp .eq 12, 3) := by decide +kernel
theorem dX5_leastTold_10 : decode cX5_leastTold 10 = .ok (.iload_n 1, 1) := by decide +kernel
theorem dX5_leastTold_11 : decode cX5_leastTold 11 = .ok (.ifCond .lt 8, 3) := by decide +kernel
theorem dX5_leastTold_14 : decode cX5_leastTold 14 = .ok (.iload_n 1, 1) := by decide +kernel
theorem dX5_leastTold_15 : decode cX5_leastTold 15 = .ok (.iconst 2, 1) := by decide +kernel
theorem dX5_leastTold_16 : decode cX5_leastTold 16 = .ok (.if_icmp .le 5, 3) := by decide +kernel
theorem dX5_leastTold_19 : decode cX5_leastTold 19 = .ok (.iconst (-1), 1) := by decide +kernel
theorem dX5_leastTold_20 : decode cX5_leastTold 20 = .ok (.ireturn, 1) := by decide +kernel
theorem dX5_leastTold_21 : decode cX5_leastTold 21 = .ok (.aload_n 0, 1) := by decide +kernel
theorem dX5_leastTold_22 : decode cX5_leastTold 22 = .ok (.iload_n 2, 1) := by decide +kernel
theorem dX5_leastTold_23 : decode cX5_leastTold 23 = .ok (.invokestatic 82, 3) := by decide +kernel
theorem dX5_leastTold_26 : decode cX5_leastTold 26 = .ok (.istore_n 3, 1) := by decide +kernel
theorem dX5_leastTold_27 : decode cX5_leastTold 27 = .ok (.iload_n 3, 1) := by decide +kernel
theorem dX5_leastTold_28 : decode cX5_leastTold 28 = .ok (.iconst (-1), 1) := by decide +kernel
theorem dX5_leastTold_29 : decode cX5_leastTold 29 = .ok (.if_icmp .ne 5, 3) := by decide +kernel
theorem dX5_leastTold_32 : decode cX5_leastTold 32 = .ok (.iconst (-1), 1) := by decide +kernel
theorem dX5_leastTold_33 : decode cX5_leastTold 33 = .ok (.ireturn, 1) := by decide +kernel
theorem dX5_leastTold_34 : decode cX5_leastTold 34 = .ok (.iload_n 1, 1) := by decide +kernel
theorem dX5_leastTold_35 : decode cX5_leastTold 35 = .ok (.iconst 2, 1) := by decide +kernel
theorem dX5_leastTold_36 : decode cX5_leastTold 36 = .ok (.if_icmp .ne 22, 3) := by decide +kernel
theorem dX5_leastTold_39 : decode cX5_leastTold 39 = .ok (.aload_n 0, 1) := by decide +kernel
theorem dX5_leastTold_40 : decode cX5_leastTold 40 = .ok (.iload_n 2, 1) := by decide +kernel
theorem dX5_leastTold_41 : decode cX5_leastTold 41 = .ok (.aaload, 1) := by decide +kernel
theorem dX5_leastTold_42 : decode cX5_leastTold 42 = .ok (.iload_n 3, 1) := by decide +kernel
theorem dX5_leastTold_43 : decode cX5_leastTold 43 = .ok (.iconst 1, 1) := by decide +kernel
theorem dX5_leastTold_44 : decode cX5_leastTold 44 = .ok (.invokestatic 72, 3) := by decide +kernel
theorem dX5_leastTold_47 : decode cX5_leastTold 47 = .ok (.iload_n 3, 1) := by decide +kernel
theorem dX5_leastTold_48 : decode cX5_leastTold 48 = .ok (.iconst 0, 1) := by decide +kernel
theorem dX5_leastTold_49 : decode cX5_leastTold 49 = .ok (.invokestatic 72, 3) := by decide +kernel
theorem dX5_leastTold_52 : decode cX5_leastTold 52 = .ok (.invokevirtual 58, 3) := by decide +kernel
theorem dX5_leastTold_55 : decode cX5_leastTold 55 = .ok (.goto 8, 3) := by decide +kernel
theorem dX5_leastTold_58 : decode cX5_leastTold 58 = .ok (.iload_n 3, 1) := by decide +kernel
theorem dX5_leastTold_59 : decode cX5_leastTold 59 = .ok (.iload_n 1, 1) := by decide +kernel
theorem dX5_leastTold_60 : decode cX5_leastTold 60 = .ok (.invokestatic 72, 3) := by decide +kernel
theorem dX5_leastTold_63 : decode cX5_leastTold 63 = .ok (.ireturn, 1) := by decide +kernel
set_option maxRecDepth 20000 in
theorem zl_X5_leastTold_0 : z_All z_tab cX5_leastTold 4 (some .int) RX5 pc_X5_leastTold 0 (k_X5_leastTold.drop 0) := z_cons (ok_aload_n dX5_leastTold_0 rfl rfl) <| z_cons (ok_callS (k := 73) (n := 1) qw_342 qw_297 ⟨by decide +kernel, by decide +kernel, by decide +kernel⟩ (Nat.le_of_ble_eq_true rfl) qw_344 qw_343 dX5_leastTold_1 rfl rfl) <| z_cons (ok_istore_n (Nat.le_of_ble_eq_true rfl) dX5_leastTold_4 rfl rfl) <| z_cons (ok_iload_n dX5_leastTold_5 rfl rfl) <| z_cons (ok_iconst (by decide) dX5_leastTold_6 rfl rfl) <| z_cons (ok_icmp_eq (tgt := 19) (by decide) rfl dX5_leastTold_7 rfl rfl) <| z_cons (ok_iload_n dX5_leastTold_10 rfl rfl) <| z_cons (ok_if_lt (tgt := 19) (by decide) rfl dX5_leastTold_11 rfl rfl) <| z_cons (ok_iload_n dX5_leastTold_14 rfl rfl) <| z_cons (ok_iconst (by decide) dX5_leastTold_15 rfl rfl) <| z_cons (ok_icmp_le (tgt := 21) (by decide) rfl dX5_leastTold_16 rfl rfl) <| z_cons (ok_iconst (by decide) dX5_leastTold_19 rfl rfl) <| z_cons (ok_iret rfl dX5_leastTold_20 rfl) <| z_cons (ok_aload_n dX5_leastTold_21 rfl rfl) <| z_cons (ok_iload_n dX5_leastTold_22 rfl rfl) <| z_cons (ok_callS (k := 74) (n := 2) qw_345 qw_297 ⟨by decide +kernel, by decide +kernel, by decide +kernel⟩ (Nat.le_of_ble_eq_true rfl) qw_347 qw_346 dX5_leastTold_23 rfl rfl) <| z_cons (ok_istore_n (Nat.le_of_ble_eq_true rfl) dX5_leastTold_26 rfl rfl) <| z_cons (ok_iload_n dX5_leastTold_27 rfl rfl) <| z_cons (ok_iconst (by decide) dX5_leastTold_28 rfl rfl) <| z_cons (ok_icmp_ne (tgt := 34) (by decide) rfl dX5_leastTold_29 rfl rfl) <| z_cons (ok_iconst (by decide) dX5_leastTold_32 rfl rfl) <| z_cons (ok_iret rfl dX5_leastTold_33 rfl) <| z_cons (ok_iload_n dX5_leastTold_34 rfl rfl) <| z_cons (ok_iconst (by decide) dX5_leastTold_35 rfl rfl) <| z_cons (ok_icmp_ne (tgt := 58) (by decide) rfl dX5_leastTold_36 rfl rfl) <| z_cons (ok_aload_n dX5_leastTold_39 rfl rfl) <| z_cons (ok_iload_n dX5_leastTold_40 rfl rfl) <| z_cons (ok_aald dX5_leastTold_41 rfl rfl) <| z_cons (ok_iload_n dX5_leastTold_42 rfl rfl) <| z_cons (ok_iconst (by decide) dX5_leastTold_43 rfl rfl) <| z_cons (ok_callS (k := 72) (n := 2) qw_336 qw_297 ⟨by decide +kernel, by decide +kernel, by decide +kernel⟩ (Nat.le_of_ble_eq_true rfl) qw_338 qw_337 dX5_leastTold_44 rfl rfl) <| z_cons (ok_iload_n dX5_leastTold_47 rfl rfl) <| z_cons (ok_iconst (by decide) dX5_leastTold_48 rfl rfl) <| z_cons (ok_callS (k := 72) (n := 2) qw_336 qw_297 ⟨by decide +kernel, by decide +kernel, by decide +kernel⟩ (Nat.le_of_ble_eq_true rfl) qw_338 qw_337 dX5_leastTold_49 rfl rfl) <| z_cons (ok_callv ⟨by decide, by decide, by decide⟩ (ci := 4) (C := RX6) (T := TX6) rfl go_7 (k := 80) (n := 2) qw_323 qw_203 ⟨by decide +kernel, by decide +kernel, by decide +kernel⟩ (Nat.le_of_ble_eq_true rfl) qw_324 qw_325 qw_326 dX5_leastTold_52 rfl rfl) <| z_cons (ok_goto (tgt := 63) (by decide) rfl dX5_leastTold_55 rfl) <| z_cons (ok_iload_n dX5_leastTold_58 rfl rfl) <| z_cons (ok_iload_n dX5_leastTold_59 rfl rfl) <| z_cons (ok_callS (k := 72) (n := 2) qw_336 qw_297 ⟨by decide +kernel, by decide +kernel, by decide +kernel⟩ (Nat.le_of_ble_eq_true rfl) qw_338 qw_337 dX5_leastTold_60 rfl rfl) <| z_cons (ok_iret rfl dX5_leastTold_63 rfl) <| z_nil
theorem dX5_told_0 : decode cX5_told 0 = .ok (.iload_n 1, 1) := by decide +kernel
theorem dX5_told_1 : decode cX5_told 1 = .ok (.ifCond .ne 10, 3) := by decide +kernel
theorem dX5_told_4 : decode cX5_told 4 = .ok (.iload_n 0, 1) := by decide +kernel
theorem dX5_told_5 : decode cX5_told 5 = .ok (.bipush 6, 2) := by decide +kernel
theorem dX5_told_7 : decode cX5_told 7 = .ok (.ishr, 1) := by decide +kernel
theorem dX5_told_8 : decode cX5_told 8 = .ok (.goto 7, 3) := by decide +kernel
theorem dX5_told_11 : decode cX5_told 11 = .ok (.iload_n 0, 1) := by decide +kernel
theorem dX5_told_12 : decode cX5_told 12 = .ok (.bipush 63, 2) := by decide +kernel
theorem dX5_told_14 : decode cX5_told 14 = .ok (.iand, 1) := by decide +kernel
theorem dX5_told_15 : decode cX5_told 15 = .ok (.ireturn, 1) := by decide +kernel
set_option maxRecDepth 20000 in
theorem zl_X5_told_0 : z_All z_tab cX5_told 2 (some .int) RX5 pc_X5_told 0 (k_X5_told.drop 0) := z_cons (ok_iload_n dX5_told_0 rfl rfl) <| z_cons (ok_if_ne (tgt := 11) (by decide) rfl dX5_told_1 rfl rfl) <| z_cons (ok_iload_n dX5_told_4 rfl rfl) <| z_cons (ok_bipush (by decide) dX5_told_5 rfl rfl) <| z_cons (ok_ishr dX5_told_7 rfl rfl) <| z_cons (ok_goto (tgt := 15) (by decide) rfl dX5_told_8 rfl) <| z_cons (ok_iload_n dX5_told_11 rfl rfl) <| z_cons (ok_bipush (by decide) dX5_told_12 rfl rfl) <| z_cons (ok_iand dX5_told_14 rfl rfl) <| z_cons (ok_iret rfl dX5_told_15 rfl) <| z_nil
theorem dX5_firstSelected_0 : decode cX5_firstSelected 0 = .ok (.iconst 0, 1) := by decide +kernel
theorem dX5_firstSelected_1 : decode cX5_firstSelected 1 = .ok (.istore_n 1, 1) := by decide +kernel
theorem dX5_firstSelected_2 : decode cX5_firstSelected 2 = .ok (.iload_n 1, 1) := by decide +kernel
theorem dX5_firstSelected_3 : decode cX5_firstSelected 3 = .ok (.bipush 24, 2) := by decide +kernel
theorem dX5_firstSelected_5 : decode cX5_firstSelected 5 = .ok (.if_icmp .ge 31, 3) := by decide +kernel
theorem dX5_firstSelected_8 : decode cX5_firstSelected 8 = .ok (.aload_n 0, 1) := by decide +kernel
theorem dX5_firstSelected_9 : decode cX5_firstSelected 9 = .ok (.iload_n 1, 1) := by decide +kernel
theorem dX5_firstSelected_10 : decode cX5_firstSelected 10 = .ok (.aaload, 1) := by decide +kernel
theorem dX5_firstSelected_11 : decode cX5_firstSelected 11 = .ok (.getfield 41, 3) := by decide +kernel
theorem dX5_firstSelected_14 : decode cX5_firstSelected 14 = .ok (.ifCond .eq 16, 3) := by decide +kernel
theorem dX5_firstSelected_17 : decode cX5_firstSelected 17 = .ok (.aload_n 0, 1) := by decide +kernel
theorem dX5_firstSelected_18 : decode cX5_firstSelected 18 = .ok (.iload_n 1, 1) := by decide +kernel
theorem dX5_firstSelected_19 : decode cX5_firstSelected 19 = .ok (.aaload, 1) := by decide +kernel
theorem dX5_firstSelected_20 : decode cX5_firstSelected 20 = .ok (.iconst 4, 1) := by decide +kernel
theorem dX5_firstSelected_21 : decode cX5_firstSelected 21 = .ok (.invokevirtual 86, 3) := by decide +kernel
theorem dX5_firstSelected_24 : decode cX5_firstSelected 24 = .ok (.iconst 1, 1) := by decide +kernel
theorem dX5_firstSelected_25 : decode cX5_firstSelected 25 = .ok (.if_icmp .ne 5, 3) := by decide +kernel
theorem dX5_firstSelected_28 : decode cX5_firstSelected 28 = .ok (.iload_n 1, 1) := by decide +kernel
theorem dX5_firstSelected_29 : decode cX5_firstSelected 29 = .ok (.ireturn, 1) := by decide +kernel
theorem dX5_firstSelected_30 : decode cX5_firstSelected 30 = .ok (.iinc 1 1, 3) := by decide +kernel
theorem dX5_firstSelected_33 : decode cX5_firstSelected 33 = .ok (.goto (-31), 3) := by decide +kernel
theorem dX5_firstSelected_36 : decode cX5_firstSelected 36 = .ok (.iconst (-1), 1) := by decide +kernel
theorem dX5_firstSelected_37 : decode cX5_firstSelected 37 = .ok (.ireturn, 1) := by decide +kernel
set_option maxRecDepth 20000 in
theorem zl_X5_firstSelected_0 : z_All z_tab cX5_firstSelected 2 (some .int) RX5 pc_X5_firstSelected 0 (k_X5_firstSelected.drop 0) := z_cons (ok_iconst (by decide) dX5_firstSelected_0 rfl rfl) <| z_cons (ok_istore_n (Nat.le_of_ble_eq_true rfl) dX5_firstSelected_1 rfl rfl) <| z_cons (ok_iload_n dX5_firstSelected_2 rfl rfl) <| z_cons (ok_bipush (by decide) dX5_firstSelected_3 rfl rfl) <| z_cons (ok_icmp_ge (tgt := 36) (by decide) rfl dX5_firstSelected_5 rfl rfl) <| z_cons (ok_aload_n dX5_firstSelected_8 rfl rfl) <| z_cons (ok_iload_n dX5_firstSelected_9 rfl rfl) <| z_cons (ok_aald dX5_firstSelected_10 rfl rfl) <| z_cons (ok_get ⟨by decide, by decide, by decide⟩ (ci := 4) (T := TX6) rfl rfl (Nat.le_of_ble_eq_true rfl) iw_X6 qw_317 gv_7_0 dX5_firstSelected_11 rfl rfl) <| z_cons (ok_if_eq (tgt := 30) (by decide) rfl dX5_firstSelected_14 rfl rfl) <| z_cons (ok_aload_n dX5_firstSelected_17 rfl rfl) <| z_cons (ok_iload_n dX5_firstSelected_18 rfl rfl) <| z_cons (ok_aald dX5_firstSelected_19 rfl rfl) <| z_cons (ok_iconst (by decide) dX5_firstSelected_20 rfl rfl) <| z_cons (ok_callv ⟨by decide, by decide, by decide⟩ (ci := 4) (C := RX6) (T := TX6) rfl go_7 (k := 81) (n := 1) qw_225 qw_203 ⟨by decide +kernel, by decide +kernel, by decide +kernel⟩ (Nat.le_of_ble_eq_true rfl) qw_348 qw_227 qw_228 dX5_firstSelected_21 rfl rfl) <| z_cons (ok_iconst (by decide) dX5_firstSelected_24 rfl rfl) <| z_cons (ok_icmp_ne (tgt := 30) (by decide) rfl dX5_firstSelected_25 rfl rfl) <| z_cons (ok_iload_n dX5_firstSelected_28 rfl rfl) <| z_cons (ok_iret rfl dX5_firstSelected_29 rfl) <| z_cons (ok_iinc (by decide) (Nat.le_of_ble_eq_true rfl) dX5_firstSelected_30 rfl rfl) <| z_cons (ok_goto (tgt := 2) (by decide) rfl dX5_firstSelected_33 rfl) <| z_cons (ok_iconst (by decide) dX5_firstSelected_36 rfl rfl) <| z_cons (ok_iret rfl dX5_firstSelected_37 rfl) <| z_nil
theorem dX5_leastSpan_0 : decode cX5_leastSpan 0 = .ok (.iconst 0, 1) := by decide +kernel
theorem dX5_leastSpan_1 : decode cX5_leastSpan 1 = .ok (.istore_n 2, 1) := by decide +kernel
theorem dX5_leastSpan_2 : decode cX5_leastSpan 2 = .ok (.iload_n 2, 1) := by decide +kernel
theorem dX5_leastSpan_3 : decode cX5_leastSpan 3 = .ok (.bipush 32, 2) := by decide +kernel
theorem dX5_leastSpan_5 : decode cX5_leastSpan 5 = .ok (.if_icmp .gt 55, 3) := by decide +kernel
theorem dX5_leastSpan_8 : decode cX5_leastSpan 8 = .ok (.iconst 0, 1) := by decide +kernel
theorem dX5_leastSpan_9 : decode cX5_leastSpan 9 = .ok (.istore_n 3, 1) := by decide +kernel
theorem dX5_leastSpan_10 : decode cX5_leastSpan 10 = .ok (.iload_n 3, 1) := by decide +kernel
theorem dX5_leastSpan_11 : decode cX5_leastSpan 11 = .ok (.bipush 32, 2) := by decide +kernel
theorem dX5_leastSpan_13 : decode cX5_leastSpan 13 = .ok (.if_icmp .ge 41, 3) := by decide +kernel
theorem dX5_leastSpan_16 : decode cX5_leastSpan 16 = .ok (.iload_n 3, 1) := by decide +kernel
theorem dX5_leastSpan_17 : decode cX5_leastSpan 17 = .ok (.bipush 32, 2) := by decide +kernel
theorem dX5_leastSpan_19 : decode cX5_leastSpan 19 = .ok (.iload_n 2, 1) := by decide +kernel
theorem dX5_leastSpan_20 : decode cX5_leastSpan 20 = .ok (.isub, 1) := by decide +kernel
theorem dX5_leastSpan_21 : decode cX5_leastSpan 21 = .ok (.if_icmp .gt 33, 3) := by decide +kernel
theorem dX5_leastSpan_24 : decode cX5_leastSpan 24 = .ok (.aload_n 0, 1) := by decide +kernel
theorem dX5_leastSpan_25 : decode cX5_leastSpan 25 = .ok (.iload_n 3, 1) := by decide +kernel
theorem dX5_leastSpan_26 : decode cX5_leastSpan 26 = .ok (.iload_n 2, 1) := by decide +kernel
theorem dX5_leastSpan_27 : decode cX5_leastSpan 27 = .ok (.aload_n 0, 1) := by decide +kernel
theorem dX5_leastSpan_28 : decode cX5_leastSpan 28 = .ok (.iload_n 1, 1) := by decide +kernel
theorem dX5_leastSpan_29 : decode cX5_leastSpan 29 = .ok (.aaload, 1) := by decide +kernel
theorem dX5_leastSpan_30 : decode cX5_leastSpan 30 = .ok (.iload_n 3, 1) := by decide +kernel
theorem dX5_leastSpan_31 : decode cX5_leastSpan 31 = .ok (.iload_n 2, 1) := by decide +kernel
theorem dX5_leastSpan_32 : decode cX5_leastSpan 32 = .ok (.invokevirtual 58, 3) := by decide +kernel
theorem dX5_leastSpan_35 : decode cX5_leastSpan 35 = .ok (.invokestatic 89, 3) := by decide +kernel
theorem dX5_leastSpan_38 : decode cX5_leastSpan 38 = .ok (.ifCond .eq 10, 3) := by decide +kernel
theorem dX5_leastSpan_41 : decode cX5_leastSpan 41 = .ok (.iload_n 2, 1) := by decide +kernel
theorem dX5_leastSpan_42 : decode cX5_leastSpan 42 = .ok (.bipush 6, 2) := by decide +kernel
theorem dX5_leastSpan_44 : decode cX5_leastSpan 44 = .ok (.ishl, 1) := by decide +kernel
theorem dX5_leastSpan_45 : decode cX5_leastSpan 45 = .ok (.iload_n 3, 1) := by decide +kernel
theorem dX5_leastSpan_46 : decode cX5_leastSpan 46 = .ok (.ior, 1) := by decide +kernel
theorem dX5_leastSpan_47 : decode cX5_leastSpan 47 = .ok (.ireturn, 1) := by decide +kernel
theorem dX5_leastSpan_48 : decode cX5_leastSpan 48 = .ok (.iinc 3 1, 3) := by decide +kernel
theorem dX5_leastSpan_51 : decode cX5_leastSpan 51 = .ok (.goto (-41), 3) := by decide +kernel
theorem dX5_leastSpan_54 : decode cX5_leastSpan 54 = .ok (.iinc 2 1, 3) := by decide +kernel
theorem dX5_leastSpan_57 : decode cX5_leastSpan 57 = .ok (.goto (-55), 3) := by decide +kernel
theorem dX5_leastSpan_60 : decode cX5_leastSpan 60 = .ok (.iconst (-1), 1) := by decide +kernel
theorem dX5_leastSpan_61 : decode cX5_leastSpan 61 = .ok (.ireturn, 1) := by decide +kernel
set_option maxRecDepth 20000 in
theorem zl_X5_leastSpan_0 : z_All z_tab cX5_leastSpan 4 (some .int) RX5 pc_X5_leastSpan 0 (k_X5_leastSpan.drop 0) := z_cons (ok_iconst (by decide) dX5_leastSpan_0 rfl rfl) <| z_cons (ok_istore_n (Nat.le_of_ble_eq_true rfl) dX5_leastSpan_1 rfl rfl) <| z_cons (ok_iload_n dX5_leastSpan_2 rfl rfl) <| z_cons (ok_bipush (by decide) dX5_leastSpan_3 rfl rfl) <| z_cons (ok_icmp_gt (tgt := 60) (by decide) rfl dX5_leastSpan_5 rfl rfl) <| z_cons (ok_iconst (by decide) dX5_leastSpan_8 rfl rfl) <| z_cons (ok_istore_n (Nat.le_of_ble_eq_true rfl) dX5_leastSpan_9 rfl rfl) <| z_cons (ok_iload_n dX5_leastSpan_10 rfl rfl) <| z_cons (ok_bipush (by decide) dX5_leastSpan_11 rfl rfl) <| z_cons (ok_icmp_ge (tgt := 54) (by decide) rfl dX5_leastSpan_13 rfl rfl) <| z_cons (ok_iload_n dX5_leastSpan_16 rfl rfl) <| z_cons (ok_bipush (by decide) dX5_leastSpan_17 rfl rfl) <| z_cons (ok_iload_n dX5_leastSpan_19 rfl rfl) <| z_cons (ok_isub dX5_leastSpan_20 rfl rfl) <| z_cons (ok_icmp_gt (tgt := 54) (by decide) rfl dX5_leastSpan_21 rfl rfl) <| z_cons (ok_aload_n dX5_leastSpan_24 rfl rfl) <| z_cons (ok_iload_n dX5_leastSpan_25 rfl rfl) <| z_cons (ok_iload_n dX5_leastSpan_26 rfl rfl) <| z_cons (ok_aload_n dX5_leastSpan_27 rfl rfl) <| z_cons (ok_iload_n dX5_leastSpan_28 rfl rfl) <| z_cons (ok_aald dX5_leastSpan_29 rfl rfl) <| z_cons (ok_iload_n dX5_leastSpan_30 rfl rfl) <| z_cons (ok_iload_n dX5_leastSpan_31 rfl rfl) <| z_cons (ok_callv ⟨by decide, by decide, by decide⟩ (ci := 4) (C := RX6) (T := TX6) rfl go_7 (k := 80) (n := 2) qw_323 qw_203 ⟨by decide +kernel, by decide +kernel, by decide +kernel⟩ (Nat.le_of_ble_eq_true rfl) qw_324 qw_325 qw_326 dX5_leastSpan_32 rfl rfl) <| z_cons (ok_callS (k := 75) (n := 4) qw_349 qw_297 ⟨by decide +kernel, by decide +kernel, by decide +kernel⟩ (Nat.le_of_ble_eq_true rfl) qw_351 qw_350 dX5_leastSpan_35 rfl rfl) <| z_cons (ok_if_eq (tgt := 48) (by decide) rfl dX5_leastSpan_38 rfl rfl) <| z_cons (ok_iload_n dX5_leastSpan_41 rfl rfl) <| z_cons (ok_bipush (by decide) dX5_leastSpan_42 rfl rfl) <| z_cons (ok_ishl dX5_leastSpan_44 rfl rfl) <| z_cons (ok_iload_n dX5_leastSpan_45 rfl rfl) <| z_cons (ok_ior dX5_leastSpan_46 rfl rfl) <| z_cons (ok_iret rfl dX5_leastSpan_47 rfl) <| z_cons (ok_iinc (by decide) (Nat.le_of_ble_eq_true rfl) dX5_leastSpan_48 rfl rfl) <| z_cons (ok_goto (tgt := 10) (by decide) rfl dX5_leastSpan_51 rfl) <| z_cons (ok_iinc (by decide) (Nat.le_of_ble_eq_true rfl) dX5_leastSpan_54 rfl rfl) <| z_cons (ok_goto (tgt := 2) (by decide) rfl dX5_leastSpan_57 rfl) <| z_cons (ok_iconst (by decide) dX5_leastSpan_60 rfl rfl) <| z_cons (ok_iret rfl dX5_leastSpan_61 rfl) <| z_nil
theorem dX5_selectsJust_0 : decode cX5_selectsJust 0 = .ok (.iconst 0, 1) := by decide +kernel
theorem dX5_selectsJust_1 : decode cX5_selectsJust 1 = .ok (.istore 4, 2) := by decide +kernel
theorem dX5_selectsJust_3 : decode cX5_selectsJust 3 = .ok (.iload 4, 2) := by decide +kernel
theorem dX5_selectsJust_5 : decode cX5_selectsJust 5 = .ok (.bipush 24, 2) := by decide +kernel
theorem dX5_selectsJust_7 : decode cX5_selectsJust 7 = .ok (.if_icmp .ge 63, 3) := by decide +kernel
theorem dX5_selectsJust_10 : decode cX5_selectsJust 10 = .ok (.aload_n 0, 1) := by decide +kernel
theorem dX5_selectsJust_11 : decode cX5_selectsJust 11 = .ok (.iload 4, 2) := by decide +kernel
theorem dX5_selectsJust_13 : decode cX5_selectsJust 13 = .ok (.aaload, 1) := by decide +kernel
theorem dX5_selectsJust_14 : decode cX5_selectsJust 14 = .ok (.iload_n 1, 1) := by decide +kernel
theorem dX5_selectsJust_15 : decode cX5_selectsJust 15 = .ok (.iload_n 2, 1) := by decide +kernel
theorem dX5_selectsJust_16 : decode cX5_selectsJust 16 = .ok (.invokevirtual 58, 3) := by decide +kernel
theorem dX5_selectsJust_19 : decode cX5_selectsJust 19 = .ok (.iload_n 3, 1) := by decide +kernel
theorem dX5_selectsJust_20 : decode cX5_selectsJust 20 = .ok (.if_icmp .ne 7, 3) := by decide +kernel
theorem dX5_selectsJust_23 : decode cX5_selectsJust 23 = .ok (.iconst 1, 1) := by decide +kernel
theorem dX5_selectsJust_24 : decode cX5_selectsJust 24 = .ok (.goto 4, 3) := by decide +kernel
theorem dX5_selectsJust_27 : decode cX5_selectsJust 27 = .ok (.iconst 0, 1) := by decide +kernel
theorem dX5_selectsJust_28 : decode cX5_selectsJust 28 = .ok (.istore 5, 2) := by decide +kernel
theorem dX5_selectsJust_30 : decode cX5_selectsJust 30 = .ok (.aload_n 0, 1) := by decide +kernel
theorem dX5_selectsJust_31 : decode cX5_selectsJust 31 = .ok (.iload 4, 2) := by decide +kernel
theorem dX5_selectsJust_33 : decode cX5_selectsJust 33 = .ok (.aaload, 1) := by decide +kernel
theorem dX5_selectsJust_34 : decode cX5_selectsJust 34 = .ok (.getfield 41, 3) := by decide +kernel
theorem dX5_selectsJust_37 : decode cX5_selectsJust 37 = .ok (.ifCond .eq 27, 3) := by decide +kernel
theorem dX5_selectsJust_40 : decode cX5_selectsJust 40 = .ok (.iload 5, 2) := by decide +kernel
theorem dX5_selectsJust_42 : decode cX5_selectsJust 42 = .ok (.aload_n 0, 1) := by decide +kernel
theorem dX5_selectsJust_43 : decode cX5_selectsJust 43 = .ok (.iload 4, 2) := by decide +kernel
theorem dX5_selectsJust_45 : decode cX5_selectsJust 45 = .ok (.aaload, 1) := by decide +kernel
theorem dX5_selectsJust_46 : decode cX5_selectsJust 46 = .ok (.iconst 4, 1) := by decide +kernel
theorem dX5_selectsJust_47 : decode cX5_selectsJust 47 = .ok (.invokevirtual 86, 3) := by decide +kernel
theorem dX5_selectsJust_50 : decode cX5_selectsJust 50 = .ok (.iconst 1, 1) := by decide +kernel
theorem dX5_selectsJust_51 : decode cX5_selectsJust 51 = .ok (.if_icmp .ne 7, 3) := by decide +kernel
theorem dX5_selectsJust_54 : decode cX5_selectsJust 54 = .ok (.iconst 1, 1) := by decide +kernel
theorem dX5_selectsJust_55 : decode cX5_selectsJust 55 = .ok (.goto 4, 3) := by decide +kernel
theorem dX5_selectsJust_58 : decode cX5_selectsJust 58 = .ok (.iconst 0, 1) := by decide +kernel
theorem dX5_selectsJust_59 : decode cX5_selectsJust 59 = .ok (.if_icmp .eq 5, 3) := by decide +kernel
theorem dX5_selectsJust_62 : decode cX5_selectsJust 62 = .ok (.iconst 0, 1) := by decide +kernel
theorem dX5_selectsJust_63 : decode cX5_selectsJust 63 = .ok (.ireturn, 1) := by decide +kernel
theorem dX5_selectsJust_64 : decode cX5_selectsJust 64 = .ok (.iinc 4 1, 3) := by decide +kernel
theorem dX5_selectsJust_67 : decode cX5_selectsJust 67 = .ok (.goto (-64), 3) := by decide +kernel
theorem dX5_selectsJust_70 : decode cX5_selectsJust 70 = .ok (.iconst 1, 1) := by decide +kernel
theorem dX5_selectsJust_71 : decode cX5_selectsJust 71 = .ok (.ireturn, 1) := by decide +kernel
set_option maxRecDepth 20000 in
theorem zl_X5_selectsJust_0 : z_All z_tab cX5_selectsJust 6 (some .boolean) RX5 pc_X5_selectsJust 0 (k_X5_selectsJust.drop 0) := z_cons (ok_iconst (by decide) dX5_selectsJust_0 rfl rfl) <| z_cons (ok_istore (Nat.le_of_ble_eq_true rfl) dX5_selectsJust_1 rfl rfl) <| z_cons (ok_iload dX5_selectsJust_3 rfl rfl) <| z_cons (ok_bipush (by decide) dX5_selectsJust_5 rfl rfl) <| z_cons (ok_icmp_ge (tgt := 70) (by decide) rfl dX5_selectsJust_7 rfl rfl) <| z_cons (ok_aload_n dX5_selectsJust_10 rfl rfl) <| z_cons (ok_iload dX5_selectsJust_11 rfl rfl) <| z_cons (ok_aald dX5_selectsJust_13 rfl rfl) <| z_cons (ok_iload_n dX5_selectsJust_14 rfl rfl) <| z_cons (ok_iload_n dX5_selectsJust_15 rfl rfl) <| z_cons (ok_callv ⟨by decide, by decide, by decide⟩ (ci := 4) (C := RX6) (T := TX6) rfl go_7 (k := 80) (n := 2) qw_323 qw_203 ⟨by decide +kernel, by decide +kernel, by decide +kernel⟩ (Nat.le_of_ble_eq_true rfl) qw_324 qw_325 qw_326 dX5_selectsJust_16 rfl rfl) <| z_cons (ok_iload_n dX5_selectsJust_19 rfl rfl) <| z_cons (ok_icmp_ne (tgt := 27) (by decide) rfl dX5_selectsJust_20 rfl rfl) <| z_cons (ok_iconst (by decide) dX5_selectsJust_23 rfl rfl) <| z_cons (ok_goto (tgt := 28) (by decide) rfl dX5_selectsJust_24 rfl) <| z_cons (ok_iconst (by decide) dX5_selectsJust_27 rfl rfl) <| z_cons (ok_istore (Nat.le_of_ble_eq_true rfl) dX5_selectsJust_28 rfl rfl) <| z_cons (ok_aload_n dX5_selectsJust_30 rfl rfl) <| z_cons (ok_iload dX5_selectsJust_31 rfl rfl) <| z_cons (ok_aald dX5_selectsJust_33 rfl rfl) <| z_cons (ok_get ⟨by decide, by decide, by decide⟩ (ci := 4) (T := TX6) rfl rfl (Nat.le_of_ble_eq_true rfl) iw_X6 qw_317 gv_7_0 dX5_selectsJust_34 rfl rfl) <| z_cons (ok_if_eq (tgt := 64) (by decide) rfl dX5_selectsJust_37 rfl rfl) <| z_cons (ok_iload dX5_selectsJust_40 rfl rfl) <| z_cons (ok_aload_n dX5_selectsJust_42 rfl rfl) <| z_cons (ok_iload dX5_selectsJust_43 rfl rfl) <| z_cons (ok_aald dX5_selectsJust_45 rfl rfl) <| z_cons (ok_iconst (by decide) dX5_selectsJust_46 rfl rfl) <| z_cons (ok_callv ⟨by decide, by decide, by decide⟩ (ci := 4) (C := RX6) (T := TX6) rfl go_7 (k := 81) (n := 1) qw_225 qw_203 ⟨by decide +kernel, by decide +kernel, by decide +kernel⟩ (Nat.le_of_ble_eq_true rfl) qw_348 qw_227 qw_228 dX5_selectsJust_47 rfl rfl) <| z_cons (ok_iconst (by decide) dX5_selectsJust_50 rfl rfl) <| z_cons (ok_icmp_ne (tgt := 58) (by decide) rfl dX5_selectsJust_51 rfl rfl) <| z_cons (ok_iconst (by decide) dX5_selectsJust_54 rfl rfl) <| z_cons (ok_goto (tgt := 59) (by decide) rfl dX5_selectsJust_55 rfl) <| z_cons (ok_iconst (by decide) dX5_selectsJust_58 rfl rfl) <| z_cons (ok_icmp_eq (tgt := 64) (by decide) rfl dX5_selectsJust_59 rfl rfl) <| z_cons (ok_iconst (by decide) dX5_selectsJust_62 rfl rfl) <| z_cons (ok_zret rfl dX5_selectsJust_63 rfl) <| z_cons (ok_iinc (by decide) (Nat.le_of_ble_eq_true rfl) dX5_selectsJust_64 rfl rfl) <| z_cons (ok_goto (tgt := 3) (by decide) rfl dX5_selectsJust_67 rfl) <| z_cons (ok_iconst (by decide) dX5_selectsJust_70 rfl rfl) <| z_cons (ok_zret rfl dX5_selectsJust_71 rfl) <| z_nil
theorem dX6_arrive_0 : decode cX6_arrive 0 = .ok (.aload_n 0, 1) := by decide +kernel
theorem dX6_arrive_1 : decode cX6_arrive 1 = .ok (.iconst 1, 1) := by decide +kernel
theorem dX6_arrive_2 : decode cX6_arrive 2 = .ok (.putfield 18, 3) := by decide +kernel
theorem dX6_arrive_5 : decode cX6_arrive 5 = .ok (.aload_n 0, 1) := by decide +kernel
theorem dX6_arrive_6 : decode cX6_arrive 6 = .ok (.iload_n 1, 1) := by decide +kernel
theorem dX6_arrive_7 : decode cX6_arrive 7 = .ok (.putfield 22, 3) := by decide +kernel
theorem dX6_arrive_10 : decode cX6_arrive 10 = .ok (.aload_n 0, 1) := by decide +kernel
theorem dX6_arrive_11 : decode cX6_arrive 11 = .ok (.iload_n 2, 1) := by decide +kernel
theorem dX6_arrive_12 : decode cX6_arrive 12 = .ok (.putfield 25, 3) := by decide +kernel
theorem dX6_arrive_15 : decode cX6_arrive 15 = .ok (.aload_n 0, 1) := by decide +kernel
theorem dX6_arrive_16 : decode cX6_arrive 16 = .ok (.iconst 0, 1) := by decide +kernel
theorem dX6_arrive_17 : decode cX6_arrive 17 = .ok (.putfield 28, 3) := by decide +kernel
theorem dX6_arrive_20 : decode cX6_arrive 20 = .ok (.aload_n 0, 1) := by decide +kernel
theorem dX6_arrive_21 : decode cX6_arrive 21 = .ok (.iconst 0, 1) := by decide +kernel
theorem dX6_arrive_22 : decode cX6_arrive 22 = .ok (.putfield 31, 3) := by decide +kernel
theorem dX6_arrive_25 : decode cX6_arrive 25 = .ok (.aload_n 0, 1) := by decide +kernel
theorem dX6_arrive_26 : decode cX6_arrive 26 = .ok (.iconst (-1), 1) := by decide +kernel
theorem dX6_arrive_27 : decode cX6_arrive 27 = .ok (.putfield 34, 3) := by decide +kernel
theorem dX6_arrive_30 : decode cX6_arrive 30 = .ok (.aload_n 0, 1) := by decide +kernel
theorem dX6_arrive_31 : decode cX6_arrive 31 = .ok (.iconst (-1), 1) := by decide +kernel
theorem dX6_arrive_32 : decode cX6_arrive 32 = .ok (.putfield 37, 3) := by decide +kernel
theorem dX6_arrive_35 : decode cX6_arrive 35 = .ok (.return_, 1) := by decide +kernel
set_option maxRecDepth 20000 in
theorem zl_X6_arrive_0 : z_All z_tab cX6_arrive 3 none RX6 pc_X6_arrive 0 (k_X6_arrive.drop 0) := z_cons (ok_aload_n dX6_arrive_0 rfl rfl) <| z_cons (ok_iconst (by decide) dX6_arrive_1 rfl rfl) <| z_cons (ok_putz ⟨by decide, by decide, by decide⟩ (ci := 4) (T := TX6) rfl rfl (Nat.le_of_ble_eq_true rfl) iw_X6 qw_352 tyX6_ok nmX6 rfl pv_7_0 rfl dX6_arrive_2 rfl rfl) <| z_cons (ok_aload_n dX6_arrive_5 rfl rfl) <| z_cons (ok_iload_n dX6_arrive_6 rfl rfl) <| z_cons (ok_put ⟨by decide, by decide, by decide⟩ (ci := 4) (T := TX6) rfl rfl (Nat.le_of_ble_eq_true rfl) iw_X6 qw_353 tyX6_ok nmX6 rfl pv_7_1 rfl dX6_arrive_7 rfl rfl) <| z_cons (ok_aload_n dX6_arrive_10 rfl rfl) <| z_cons (ok_iload_n dX6_arrive_11 rfl rfl) <| z_cons (ok_put ⟨by decide, by decide, by decide⟩ (ci := 4) (T := TX6) rfl rfl (Nat.le_of_ble_eq_true rfl) iw_X6 qw_354 tyX6_ok nmX6 rfl pv_7_2 rfl dX6_arrive_12 rfl rfl) <| z_cons (ok_aload_n dX6_arrive_15 rfl rfl) <| z_cons (ok_iconst (by decide) dX6_arrive_16 rfl rfl) <| z_cons (ok_put ⟨by decide, by decide, by decide⟩ (ci := 4) (T := TX6) rfl rfl (Nat.le_of_ble_eq_true rfl) iw_X6 qw_355 tyX6_ok nmX6 rfl pv_7_3 rfl dX6_arrive_17 rfl rfl) <| z_cons (ok_aload_n dX6_arrive_20 rfl rfl) <| z_cons (ok_iconst (by decide) dX6_arrive_21 rfl rfl) <| z_cons (ok_put ⟨by decide, by decide, by decide⟩ (ci := 4) (T := TX6) rfl rfl (Nat.le_of_ble_eq_true rfl) iw_X6 qw_356 tyX6_ok nmX6 rfl pv_7_6 rfl dX6_arrive_22 rfl rfl) <| z_cons (ok_aload_n dX6_arrive_25 rfl rfl) <| z_cons (ok_iconst (by decide) dX6_arrive_26 rfl rfl) <| z_cons (ok_put ⟨by decide, by decide, by decide⟩ (ci := 4) (T := TX6) rfl rfl (Nat.le_of_ble_eq_true rfl) iw_X6 qw_357 tyX6_ok nmX6 rfl pv_7_7 rfl dX6_arrive_27 rfl rfl) <| z_cons (ok_aload_n dX6_arrive_30 rfl rfl) <| z_cons (ok_iconst (by decide) dX6_arrive_31 rfl rfl) <| z_cons (ok_put ⟨by decide, by decide, by decide⟩ (ci := 4) (T := TX6) rfl rfl (Nat.le_of_ble_eq_true rfl) iw_X6 qw_358 tyX6_ok nmX6 rfl pv_7_9 rfl dX6_arrive_32 rfl rfl) <| z_cons (ok_ret rfl dX6_arrive_35 rfl) <| z_nil
theorem dX6_leave_0 : decode cX6_leave 0 = .ok (.aload_n 0, 1) := by decide +kernel
theorem dX6_leave_1 : decode cX6_leave 1 = .ok (.iconst 0, 1) := by decide +kernel
theorem dX6_leave_2 : decode cX6_leave 2 = .ok (.putfield 18, 3) := by decide +kernel
theorem dX6_leave_5 : decode cX6_leave 5 = .ok (.aload_n 0, 1) := by decide +kernel
theorem dX6_leave_6 : decode cX6_leave 6 = .ok (.invokevirtual 40, 3) := by decide +kernel
theorem dX6_leave_9 : decode cX6_leave 9 = .ok (.return_, 1) := by decide +kernel
set_option maxRecDepth 20000 in
theorem zl_X6_leave_0 : z_All z_tab cX6_leave 1 none RX6 pc_X6_leave 0 (k_X6_leave.drop 0) := z_cons (ok_aload_n dX6_leave_0 rfl rfl) <| z_cons (ok_iconst (by decide) dX6_leave_1 rfl rfl) <| z_cons (ok_putz ⟨by decide, by decide, by decide⟩ (ci := 4) (T := TX6) rfl rfl (Nat.le_of_ble_eq_true rfl) iw_X6 qw_352 tyX6_ok nmX6 rfl pv_7_0 rfl dX6_leave_2 rfl rfl) <| z_cons (ok_aload_n dX6_leave_5 rfl rfl) <| z_cons (ok_callv ⟨by decide, by decide, by decide⟩ (ci := 4) (C := RX6) (T := TX6) rfl go_7 (k := 78) (n := 0) qw_236 qw_203 ⟨by decide +kernel, by decide +kernel, by decide +kernel⟩ (Nat.le_of_ble_eq_true rfl) qw_359 qw_238 qw_239 dX6_leave_6 rfl rfl) <| z_cons (ok_ret rfl dX6_leave_9 rfl) <| z_nil
theorem dX6_release_0 : decode cX6_release 0 = .ok (.aload_n 0, 1) := by decide +kernel
theorem dX6_release_1 : decode cX6_release 1 = .ok (.iconst (-1), 1) := by decide +kernel
theorem dX6_release_2 : decode cX6_release 2 = .ok (.putfield 9, 3) := by decide +kernel
theorem dX6_release_5 : decode cX6_release 5 = .ok (.aload_n 0, 1) := by decide +kernel
theorem dX6_release_6 : decode cX6_release 6 = .ok (.iconst (-1), 1) := by decide +kernel
theorem dX6_release_7 : decode cX6_release 7 = .ok (.putfield 15, 3) := by decide +kernel
theorem dX6_release_10 : decode cX6_release 10 = .ok (.return_, 1) := by decide +kernel
set_option maxRecDepth 20000 in
theorem zl_X6_release_0 : z_All z_tab cX6_release 1 none RX6 pc_X6_release 0 (k_X6_release.drop 0) := z_cons (ok_aload_n dX6_release_0 rfl rfl) <| z_cons (ok_iconst (by decide) dX6_release_1 rfl rfl) <| z_cons (ok_put ⟨by decide, by decide, by decide⟩ (ci := 4) (T := TX6) rfl rfl (Nat.le_of_ble_eq_true rfl) iw_X6 qw_360 tyX6_ok nmX6 rfl pv_7_4 rfl dX6_release_2 rfl rfl) <| z_cons (ok_aload_n dX6_release_5 rfl rfl) <| z_cons (ok_iconst (by decide) dX6_release_6 rfl rfl) <| z_cons (ok_put ⟨by decide, by decide, by decide⟩ (ci := 4) (T := TX6) rfl rfl (Nat.le_of_ble_eq_true rfl) iw_X6 qw_361 tyX6_ok nmX6 rfl pv_7_5 rfl dX6_release_7 rfl rfl) <| z_cons (ok_ret rfl dX6_release_10 rfl) <| z_nil
theorem dX6_id_0 : decode cX6_id 0 = .ok (.aload_n 0, 1) := by decide +kernel
theorem dX6_id_1 : decode cX6_id 1 = .ok (.getfield 22, 3) := by decide +kernel
theorem dX6_id_4 : decode cX6_id 4 = .ok (.bipush 16, 2) := by decide +kernel
theorem dX6_id_6 : decode cX6_id 6 = .ok (.iushr, 1) := by decide +kernel
theorem dX6_id_7 : decode cX6_id 7 = .ok (.ireturn, 1) := by decide +kernel
set_option maxRecDepth 20000 in
theorem zl_X6_id_0 : z_All z_tab cX6_id 1 (some .int) RX6 pc_X6_id 0 (k_X6_id.drop 0) := z_cons (ok_aload_n dX6_id_0 rfl rfl) <| z_cons (ok_get ⟨by decide, by decide, by decide⟩ (ci := 4) (T := TX6) rfl rfl (Nat.le_of_ble_eq_true rfl) iw_X6 qw_353 gv_7_1 dX6_id_1 rfl rfl) <| z_cons (ok_bipush (by decide) dX6_id_4 rfl rfl) <| z_cons (ok_iushr dX6_id_6 rfl rfl) <| z_cons (ok_iret rfl dX6_id_7 rfl) <| z_nil
theorem dX6_span_0 : decode cX6_span 0 = .ok (.iload_n 2, 1) := by decide +kernel
theorem dX6_span_1 : decode cX6_span 1 = .ok (.ifCond .ne 7, 3) := by decide +kernel
theorem dX6_span_4 : decode cX6_span 4 = .ok (.iconst 0, 1) := by decide +kernel
theorem dX6_span_5 : decode cX6_span 5 = .ok (.goto 14, 3) := by decide +kernel
theorem dX6_span_8 : decode cX6_span 8 = .ok (.aload_n 0, 1) := by decide +kernel
theorem dX6_span_9 : decode cX6_span 9 = .ok (.getfield 22, 3) := by decide +kernel
theorem dX6_span_12 : decode cX6_span 12 = .ok (.iload_n 1, 1) := by decide +kernel
theorem dX6_span_13 : decode cX6_span 13 = .ok (.ishl, 1) := by decide +kernel
theorem dX6_span_14 : decode cX6_span 14 = .ok (.bipush 32, 2) := by decide +kernel
theorem dX6_span_16 : decode cX6_span 16 = .ok (.iload_n 2, 1) := by decide +kernel
theorem dX6_span_17 : decode cX6_span 17 = .ok (.isub, 1) := by decide +kernel
theorem dX6_span_18 : decode cX6_span 18 = .ok (.iushr, 1) := by decide +kernel
theorem dX6_span_19 : decode cX6_span 19 = .ok (.ireturn, 1) := by decide +kernel
set_option maxRecDepth 20000 in
theorem zl_X6_span_0 : z_All z_tab cX6_span 3 (some .int) RX6 pc_X6_span 0 (k_X6_span.drop 0) := z_cons (ok_iload_n dX6_span_0 rfl rfl) <| z_cons (ok_if_ne (tgt := 8) (by decide) rfl dX6_span_1 rfl rfl) <| z_cons (ok_iconst (by decide) dX6_span_4 rfl rfl) <| z_cons (ok_goto (tgt := 19) (by decide) rfl dX6_span_5 rfl) <| z_cons (ok_aload_n dX6_span_8 rfl rfl) <| z_cons (ok_get ⟨by decide, by decide, by decide⟩ (ci := 4) (T := TX6) rfl rfl (Nat.le_of_ble_eq_true rfl) iw_X6 qw_353 gv_7_1 dX6_span_9 rfl rfl) <| z_cons (ok_iload_n dX6_span_12 rfl rfl) <| z_cons (ok_ishl dX6_span_13 rfl rfl) <| z_cons (ok_bipush (by decide) dX6_span_14 rfl rfl) <| z_cons (ok_iload_n dX6_span_16 rfl rfl) <| z_cons (ok_isub dX6_span_17 rfl rfl) <| z_cons (ok_iushr dX6_span_18 rfl rfl) <| z_cons (ok_iret rfl dX6_span_19 rfl) <| z_nil
theorem dX6_flag_0 : decode cX6_flag 0 = .ok (.aload_n 0, 1) := by decide +kernel
theorem dX6_flag_1 : decode cX6_flag 1 = .ok (.getfield 28, 3) := by decide +kernel
theorem dX6_flag_4 : decode cX6_flag 4 = .ok (.iload_n 1, 1) := by decide +kernel
theorem dX6_flag_5 : decode cX6_flag 5 = .ok (.ishr, 1) := by decide +kernel
theorem dX6_flag_6 : decode cX6_flag 6 = .ok (.iconst 1, 1) := by decide +kernel
theorem dX6_flag_7 : decode cX6_flag 7 = .ok (.iand, 1) := by decide +kernel
theorem dX6_flag_8 : decode cX6_flag 8 = .ok (.ireturn, 1) := by decide +kernel
set_option maxRecDepth 20000 in
theorem zl_X6_flag_0 : z_All z_tab cX6_flag 2 (some .int) RX6 pc_X6_flag 0 (k_X6_flag.drop 0) := z_cons (ok_aload_n dX6_flag_0 rfl rfl) <| z_cons (ok_get ⟨by decide, by decide, by decide⟩ (ci := 4) (T := TX6) rfl rfl (Nat.le_of_ble_eq_true rfl) iw_X6 qw_355 gv_7_3 dX6_flag_1 rfl rfl) <| z_cons (ok_iload_n dX6_flag_4 rfl rfl) <| z_cons (ok_ishr dX6_flag_5 rfl rfl) <| z_cons (ok_iconst (by decide) dX6_flag_6 rfl rfl) <| z_cons (ok_iand dX6_flag_7 rfl rfl) <| z_cons (ok_iret rfl dX6_flag_8 rfl) <| z_nil
theorem dX6_isReachedBy_0 : decode cX6_isReachedBy 0 = .ok (.aload_n 0, 1) := by decide +kernel
theorem dX6_isReachedBy_1 : decode cX6_isReachedBy 1 = .ok (.getfield 25, 3) := by decide +kernel
theorem dX6_isReachedBy_4 : decode cX6_isReachedBy 4 = .ok (.iload_n 1, 1) := by decide +kernel
theorem dX6_isReachedBy_5 : decode cX6_isReachedBy 5 = .ok (.ishr, 1) := by decide +kernel
theorem dX6_isReachedBy_6 : decode cX6_isReachedBy 6 = .ok (.iconst 1, 1) := by decide +kernel
theorem dX6_isReachedBy_7 : decode cX6_isReachedBy 7 = .ok (.iand, 1) := by decide +kernel
theorem dX6_isReachedBy_8 : decode cX6_isReachedBy 8 = .ok (.iconst 1, 1) := by decide +kernel
theorem dX6_isReachedBy_9 : decode cX6_isReachedBy 9 = .ok (.if_icmp .ne 7, 3) := by decide +kernel
theorem dX6_isReachedBy_12 : decode cX6_isReachedBy 12 = .ok (.iconst 1, 1) := by decide +kernel
theorem dX6_isReachedBy_13 : decode cX6_isReachedBy 13 = .ok (.goto 4, 3) := by decide +kernel
theorem dX6_isReachedBy_16 : decode cX6_isReachedBy 16 = .ok (.iconst 0, 1) := by decide +kernel
theorem dX6_isReachedBy_17 : decode cX6_isReachedBy 17 = .ok (.ireturn, 1) := by decide +kernel
set_option maxRecDepth 20000 in
theorem zl_X6_isReachedBy_0 : z_All z_tab cX6_isReachedBy 2 (some .boolean) RX6 pc_X6_isReachedBy 0 (k_X6_isReachedBy.drop 0) := z_cons (ok_aload_n dX6_isReachedBy_0 rfl rfl) <| z_cons (ok_get ⟨by decide, by decide, by decide⟩ (ci := 4) (T := TX6) rfl rfl (Nat.le_of_ble_eq_true rfl) iw_X6 qw_354 gv_7_2 dX6_isReachedBy_1 rfl rfl) <| z_cons (ok_iload_n dX6_isReachedBy_4 rfl rfl) <| z_cons (ok_ishr dX6_isReachedBy_5 rfl rfl) <| z_cons (ok_iconst (by decide) dX6_isReachedBy_6 rfl rfl) <| z_cons (ok_iand dX6_isReachedBy_7 rfl rfl) <| z_cons (ok_iconst (by decide) dX6_isReachedBy_8 rfl rfl) <| z_cons (ok_icmp_ne (tgt := 16) (by decide) rfl dX6_isReachedBy_9 rfl rfl) <| z_cons (ok_iconst (by decide) dX6_isReachedBy_12 rfl rfl) <| z_cons (ok_goto (tgt := 17) (by decide) rfl dX6_isReachedBy_13 rfl) <| z_cons (ok_iconst (by decide) dX6_isReachedBy_16 rfl rfl) <| z_cons (ok_zret rfl dX6_isReachedBy_17 rfl) <| z_nil
theorem dX6_hasPower_0 : decode cX6_hasPower 0 = .ok (.aload_n 0, 1) := by decide +kernel
theorem dX6_hasPower_1 : decode cX6_hasPower 1 = .ok (.getfield 37, 3) := by decide +kernel
theorem dX6_hasPower_4 : decode cX6_hasPower 4 = .ok (.iconst (-1), 1) := by decide +kernel
theorem dX6_hasPower_5 : decode cX6_hasPower 5 = .ok (.if_icmp .ne 7, 3) := by decide +kernel
theorem dX6_hasPower_8 : decode cX6_hasPower 8 = .ok (.iconst 1, 1) := by decide +kernel
theorem dX6_hasPower_9 : decode cX6_hasPower 9 = .ok (.goto 4, 3) := by decide +kernel
theorem dX6_hasPower_12 : decode cX6_hasPower 12 = .ok (.iconst 0, 1) := by decide +kernel
theorem dX6_hasPower_13 : decode cX6_hasPower 13 = .ok (.ireturn, 1) := by decide +kernel
set_option maxRecDepth 20000 in
theorem zl_X6_hasPower_0 : z_All z_tab cX6_hasPower 1 (some .boolean) RX6 pc_X6_hasPower 0 (k_X6_hasPower.drop 0) := z_cons (ok_aload_n dX6_hasPower_0 rfl rfl) <| z_cons (ok_get ⟨by decide, by decide, by decide⟩ (ci := 4) (T := TX6) rfl rfl (Nat.le_of_ble_eq_true rfl) iw_X6 qw_358 gv_7_9 dX6_hasPower_1 rfl rfl) <| z_cons (ok_iconst (by decide) dX6_hasPower_4 rfl rfl) <| z_cons (ok_icmp_ne (tgt := 12) (by decide) rfl dX6_hasPower_5 rfl rfl) <| z_cons (ok_iconst (by decide) dX6_hasPower_8 rfl rfl) <| z_cons (ok_goto (tgt := 13) (by decide) rfl dX6_hasPower_9 rfl) <| z_cons (ok_iconst (by decide) dX6_hasPower_12 rfl rfl) <| z_cons (ok_zret rfl dX6_hasPower_13 rfl) <| z_nil
theorem dX6_setFlag_0 : decode cX6_setFlag 0 = .ok (.aload_n 0, 1) := by decide +kernel
theorem dX6_setFlag_1 : decode cX6_setFlag 1 = .ok (.iload_n 2, 1) := by decide +kernel
theorem dX6_setFlag_2 : decode cX6_setFlag 2 = .ok (.iconst 1, 1) := by decide +kernel
theorem dX6_setFlag_3 : decode cX6_setFlag 3 = .ok (.if_icmp .ne 14, 3) := by decide +kernel
theorem dX6_setFlag_6 : decode cX6_setFlag 6 = .ok (.aload_n 0, 1) := by decide +kernel
theorem dX6_setFlag_7 : decode cX6_setFlag 7 = .ok (.getfield 28, 3) := by decide +kernel
theorem dX6_setFlag_10 : decode cX6_setFlag 10 = .ok (.iconst 1, 1) := by decide +kernel
theorem dX6_setFlag_11 : decode cX6_setFlag 11 = .ok (.iload_n 1, 1) := by decide +kernel
theorem dX6_setFlag_12 : decode cX6_setFlag 12 = .ok (.ishl, 1) := by decide +kernel
theorem dX6_setFlag_13 : decode cX6_setFlag 13 = .ok (.ior, 1) := by decide +kernel
theorem dX6_setFlag_14 : decode cX6_setFlag 14 = .ok (.goto 13, 3) := by decide +kernel
theorem dX6_setFlag_17 : decode cX6_setFlag 17 = .ok (.aload_n 0, 1) := by decide +kernel
theorem dX6_setFlag_18 : decode cX6_setFlag 18 = .ok (.getfield 28, 3) := by decide +kernel
theorem dX6_setFlag_21 : decode cX6_setFlag 21 = .ok (.iconst 1, 1) := by decide +kernel
theorem dX6_setFlag_22 : decode cX6_setFlag 22 = .ok (.iload_n 1, 1) := by decide +kernel
theorem dX6_setFlag_23 : decode cX6_setFlag 23 = .ok (.ishl, 1) := by decide +kernel
theorem dX6_setFlag_24 : decode cX6_setFlag 24 = .ok (.iconst (-1), 1) := by decide +kernel
theorem dX6_setFlag_25 : decode cX6_setFlag 25 = .ok (.ixor, 1) := by decide +kernel
theorem dX6_setFlag_26 : decode cX6_setFlag 26 = .ok (.iand, 1) := by decide +kernel
theorem dX6_setFlag_27 : decode cX6_setFlag 27 = .ok (.putfield 28, 3) := by decide +kernel
theorem dX6_setFlag_30 : decode cX6_setFlag 30 = .ok (.iload_n 1, 1) := by decide +kernel
theorem dX6_setFlag_31 : decode cX6_setFlag 31 = .ok (.iconst 1, 1) := by decide +kernel
theorem dX6_setFlag_32 : decode cX6_setFlag 32 = .ok (.if_icmp .ne 13, 3) := by decide +kernel
theorem dX6_setFlag_35 : decode cX6_setFlag 35 = .ok (.iload_n 2, 1) := by decide +kernel
theorem dX6_setFlag_36 : decode cX6_setFlag 36 = .ok (.iconst 1, 1) := by decide +kernel
theorem dX6_setFlag_37 : decode cX6_setFlag 37 = .ok (.if_icmp .ne 8, 3) := by decide +kernel
theorem dX6_setFlag_40 : decode cX6_setFlag 40 = .ok (.aload_n 0, 1) := by decide +kernel
theorem dX6_setFlag_41 : decode cX6_setFlag 41 = .ok (.iload_n 3, 1) := by decide +kernel
theorem dX6_setFlag_42 : decode cX6_setFlag 42 = .ok (.putfield 43, 3) := by decide +kernel
theorem dX6_setFlag_45 : decode cX6_setFlag 45 = .ok (.return_, 1) := by decide +kernel
set_option maxRecDepth 20000 in
theorem zl_X6_setFlag_0 : z_All z_tab cX6_setFlag 4 none RX6 pc_X6_setFlag 0 (k_X6_setFlag.drop 0) := z_cons (ok_aload_n dX6_setFlag_0 rfl rfl) <| z_cons (ok_iload_n dX6_setFlag_1 rfl rfl) <| z_cons (ok_iconst (by decide) dX6_setFlag_2 rfl rfl) <| z_cons (ok_icmp_ne (tgt := 17) (by decide) rfl dX6_setFlag_3 rfl rfl) <| z_cons (ok_aload_n dX6_setFlag_6 rfl rfl) <| z_cons (ok_get ⟨by decide, by decide, by decide⟩ (ci := 4) (T := TX6) rfl rfl (Nat.le_of_ble_eq_true rfl) iw_X6 qw_355 gv_7_3 dX6_setFlag_7 rfl rfl) <| z_cons (ok_iconst (by decide) dX6_setFlag_10 rfl rfl) <| z_cons (ok_iload_n dX6_setFlag_11 rfl rfl) <| z_cons (ok_ishl dX6_setFlag_12 rfl rfl) <| z_cons (ok_ior dX6_setFlag_13 rfl rfl) <| z_cons (ok_goto (tgt := 27) (by decide) rfl dX6_setFlag_14 rfl) <| z_cons (ok_aload_n dX6_setFlag_17 rfl rfl) <| z_cons (ok_get ⟨by decide, by decide, by decide⟩ (ci := 4) (T := TX6) rfl rfl (Nat.le_of_ble_eq_true rfl) iw_X6 qw_355 gv_7_3 dX6_setFlag_18 rfl rfl) <| z_cons (ok_iconst (by decide) dX6_setFlag_21 rfl rfl) <| z_cons (ok_iload_n dX6_setFlag_22 rfl rfl) <| z_cons (ok_ishl dX6_setFlag_23 rfl rfl) <| z_cons (ok_iconst (by decide) dX6_setFlag_24 rfl rfl) <| z_cons (ok_ixor dX6_setFlag_25 rfl rfl) <| z_cons (ok_iand dX6_setFlag_26 rfl rfl) <| z_cons (ok_put ⟨by decide, by decide, by decide⟩ (ci := 4) (T := TX6) rfl rfl (Nat.le_of_ble_eq_true rfl) iw_X6 qw_355 tyX6_ok nmX6 rfl pv_7_3 rfl dX6_setFlag_27 rfl rfl) <| z_cons (ok_iload_n dX6_setFlag_30 rfl rfl) <| z_cons (ok_iconst (by decide) dX6_setFlag_31 rfl rfl) <| z_cons (ok_icmp_ne (tgt := 45) (by decide) rfl dX6_setFlag_32 rfl rfl) <| z_cons (ok_iload_n dX6_setFlag_35 rfl rfl) <| z_cons (ok_iconst (by decide) dX6_setFlag_36 rfl rfl) <| z_cons (ok_icmp_ne (tgt := 45) (by decide) rfl dX6_setFlag_37 rfl rfl) <| z_cons (ok_aload_n dX6_setFlag_40 rfl rfl) <| z_cons (ok_iload_n dX6_setFlag_41 rfl rfl) <| z_cons (ok_put ⟨by decide, by decide, by decide⟩ (ci := 4) (T := TX6) rfl rfl (Nat.le_of_ble_eq_true rfl) iw_X6 qw_362 tyX6_ok nmX6 rfl pv_7_8 rfl dX6_setFlag_42 rfl rfl) <| z_cons (ok_ret rfl dX6_setFlag_45 rfl) <| z_nil
theorem dX6_tells_0 : decode cX6_tells 0 = .ok (.iload_n 1, 1) := by decide +kernel
theorem dX6_tells_1 : decode cX6_tells 1 = .ok (.tableswitch 158 0 13 #[71, 71, 71, 71, 71, 77, 90, 95, 100, 105, 110, 115, 135, 153], 71) := by decide +kernel
theorem dX6_tells_72 : decode cX6_tells 72 = .ok (.aload_n 0, 1) := by decide +kernel
theorem dX6_tells_73 : decode cX6_tells 73 = .ok (.iload_n 1, 1) := by decide +kernel
theorem dX6_tells_74 : decode cX6_tells 74 = .ok (.invokevirtual 46, 3) := by decide +kernel
theorem dX6_tells_77 : decode cX6_tells 77 = .ok (.ireturn, 1) := by decide +kernel
theorem dX6_tells_78 : decode cX6_tells 78 = .ok (.aload_n 0, 1) := by decide +kernel
theorem dX6_tells_79 : decode cX6_tells 79 = .ok (.invokevirtual 50, 3) := by decide +kernel
theorem dX6_tells_82 : decode cX6_tells 82 = .ok (.ifCond .eq 7, 3) := by decide +kernel
theorem dX6_tells_85 : decode cX6_tells 85 = .ok (.iconst 1, 1) := by decide +kernel
theorem dX6_tells_86 : decode cX6_tells 86 = .ok (.goto 4, 3) := by decide +kernel
theorem dX6_tells_89 : decode cX6_tells 89 = .ok (.iconst 0, 1) := by decide +kernel
theorem dX6_tells_90 : decode cX6_tells 90 = .ok (.ireturn, 1) := by decide +kernel
theorem dX6_tells_91 : decode cX6_tells 91 = .ok (.aload_n 0, 1) := by decide +kernel
theorem dX6_tells_92 : decode cX6_tells 92 = .ok (.getfield 9, 3) := by decide +kernel
theorem dX6_tells_95 : decode cX6_tells 95 = .ok (.ireturn, 1) := by decide +kernel
theorem dX6_tells_96 : decode cX6_tells 96 = .ok (.aload_n 0, 1) := by decide +kernel
theorem dX6_tells_97 : decode cX6_tells 97 = .ok (.getfield 15, 3) := by decide +kernel
theorem dX6_tells_100 : decode cX6_tells 100 = .ok (.ireturn, 1) := by decide +kernel
theorem dX6_tells_101 : decode cX6_tells 101 = .ok (.aload_n 0, 1) := by decide +kernel
theorem dX6_tells_102 : decode cX6_tells 102 = .ok (.getfield 25, 3) := by decide +kernel
theorem dX6_tells_105 : decode cX6_tells 105 = .ok (.ireturn, 1) := by decide +kernel
theorem dX6_tells_106 : decode cX6_tells 106 = .ok (.aload_n 0, 1) := by decide +kernel
theorem dX6_tells_107 : decode cX6_tells 107 = .ok (.getfield 31, 3) := by decide +kernel
theorem dX6_tells_110 : decode cX6_tells 110 = .ok (.ireturn, 1) := by decide +kernel
theorem dX6_tells_111 : decode cX6_tells 111 = .ok (.aload_n 0, 1) := by decide +kernel
theorem dX6_tells_112 : decode cX6_tells 112 = .ok (.getfield 34, 3) := by decide +kernel
theorem dX6_tells_115 : decode cX6_tells 115 = .ok (.ireturn, 1) := by decide +kernel
theorem dX6_tells_116 : decode cX6_tells 116 = .ok (.aload_n 0, 1) := by decide +kernel
theorem dX6_tells_117 : decode cX6_tells 117 = .ok (.iconst 1, 1) := by decide +kernel
theorem dX6_tells_118 : decode cX6_tells 118 = .ok (.invokevirtual 46, 3) := by decide +kernel
theorem dX6_tells_121 : decode cX6_tells 121 = .ok (.iconst 1, 1) := by decide +kernel
theorem dX6_tells_122 : decode cX6_tells 122 = .ok (.if_icmp .ne 12, 3) := by decide +kernel
theorem dX6_tells_125 : decode cX6_tells 125 = .ok (.iload_n 2, 1) := by decide +kernel
theorem dX6_tells_126 : decode cX6_tells 126 = .ok (.aload_n 0, 1) := by decide +kernel
theorem dX6_tells_127 : decode cX6_tells 127 = .ok (.getfield 43, 3) := by decide +kernel
theorem dX6_tells_130 : decode cX6_tells 130 = .ok (.isub, 1) := by decide +kernel
theorem dX6_tells_131 : decode cX6_tells 131 = .ok (.goto 4, 3) := by decide +kernel
theorem dX6_tells_134 : decode cX6_tells 134 = .ok (.iconst (-1), 1) := by decide +kernel
theorem dX6_tells_135 : decode cX6_tells 135 = .ok (.ireturn, 1) := by decide +kernel
theorem dX6_tells_136 : decode cX6_tells 136 = .ok (.aload_n 0, 1) := by decide +kernel
theorem dX6_tells_137 : decode cX6_tells 137 = .ok (.invokevirtual 50, 3) := by decide +kernel
theorem dX6_tells_140 : decode cX6_tells 140 = .ok (.ifCond .eq 7, 3) := by decide +kernel
theorem dX6_tells_143 : decode cX6_tells 143 = .ok (.iconst (-1), 1) := by decide +kernel
theorem dX6_tells_144 : decode cX6_tells 144 = .ok (.goto 9, 3) := by decide +kernel
theorem dX6_tells_147 : decode cX6_tells 147 = .ok (.iload_n 2, 1) := by decide +kernel
theorem dX6_tells_148 : decode cX6_tells 148 = .ok (.aload_n 0, 1) := by decide +kernel
theorem dX6_tells_149 : decode cX6_tells 149 = .ok (.getfield 37, 3) := by decide +kernel
theorem dX6_tells_152 : decode cX6_tells 152 = .ok (.isub, 1) := by decide +kernel
theorem dX6_tells_153 : decode cX6_tells 153 = .ok (.ireturn, 1) := by decide +kernel
theorem dX6_tells_154 : decode cX6_tells 154 = .ok (.aload_n 0, 1) := by decide +kernel
theorem dX6_tells_155 : decode cX6_tells 155 = .ok (.invokevirtual 54, 3) := by decide +kernel
theorem dX6_tells_158 : decode cX6_tells 158 = .ok (.ireturn, 1) := by decide +kernel
theorem dX6_tells_159 : decode cX6_tells 159 = .ok (.bipush (-2), 2) := by decide +kernel
theorem dX6_tells_161 : decode cX6_tells 161 = .ok (.ireturn, 1) := by decide +kernel
set_option maxRecDepth 20000 in
theorem zl_X6_tells_1 : z_All z_tab cX6_tells 3 (some .int) RX6 pc_X6_tells 40 (k_X6_tells.drop 40) := z_cons (ok_aload_n dX6_tells_136 rfl rfl) <| z_cons (ok_callv ⟨by decide, by decide, by decide⟩ (ci := 4) (C := RX6) (T := TX6) rfl go_7 (k := 83) (n := 0) qw_364 qw_203 ⟨by decide +kernel, by decide +kernel, by decide +kernel⟩ (Nat.le_of_ble_eq_true rfl) qw_365 qw_366 qw_367 dX6_tells_137 rfl rfl) <| z_cons (ok_if_eq (tgt := 147) (by decide) rfl dX6_tells_140 rfl rfl) <| z_cons (ok_iconst (by decide) dX6_tells_143 rfl rfl) <| z_cons (ok_goto (tgt := 153) (by decide) rfl dX6_tells_144 rfl) <| z_cons (ok_iload_n dX6_tells_147 rfl rfl) <| z_cons (ok_aload_n dX6_tells_148 rfl rfl) <| z_cons (ok_get ⟨by decide, by decide, by decide⟩ (ci := 4) (T := TX6) rfl rfl (Nat.le_of_ble_eq_true rfl) iw_X6 qw_358 gv_7_9 dX6_tells_149 rfl rfl) <| z_cons (ok_isub dX6_tells_152 rfl rfl) <| z_cons (ok_iret rfl dX6_tells_153 rfl) <| z_cons (ok_aload_n dX6_tells_154 rfl rfl) <| z_cons (ok_callv ⟨by decide, by decide, by decide⟩ (ci := 4) (C := RX6) (T := TX6) rfl go_7 (k := 79) (n := 0) qw_202 qw_203 ⟨by decide +kernel, by decide +kernel, by decide +kernel⟩ (Nat.le_of_ble_eq_true rfl) qw_368 qw_205 qw_206 dX6_tells_155 rfl rfl) <| z_cons (ok_iret rfl dX6_tells_158 rfl) <| z_cons (ok_bipush (by decide) dX6_tells_159 rfl rfl) <| z_cons (ok_iret rfl dX6_tells_161 rfl) <| z_nil
set_option maxRecDepth 20000 in
theorem zl_X6_tells_0 : z_All z_tab cX6_tells 3 (some .int) RX6 pc_X6_tells 0 (k_X6_tells.drop 0) := z_cons (ok_iload_n dX6_tells_0 rfl rfl) <| z_cons (ok_tsw (lo := 0) dX6_tells_1 rfl (Nat.le_of_ble_eq_true rfl) (by decide) (by decide +kernel) (by decide)) <| z_cons (ok_aload_n dX6_tells_72 rfl rfl) <| z_cons (ok_iload_n dX6_tells_73 rfl rfl) <| z_cons (ok_callv ⟨by decide, by decide, by decide⟩ (ci := 4) (C := RX6) (T := TX6) rfl go_7 (k := 81) (n := 1) qw_225 qw_203 ⟨by decide +kernel, by decide +kernel, by decide +kernel⟩ (Nat.le_of_ble_eq_true rfl) qw_363 qw_227 qw_228 dX6_tells_74 rfl rfl) <| z_cons (ok_iret rfl dX6_tells_77 rfl) <| z_cons (ok_aload_n dX6_tells_78 rfl rfl) <| z_cons (ok_callv ⟨by decide, by decide, by decide⟩ (ci := 4) (C := RX6) (T := TX6) rfl go_7 (k := 83) (n := 0) qw_364 qw_203 ⟨by decide +kernel, by decide +kernel, by decide +kernel⟩ (Nat.le_of_ble_eq_true rfl) qw_365 qw_366 qw_367 dX6_tells_79 rfl rfl) <| z_cons (ok_if_eq (tgt := 89) (by decide) rfl dX6_tells_82 rfl rfl) <| z_cons (ok_iconst (by decide) dX6_tells_85 rfl rfl) <| z_cons (ok_goto (tgt := 90) (by decide) rfl dX6_tells_86 rfl) <| z_cons (ok_iconst (by decide) dX6_tells_89 rfl rfl) <| z_cons (ok_iret rfl dX6_tells_90 rfl) <| z_cons (ok_aload_n dX6_tells_91 rfl rfl) <| z_cons (ok_get ⟨by decide, by decide, by decide⟩ (ci := 4) (T := TX6) rfl rfl (Nat.le_of_ble_eq_true rfl) iw_X6 qw_360 gv_7_4 dX6_tells_92 rfl rfl) <| z_cons (ok_iret rfl dX6_tells_95 rfl) <| z_cons (ok_aload_n dX6_tells_96 rfl rfl) <| z_cons (ok_get ⟨by decide, by decide, by decide⟩ (ci := 4) (T := TX6) rfl rfl (Nat.le_of_ble_eq_true rfl) iw_X6 qw_361 gv_7_5 dX6_tells_97 rfl rfl) <| z_cons (ok_iret rfl dX6_tells_100 rfl) <| z_cons (ok_aload_n dX6_tells_101 rfl rfl) <| z_cons (ok_get ⟨by decide, by decide, by decide⟩ (ci := 4) (T := TX6) rfl rfl (Nat.le_of_ble_eq_true rfl) iw_X6 qw_354 gv_7_2 dX6_tells_102 rfl rfl) <| z_cons (ok_iret rfl dX6_tells_105 rfl) <| z_cons (ok_aload_n dX6_tells_106 rfl rfl) <| z_cons (ok_get ⟨by decide, by decide, by decide⟩ (ci := 4) (T := TX6) rfl rfl (Nat.le_of_ble_eq_true rfl) iw_X6 qw_356 gv_7_6 dX6_tells_107 rfl rfl) <| z_cons (ok_iret rfl dX6_tells_110 rfl) <| z_cons (ok_aload_n dX6_tells_111 rfl rfl) <| z_cons (ok_get ⟨by decide, by decide, by decide⟩ (ci := 4) (T := TX6) rfl rfl (Nat.le_of_ble_eq_true rfl) iw_X6 qw_357 gv_7_7 dX6_tells_112 rfl rfl) <| z_cons (ok_iret rfl dX6_tells_115 rfl) <| z_cons (ok_aload_n dX6_tells_116 rfl rfl) <| z_cons (ok_iconst (by decide) dX6_tells_117 rfl rfl) <| z_cons (ok_callv ⟨by decide, by decide, by decide⟩ (ci := 4) (C := RX6) (T := TX6) rfl go_7 (k := 81) (n := 1) qw_225 qw_203 ⟨by decide +kernel, by decide +kernel, by decide +kernel⟩ (Nat.le_of_ble_eq_true rfl) qw_363 qw_227 qw_228 dX6_tells_118 rfl rfl) <| z_cons (ok_iconst (by decide) dX6_tells_121 rfl rfl) <| z_cons (ok_icmp_ne (tgt := 134) (by decide) rfl dX6_tells_122 rfl rfl) <| z_cons (ok_iload_n dX6_tells_125 rfl rfl) <| z_cons (ok_aload_n dX6_tells_126 rfl rfl) <| z_cons (ok_get ⟨by decide, by decide, by decide⟩ (ci := 4) (T := TX6) rfl rfl (Nat.le_of_ble_eq_true rfl) iw_X6 qw_362 gv_7_8 dX6_tells_127 rfl rfl) <| z_cons (ok_isub dX6_tells_130 rfl rfl) <| z_cons (ok_goto (tgt := 135) (by decide) rfl dX6_tells_131 rfl) <| z_cons (ok_iconst (by decide) dX6_tells_134 rfl rfl) <| z_cons (ok_iret rfl dX6_tells_135 rfl) <| zl_X6_tells_1
theorem dX6_copyFrom_0 : decode cX6_copyFrom 0 = .ok (.aload_n 0, 1) := by decide +kernel
theorem dX6_copyFrom_1 : decode cX6_copyFrom 1 = .ok (.aload_n 1, 1) := by decide +kernel
theorem dX6_copyFrom_2 : decode cX6_copyFrom 2 = .ok (.getfield 18, 3) := by decide +kernel
theorem dX6_copyFrom_5 : decode cX6_copyFrom 5 = .ok (.putfield 18, 3) := by decide +kernel
theorem dX6_copyFrom_8 : decode cX6_copyFrom 8 = .ok (.aload_n 0, 1) := by decide +kernel
theorem dX6_copyFrom_9 : decode cX6_copyFrom 9 = .ok (.aload_n 1, 1) := by decide +kernel
theorem dX6_copyFrom_10 : decode cX6_copyFrom 10 = .ok (.getfield 22, 3) := by decide +kernel
theorem dX6_copyFrom_13 : decode cX6_copyFrom 13 = .ok (.putfield 22, 3) := by decide +kernel
theorem dX6_copyFrom_16 : decode cX6_copyFrom 16 = .ok (.aload_n 0, 1) := by decide +kernel
theorem dX6_copyFrom_17 : decode cX6_copyFrom 17 = .ok (.aload_n 1, 1) := by decide +kernel
theorem dX6_copyFrom_18 : decode cX6_copyFrom 18 = .ok (.getfield 25, 3) := by decide +kernel
theorem dX6_copyFrom_21 : decode cX6_copyFrom 21 = .ok (.putfield 25, 3) := by decide +kernel
theorem dX6_copyFrom_24 : decode cX6_copyFrom 24 = .ok (.aload_n 0, 1) := by decide +kernel
theorem dX6_copyFrom_25 : decode cX6_copyFrom 25 = .ok (.aload_n 1, 1) := by decide +kernel
theorem dX6_copyFrom_26 : decode cX6_copyFrom 26 = .ok (.getfield 28, 3) := by decide +kernel
theorem dX6_copyFrom_29 : decode cX6_copyFrom 29 = .ok (.putfield 28, 3) := by decide +kernel
theorem dX6_copyFrom_32 : decode cX6_copyFrom 32 = .ok (.aload_n 0, 1) := by decide +kernel
theorem dX6_copyFrom_33 : decode cX6_copyFrom 33 = .ok (.aload_n 1, 1) := by decide +kernel
theorem dX6_copyFrom_34 : decode cX6_copyFrom 34 = .ok (.getfield 9, 3) := by decide +kernel
theorem dX6_copyFrom_37 : decode cX6_copyFrom 37 = .ok (.putfield 9, 3) := by decide +kernel
theorem dX6_copyFrom_40 : decode cX6_copyFrom 40 = .ok (.aload_n 0, 1) := by decide +kernel
theorem dX6_copyFrom_41 : decode cX6_copyFrom 41 = .ok (.aload_n 1, 1) := by decide +kernel
theorem dX6_copyFrom_42 : decode cX6_copyFrom 42 = .ok (.getfield 15, 3) := by decide +kernel
theorem dX6_copyFrom_45 : decode cX6_copyFrom 45 = .ok (.putfield 15, 3) := by decide +kernel
theorem dX6_copyFrom_48 : decode cX6_copyFrom 48 = .ok (.aload_n 0, 1) := by decide +kernel
theorem dX6_copyFrom_49 : decode cX6_copyFrom 49 = .ok (.aload_n 1, 1) := by decide +kernel
theorem dX6_copyFrom_50 : decode cX6_copyFrom 50 = .ok (.getfield 31, 3) := by decide +kernel
theorem dX6_copyFrom_53 : decode cX6_copyFrom 53 = .ok (.putfield 31, 3) := by decide +kernel
theorem dX6_copyFrom_56 : decode cX6_copyFrom 56 = .ok (.aload_n 0, 1) := by decide +kernel
theorem dX6_copyFrom_57 : decode cX6_copyFrom 57 = .ok (.aload_n 1, 1) := by decide +kernel
theorem dX6_copyFrom_58 : decode cX6_copyFrom 58 = .ok (.getfield 34, 3) := by decide +kernel
theorem dX6_copyFrom_61 : decode cX6_copyFrom 61 = .ok (.putfield 34, 3) := by decide +kernel
theorem dX6_copyFrom_64 : decode cX6_copyFrom 64 = .ok (.aload_n 0, 1) := by decide +kernel
theorem dX6_copyFrom_65 : decode cX6_copyFrom 65 = .ok (.aload_n 1, 1) := by decide +kernel
theorem dX6_copyFrom_66 : decode cX6_copyFrom 66 = .ok (.getfield 43, 3) := by decide +kernel
theorem dX6_copyFrom_69 : decode cX6_copyFrom 69 = .ok (.putfield 43, 3) := by decide +kernel
theorem dX6_copyFrom_72 : decode cX6_copyFrom 72 = .ok (.aload_n 0, 1) := by decide +kernel
theorem dX6_copyFrom_73 : decode cX6_copyFrom 73 = .ok (.aload_n 1, 1) := by decide +kernel
theorem dX6_copyFrom_74 : decode cX6_copyFrom 74 = .ok (.getfield 37, 3) := by decide +kernel
theorem dX6_copyFrom_77 : decode cX6_copyFrom 77 = .ok (.putfield 37, 3) := by decide +kernel
theorem dX6_copyFrom_80 : decode cX6_copyFrom 80 = .ok (.return_, 1) := by decide +kernel
set_option maxRecDepth 20000 in
theorem zl_X6_copyFrom_1 : z_All z_tab cX6_copyFrom 2 none RX6 pc_X6_copyFrom 40 (k_X6_copyFrom.drop 40) := z_cons (ok_ret rfl dX6_copyFrom_80 rfl) <| z_nil
set_option maxRecDepth 20000 in
theorem zl_X6_copyFrom_0 : z_All z_tab cX6_copyFrom 2 none RX6 pc_X6_copyFrom 0 (k_X6_copyFrom.drop 0) := z_cons (ok_aload_n dX6_copyFrom_0 rfl rfl) <| z_cons (ok_aload_n dX6_copyFrom_1 rfl rfl) <| z_cons (ok_get ⟨by decide, by decide, by decide⟩ (ci := 4) (T := TX6) rfl rfl (Nat.le_of_ble_eq_true rfl) iw_X6 qw_352 gv_7_0 dX6_copyFrom_2 rfl rfl) <| z_cons (ok_putz ⟨by decide, by decide, by decide⟩ (ci := 4) (T := TX6) rfl rfl (Nat.le_of_ble_eq_true rfl) iw_X6 qw_352 tyX6_ok nmX6 rfl pv_7_0 rfl dX6_copyFrom_5 rfl rfl) <| z_cons (ok_aload_n dX6_copyFrom_8 rfl rfl) <| z_cons (ok_aload_n dX6_copyFrom_9 rfl rfl) <| z_cons (ok_get ⟨by decide, by decide, by decide⟩ (ci := 4) (T := TX6) rfl rfl (Nat.le_of_ble_eq_true rfl) iw_X6 qw_353 gv_7_1 dX6_copyFrom_10 rfl rfl) <| z_cons (ok_put ⟨by decide, by decide, by decide⟩ (ci := 4) (T := TX6) rfl rfl (Nat.le_of_ble_eq_true rfl) iw_X6 qw_353 tyX6_ok nmX6 rfl pv_7_1 rfl dX6_copyFrom_13 rfl rfl) <| z_cons (ok_aload_n dX6_copyFrom_16 rfl rfl) <| z_cons (ok_aload_n dX6_copyFrom_17 rfl rfl) <| z_cons (ok_get ⟨by decide, by decide, by decide⟩ (ci := 4) (T := TX6) rfl rfl (Nat.le_of_ble_eq_true rfl) iw_X6 qw_354 gv_7_2 dX6_copyFrom_18 rfl rfl) <| z_cons (ok_put ⟨by decide, by decide, by decide⟩ (ci := 4) (T := TX6) rfl rfl (Nat.le_of_ble_eq_true rfl) iw_X6 qw_354 tyX6_ok nmX6 rfl pv_7_2 rfl dX6_copyFrom_21 rfl rfl) <| z_cons (ok_aload_n dX6_copyFrom_24 rfl rfl) <| z_cons (ok_aload_n dX6_copyFrom_25 rfl rfl) <| z_cons (ok_get ⟨by decide, by decide, by decide⟩ (ci := 4) (T := TX6) rfl rfl (Nat.le_of_ble_eq_true rfl) iw_X6 qw_355 gv_7_3 dX6_copyFrom_26 rfl rfl) <| z_cons (ok_put ⟨by decide, by decide, by decide⟩ (ci := 4) (T := TX6) rfl rfl (Nat.le_of_ble_eq_true rfl) iw_X6 qw_355 tyX6_ok nmX6 rfl pv_7_3 rfl dX6_copyFrom_29 rfl rfl) <| z_cons (ok_aload_n dX6_copyFrom_32 rfl rfl) <| z_cons (ok_aload_n dX6_copyFrom_33 rfl rfl) <| z_cons (ok_get ⟨by decide, by decide, by decide⟩ (ci := 4) (T := TX6) rfl rfl (Nat.le_of_ble_eq_true rfl) iw_X6 qw_360 gv_7_4 dX6_copyFrom_34 rfl rfl) <| z_cons (ok_put ⟨by decide, by decide, by decide⟩ (ci := 4) (T := TX6) rfl rfl (Nat.le_of_ble_eq_true rfl) iw_X6 qw_360 tyX6_ok nmX6 rfl pv_7_4 rfl dX6_copyFrom_37 rfl rfl) <| z_cons (ok_aload_n dX6_copyFrom_40 rfl rfl) <| z_cons (ok_aload_n dX6_copyFrom_41 rfl rfl) <| z_cons (ok_get ⟨by decide, by decide, by decide⟩ (ci := 4) (T := TX6) rfl rfl (Nat.le_of_ble_eq_true rfl) iw_X6 qw_361 gv_7_5 dX6_copyFrom_42 rfl rfl) <| z_cons (ok_put ⟨by decide, by decide, by decide⟩ (ci := 4) (T := TX6) rfl rfl (Nat.le_of_ble_eq_true rfl) iw_X6 qw_361 tyX6_ok nmX6 rfl pv_7_5 rfl dX6_copyFrom_45 rfl rfl) <| z_cons (ok_aload_n dX6_copyFrom_48 rfl rfl) <| z_cons (ok_aload_n dX6_copyFrom_49 rfl rfl) <| z_cons (ok_get ⟨by decide, by decide, by decide⟩ (ci := 4) (T := TX6) rfl rfl (Nat.le_of_ble_eq_true rfl) iw_X6 qw_356 gv_7_6 dX6_copyFrom_50 rfl rfl) <| z_cons (ok_put ⟨by decide, by decide, by decide⟩ (ci := 4) (T := TX6) rfl rfl (Nat.le_of_ble_eq_true rfl) iw_X6 qw_356 tyX6_ok nmX6 rfl pv_7_6 rfl dX6_copyFrom_53 rfl rfl) <| z_cons (ok_aload_n dX6_copyFrom_56 rfl rfl) <| z_cons (ok_aload_n dX6_copyFrom_57 rfl rfl) <| z_cons (ok_get ⟨by decide, by decide, by decide⟩ (ci := 4) (T := TX6) rfl rfl (Nat.le_of_ble_eq_true rfl) iw_X6 qw_357 gv_7_7 dX6_copyFrom_58 rfl rfl) <| z_cons (ok_put ⟨by decide, by decide, by decide⟩ (ci := 4) (T := TX6) rfl rfl (Nat.le_of_ble_eq_true rfl) iw_X6 qw_357 tyX6_ok nmX6 rfl pv_7_7 rfl dX6_copyFrom_61 rfl rfl) <| z_cons (ok_aload_n dX6_copyFrom_64 rfl rfl) <| z_cons (ok_aload_n dX6_copyFrom_65 rfl rfl) <| z_cons (ok_get ⟨by decide, by decide, by decide⟩ (ci := 4) (T := TX6) rfl rfl (Nat.le_of_ble_eq_true rfl) iw_X6 qw_362 gv_7_8 dX6_copyFrom_66 rfl rfl) <| z_cons (ok_put ⟨by decide, by decide, by decide⟩ (ci := 4) (T := TX6) rfl rfl (Nat.le_of_ble_eq_true rfl) iw_X6 qw_362 tyX6_ok nmX6 rfl pv_7_8 rfl dX6_copyFrom_69 rfl rfl) <| z_cons (ok_aload_n dX6_copyFrom_72 rfl rfl) <| z_cons (ok_aload_n dX6_copyFrom_73 rfl rfl) <| z_cons (ok_get ⟨by decide, by decide, by decide⟩ (ci := 4) (T := TX6) rfl rfl (Nat.le_of_ble_eq_true rfl) iw_X6 qw_358 gv_7_9 dX6_copyFrom_74 rfl rfl) <| z_cons (ok_put ⟨by decide, by decide, by decide⟩ (ci := 4) (T := TX6) rfl rfl (Nat.le_of_ble_eq_true rfl) iw_X6 qw_358 tyX6_ok nmX6 rfl pv_7_9 rfl dX6_copyFrom_77 rfl rfl) <| zl_X6_copyFrom_1
theorem dX7_clear_0 : decode cX7_clear 0 = .ok (.aload_n 0, 1) := by decide +kernel
theorem dX7_clear_1 : decode cX7_clear 1 = .ok (.iconst 0, 1) := by decide +kernel
theorem dX7_clear_2 : decode cX7_clear 2 = .ok (.putfield 7, 3) := by decide +kernel
theorem dX7_clear_5 : decode cX7_clear 5 = .ok (.aload_n 0, 1) := by decide +kernel
theorem dX7_clear_6 : decode cX7_clear 6 = .ok (.iconst 0, 1) := by decide +kernel
theorem dX7_clear_7 : decode cX7_clear 7 = .ok (.putfield 13, 3) := by decide +kernel
theorem dX7_clear_10 : decode cX7_clear 10 = .ok (.aload_n 0, 1) := by decide +kernel
theorem dX7_clear_11 : decode cX7_clear 11 = .ok (.iconst 0, 1) := by decide +kernel
theorem dX7_clear_12 : decode cX7_clear 12 = .ok (.putfield 16, 3) := by decide +kernel
theorem dX7_clear_15 : decode cX7_clear 15 = .ok (.return_, 1) := by decide +kernel
set_option maxRecDepth 20000 in
theorem zl_X7_clear_0 : z_All z_tab cX7_clear 1 none RX7 pc_X7_clear 0 (k_X7_clear.drop 0) := z_cons (ok_aload_n dX7_clear_0 rfl rfl) <| z_cons (ok_iconst (by decide) dX7_clear_1 rfl rfl) <| z_cons (ok_put ⟨by decide, by decide, by decide⟩ (ci := 5) (T := TX7) rfl rfl (Nat.le_of_ble_eq_true rfl) iw_X7 qw_369 tyX7_ok nmX7 rfl pv_8_0 rfl dX7_clear_2 rfl rfl) <| z_cons (ok_aload_n dX7_clear_5 rfl rfl) <| z_cons (ok_iconst (by decide) dX7_clear_6 rfl rfl) <| z_cons (ok_put ⟨by decide, by decide, by decide⟩ (ci := 5) (T := TX7) rfl rfl (Nat.le_of_ble_eq_true rfl) iw_X7 qw_370 tyX7_ok nmX7 rfl pv_8_1 rfl dX7_clear_7 rfl rfl) <| z_cons (ok_aload_n dX7_clear_10 rfl rfl) <| z_cons (ok_iconst (by decide) dX7_clear_11 rfl rfl) <| z_cons (ok_put ⟨by decide, by decide, by decide⟩ (ci := 5) (T := TX7) rfl rfl (Nat.le_of_ble_eq_true rfl) iw_X7 qw_371 tyX7_ok nmX7 rfl pv_8_2 rfl dX7_clear_12 rfl rfl) <| z_cons (ok_ret rfl dX7_clear_15 rfl) <| z_nil
theorem dX7_add_0 : decode cX7_add 0 = .ok (.iload_n 1, 1) := by decide +kernel
theorem dX7_add_1 : decode cX7_add 1 = .ok (.ifCond .ne 16, 3) := by decide +kernel
theorem dX7_add_4 : decode cX7_add 4 = .ok (.aload_n 0, 1) := by decide +kernel
theorem dX7_add_5 : decode cX7_add 5 = .ok (.dup, 1) := by decide +kernel
theorem dX7_add_6 : decode cX7_add 6 = .ok (.getfield 7, 3) := by decide +kernel
theorem dX7_add_9 : decode cX7_add 9 = .ok (.iconst 1, 1) := by decide +kernel
theorem dX7_add_10 : decode cX7_add 10 = .ok (.iadd, 1) := by decide +kernel
theorem dX7_add_11 : decode cX7_add 11 = .ok (.putfield 7, 3) := by decide +kernel
theorem dX7_add_14 : decode cX7_add 14 = .ok (.goto 31, 3) := by decide +kernel
theorem dX7_add_17 : decode cX7_add 17 = .ok (.iload_n 1, 1) := by decide +kernel
theorem dX7_add_18 : decode cX7_add 18 = .ok (.iconst 1, 1) := by decide +kernel
theorem dX7_add_19 : decode cX7_add 19 = .ok (.if_icmp .ne 16, 3) := by decide +kernel
theorem dX7_add_22 : decode cX7_add 22 = .ok (.aload_n 0, 1) := by decide +kernel
theorem dX7_add_23 : decode cX7_add 23 = .ok (.dup, 1) := by decide +kernel
theorem dX7_add_24 : decode cX7_add 24 = .ok (.getfield 13, 3) := by decide +kernel
theorem dX7_add_27 : decode cX7_add 27 = .ok (.iconst 1, 1) := by decide +kernel
theorem dX7_add_28 : decode cX7_add 28 = .ok (.iadd, 1) := by decide +kernel
theorem dX7_add_29 : decode cX7_add 29 = .ok (.putfield 13, 3) := by decide +kernel
theorem dX7_add_32 : decode cX7_add 32 = .ok (.goto 13, 3) := by decide +kernel
theorem dX7_add_35 : decode cX7_add 35 = .ok (.aload_n 0, 1) := by decide +kernel
theorem dX7_add_36 : decode cX7_add 36 = .ok (.dup, 1) := by decide +kernel
theorem dX7_add_37 : decode cX7_add 37 = .ok (.getfield 16, 3) := by decide +kernel
theorem dX7_add_40 : decode cX7_add 40 = .ok (.iconst 1, 1) := by decide +kernel
theorem dX7_add_41 : decode cX7_add 41 = .ok (.iadd, 1) := by decide +kernel
theorem dX7_add_42 : decode cX7_add 42 = .ok (.putfield 16, 3) := by decide +kernel
theorem dX7_add_45 : decode cX7_add 45 = .ok (.return_, 1) := by decide +kernel
set_option maxRecDepth 20000 in
theorem zl_X7_add_0 : z_All z_tab cX7_add 2 none RX7 pc_X7_add 0 (k_X7_add.drop 0) := z_cons (ok_iload_n dX7_add_0 rfl rfl) <| z_cons (ok_if_ne (tgt := 17) (by decide) rfl dX7_add_1 rfl rfl) <| z_cons (ok_aload_n dX7_add_4 rfl rfl) <| z_cons (ok_dup dX7_add_5 rfl rfl) <| z_cons (ok_get ⟨by decide, by decide, by decide⟩ (ci := 5) (T := TX7) rfl rfl (Nat.le_of_ble_eq_true rfl) iw_X7 qw_369 gv_8_0 dX7_add_6 rfl rfl) <| z_cons (ok_iconst (by decide) dX7_add_9 rfl rfl) <| z_cons (ok_iadd dX7_add_10 rfl rfl) <| z_cons (ok_put ⟨by decide, by decide, by decide⟩ (ci := 5) (T := TX7) rfl rfl (Nat.le_of_ble_eq_true rfl) iw_X7 qw_369 tyX7_ok nmX7 rfl pv_8_0 rfl dX7_add_11 rfl rfl) <| z_cons (ok_goto (tgt := 45) (by decide) rfl dX7_add_14 rfl) <| z_cons (ok_iload_n dX7_add_17 rfl rfl) <| z_cons (ok_iconst (by decide) dX7_add_18 rfl rfl) <| z_cons (ok_icmp_ne (tgt := 35) (by decide) rfl dX7_add_19 rfl rfl) <| z_cons (ok_aload_n dX7_add_22 rfl rfl) <| z_cons (ok_dup dX7_add_23 rfl rfl) <| z_cons (ok_get ⟨by decide, by decide, by decide⟩ (ci := 5) (T := TX7) rfl rfl (Nat.le_of_ble_eq_true rfl) iw_X7 qw_370 gv_8_1 dX7_add_24 rfl rfl) <| z_cons (ok_iconst (by decide) dX7_add_27 rfl rfl) <| z_cons (ok_iadd dX7_add_28 rfl rfl) <| z_cons (ok_put ⟨by decide, by decide, by decide⟩ (ci := 5) (T := TX7) rfl rfl (Nat.le_of_ble_eq_true rfl) iw_X7 qw_370 tyX7_ok nmX7 rfl pv_8_1 rfl dX7_add_29 rfl rfl) <| z_cons (ok_goto (tgt := 45) (by decide) rfl dX7_add_32 rfl) <| z_cons (ok_aload_n dX7_add_35 rfl rfl) <| z_cons (ok_dup dX7_add_36 rfl rfl) <| z_cons (ok_get ⟨by decide, by decide, by decide⟩ (ci := 5) (T := TX7) rfl rfl (Nat.le_of_ble_eq_true rfl) iw_X7 qw_371 gv_8_2 dX7_add_37 rfl rfl) <| z_cons (ok_iconst (by decide) dX7_add_40 rfl rfl) <| z_cons (ok_iadd dX7_add_41 rfl rfl) <| z_cons (ok_put ⟨by decide, by decide, by decide⟩ (ci := 5) (T := TX7) rfl rfl (Nat.le_of_ble_eq_true rfl) iw_X7 qw_371 tyX7_ok nmX7 rfl pv_8_2 rfl dX7_add_42 rfl rfl) <| z_cons (ok_ret rfl dX7_add_45 rfl) <| z_nil
theorem dX7_sum_0 : decode cX7_sum 0 = .ok (.aload_n 0, 1) := by decide +kernel
theorem dX7_sum_1 : decode cX7_sum 1 = .ok (.getfield 7, 3) := by decide +kernel
theorem dX7_sum_4 : decode cX7_sum 4 = .ok (.aload_n 0, 1) := by decide +kernel
theorem dX7_sum_5 : decode cX7_sum 5 = .ok (.getfield 13, 3) := by decide +kernel
theorem dX7_sum_8 : decode cX7_sum 8 = .ok (.iadd, 1) := by decide +kernel
theorem dX7_sum_9 : decode cX7_sum 9 = .ok (.aload_n 0, 1) := by decide +kernel
theorem dX7_sum_10 : decode cX7_sum 10 = .ok (.getfield 16, 3) := by decide +kernel
theorem dX7_sum_13 : decode cX7_sum 13 = .ok (.iadd, 1) := by decide +kernel
theorem dX7_sum_14 : decode cX7_sum 14 = .ok (.ireturn, 1) := by decide +kernel
set_option maxRecDepth 20000 in
theorem zl_X7_sum_0 : z_All z_tab cX7_sum 1 (some .int) RX7 pc_X7_sum 0 (k_X7_sum.drop 0) := z_cons (ok_aload_n dX7_sum_0 rfl rfl) <| z_cons (ok_get ⟨by decide, by decide, by decide⟩ (ci := 5) (T := TX7) rfl rfl (Nat.le_of_ble_eq_true rfl) iw_X7 qw_369 gv_8_0 dX7_sum_1 rfl rfl) <| z_cons (ok_aload_n dX7_sum_4 rfl rfl) <| z_cons (ok_get ⟨by decide, by decide, by decide⟩ (ci := 5) (T := TX7) rfl rfl (Nat.le_of_ble_eq_true rfl) iw_X7 qw_370 gv_8_1 dX7_sum_5 rfl rfl) <| z_cons (ok_iadd dX7_sum_8 rfl rfl) <| z_cons (ok_aload_n dX7_sum_9 rfl rfl) <| z_cons (ok_get ⟨by decide, by decide, by decide⟩ (ci := 5) (T := TX7) rfl rfl (Nat.le_of_ble_eq_true rfl) iw_X7 qw_371 gv_8_2 dX7_sum_10 rfl rfl) <| z_cons (ok_iadd dX7_sum_13 rfl rfl) <| z_cons (ok_iret rfl dX7_sum_14 rfl) <| z_nil
theorem dX7_copyFrom_0 : decode cX7_copyFrom 0 = .ok (.aload_n 0, 1) := by decide +kernel
theorem dX7_copyFrom_1 : decode cX7_copyFrom 1 = .ok (.aload_n 1, 1) := by decide +kernel
theorem dX7_copyFrom_2 : decode cX7_copyFrom 2 = .ok (.getfield 7, 3) := by decide +kernel
theorem dX7_copyFrom_5 : decode cX7_copyFrom 5 = .ok (.putfield 7, 3) := by decide +kernel
theorem dX7_copyFrom_8 : decode cX7_copyFrom 8 = .ok (.aload_n 0, 1) := by decide +kernel
theorem dX7_copyFrom_9 : decode cX7_copyFrom 9 = .ok (.aload_n 1, 1) := by decide +kernel
theorem dX7_copyFrom_10 : decode cX7_copyFrom 10 = .ok (.getfield 13, 3) := by decide +kernel
theorem dX7_copyFrom_13 : decode cX7_copyFrom 13 = .ok (.putfield 13, 3) := by decide +kernel
theorem dX7_copyFrom_16 : decode cX7_copyFrom 16 = .ok (.aload_n 0, 1) := by decide +kernel
theorem dX7_copyFrom_17 : decode cX7_copyFrom 17 = .ok (.aload_n 1, 1) := by decide +kernel
theorem dX7_copyFrom_18 : decode cX7_copyFrom 18 = .ok (.getfield 16, 3) := by decide +kernel
theorem dX7_copyFrom_21 : decode cX7_copyFrom 21 = .ok (.putfield 16, 3) := by decide +kernel
theorem dX7_copyFrom_24 : decode cX7_copyFrom 24 = .ok (.return_, 1) := by decide +kernel
set_option maxRecDepth 20000 in
theorem zl_X7_copyFrom_0 : z_All z_tab cX7_copyFrom 2 none RX7 pc_X7_copyFrom 0 (k_X7_copyFrom.drop 0) := z_cons (ok_aload_n dX7_copyFrom_0 rfl rfl) <| z_cons (ok_aload_n dX7_copyFrom_1 rfl rfl) <| z_cons (ok_get ⟨by decide, by decide, by decide⟩ (ci := 5) (T := TX7) rfl rfl (Nat.le_of_ble_eq_true rfl) iw_X7 qw_369 gv_8_0 dX7_copyFrom_2 rfl rfl) <| z_cons (ok_put ⟨by decide, by decide, by decide⟩ (ci := 5) (T := TX7) rfl rfl (Nat.le_of_ble_eq_true rfl) iw_X7 qw_369 tyX7_ok nmX7 rfl pv_8_0 rfl dX7_copyFrom_5 rfl rfl) <| z_cons (ok_aload_n dX7_copyFrom_8 rfl rfl) <| z_cons (ok_aload_n dX7_copyFrom_9 rfl rfl) <| z_cons (ok_get ⟨by decide, by decide, by decide⟩ (ci := 5) (T := TX7) rfl rfl (Nat.le_of_ble_eq_true rfl) iw_X7 qw_370 gv_8_1 dX7_copyFrom_10 rfl rfl) <| z_cons (ok_put ⟨by decide, by decide, by decide⟩ (ci := 5) (T := TX7) rfl rfl (Nat.le_of_ble_eq_true rfl) iw_X7 qw_370 tyX7_ok nmX7 rfl pv_8_1 rfl dX7_copyFrom_13 rfl rfl) <| z_cons (ok_aload_n dX7_copyFrom_16 rfl rfl) <| z_cons (ok_aload_n dX7_copyFrom_17 rfl rfl) <| z_cons (ok_get ⟨by decide, by decide, by decide⟩ (ci := 5) (T := TX7) rfl rfl (Nat.le_of_ble_eq_true rfl) iw_X7 qw_371 gv_8_2 dX7_copyFrom_18 rfl rfl) <| z_cons (ok_put ⟨by decide, by decide, by decide⟩ (ci := 5) (T := TX7) rfl rfl (Nat.le_of_ble_eq_true rfl) iw_X7 qw_371 tyX7_ok nmX7 rfl pv_8_2 rfl dX7_copyFrom_21 rfl rfl) <| z_cons (ok_ret rfl dX7_copyFrom_24 rfl) <| z_nil
theorem dX8_tagAt_0 : decode cX8_tagAt 0 = .ok (.iload_n 1, 1) := by decide +kernel
theorem dX8_tagAt_1 : decode cX8_tagAt 1 = .ok (.ifCond .lt 21, 3) := by decide +kernel
theorem dX8_tagAt_4 : decode cX8_tagAt 4 = .ok (.iload_n 1, 1) := by decide +kernel
theorem dX8_tagAt_5 : decode cX8_tagAt 5 = .ok (.bipush 24, 2) := by decide +kernel
theorem dX8_tagAt_7 : decode cX8_tagAt 7 = .ok (.if_icmp .ge 15, 3) := by decide +kernel
theorem dX8_tagAt_10 : decode cX8_tagAt 10 = .ok (.aload_n 0, 1) := by decide +kernel
theorem dX8_tagAt_11 : decode cX8_tagAt 11 = .ok (.getfield 11, 3) := by decide +kernel
theorem dX8_tagAt_14 : decode cX8_tagAt 14 = .ok (.iload_n 1, 1) := by decide +kernel
theorem dX8_tagAt_15 : decode cX8_tagAt 15 = .ok (.aaload, 1) := by decide +kernel
theorem dX8_tagAt_16 : decode cX8_tagAt 16 = .ok (.getfield 47, 3) := by decide +kernel
theorem dX8_tagAt_19 : decode cX8_tagAt 19 = .ok (.ifCond .ne 7, 3) := by decide +kernel
theorem dX8_tagAt_22 : decode cX8_tagAt 22 = .ok (.aconst_null, 1) := by decide +kernel
theorem dX8_tagAt_23 : decode cX8_tagAt 23 = .ok (.goto 9, 3) := by decide +kernel
theorem dX8_tagAt_26 : decode cX8_tagAt 26 = .ok (.aload_n 0, 1) := by decide +kernel
theorem dX8_tagAt_27 : decode cX8_tagAt 27 = .ok (.getfield 11, 3) := by decide +kernel
theorem dX8_tagAt_30 : decode cX8_tagAt 30 = .ok (.iload_n 1, 1) := by decide +kernel
theorem dX8_tagAt_31 : decode cX8_tagAt 31 = .ok (.aaload, 1) := by decide +kernel
theorem dX8_tagAt_32 : decode cX8_tagAt 32 = .ok (.areturn, 1) := by decide +kernel
set_option maxRecDepth 20000 in
theorem zl_X8_tagAt_0 : z_All z_tab cX8_tagAt 2 (some (.object "TagReaders$Tag")) RX8 pc_X8_tagAt 0 (k_X8_tagAt.drop 0) := z_cons (ok_iload_n dX8_tagAt_0 rfl rfl) <| z_cons (ok_if_lt (tgt := 22) (by decide) rfl dX8_tagAt_1 rfl rfl) <| z_cons (ok_iload_n dX8_tagAt_4 rfl rfl) <| z_cons (ok_bipush (by decide) dX8_tagAt_5 rfl rfl) <| z_cons (ok_icmp_ge (tgt := 22) (by decide) rfl dX8_tagAt_7 rfl rfl) <| z_cons (ok_aload_n dX8_tagAt_10 rfl rfl) <| z_cons (ok_getr (k := 1) ⟨by decide, by decide, by decide⟩ (ci := 6) (T := TX8) rfl rfl (Nat.le_of_ble_eq_true rfl) iw_X8 qw_372 gr_9_1 (fun _ _ => by simp) (fun w i => List.mem_of_getElem? (i := 1) rfl) dX8_tagAt_11 rfl rfl) <| z_cons (ok_iload_n dX8_tagAt_14 rfl rfl) <| z_cons (ok_aald dX8_tagAt_15 rfl rfl) <| z_cons (ok_get ⟨by decide, by decide, by decide⟩ (ci := 4) (T := TX6) rfl rfl (Nat.le_of_ble_eq_true rfl) iw_X6 qw_373 gv_7_0 dX8_tagAt_16 rfl rfl) <| z_cons (ok_if_ne (tgt := 26) (by decide) rfl dX8_tagAt_19 rfl rfl) <| z_cons (ok_null dX8_tagAt_22 rfl rfl) <| z_cons (ok_goto (tgt := 32) (by decide) rfl dX8_tagAt_23 rfl) <| z_cons (ok_aload_n dX8_tagAt_26 rfl rfl) <| z_cons (ok_getr (k := 1) ⟨by decide, by decide, by decide⟩ (ci := 6) (T := TX8) rfl rfl (Nat.le_of_ble_eq_true rfl) iw_X8 qw_372 gr_9_1 (fun _ _ => by simp) (fun w i => List.mem_of_getElem? (i := 1) rfl) dX8_tagAt_27 rfl rfl) <| z_cons (ok_iload_n dX8_tagAt_30 rfl rfl) <| z_cons (ok_aald dX8_tagAt_31 rfl rfl) <| z_cons (ok_aret rfl dX8_tagAt_32 rfl) <| z_nil
theorem dX8_readerAt_0 : decode cX8_readerAt 0 = .ok (.iload_n 1, 1) := by decide +kernel
theorem dX8_readerAt_1 : decode cX8_readerAt 1 = .ok (.ifCond .lt 8, 3) := by decide +kernel
theorem dX8_readerAt_4 : decode cX8_readerAt 4 = .ok (.iload_n 1, 1) := by decide +kernel
theorem dX8_readerAt_5 : decode cX8_readerAt 5 = .ok (.iconst 4, 1) := by decide +kernel
theorem dX8_readerAt_6 : decode cX8_readerAt 6 = .ok (.if_icmp .lt 7, 3) := by decide +kernel
theorem dX8_readerAt_9 : decode cX8_readerAt 9 = .ok (.aconst_null, 1) := by decide +kernel
theorem dX8_readerAt_10 : decode cX8_readerAt 10 = .ok (.goto 9, 3) := by decide +kernel
theorem dX8_readerAt_13 : decode cX8_readerAt 13 = .ok (.aload_n 0, 1) := by decide +kernel
theorem dX8_readerAt_14 : decode cX8_readerAt 14 = .ok (.getfield 19, 3) := by decide +kernel
theorem dX8_readerAt_17 : decode cX8_readerAt 17 = .ok (.iload_n 1, 1) := by decide +kernel
theorem dX8_readerAt_18 : decode cX8_readerAt 18 = .ok (.aaload, 1) := by decide +kernel
theorem dX8_readerAt_19 : decode cX8_readerAt 19 = .ok (.areturn, 1) := by decide +kernel
set_option maxRecDepth 20000 in
theorem zl_X8_readerAt_0 : z_All z_tab cX8_readerAt 2 (some (.object "TagReaders$Reader")) RX8 pc_X8_readerAt 0 (k_X8_readerAt.drop 0) := z_cons (ok_iload_n dX8_readerAt_0 rfl rfl) <| z_cons (ok_if_lt (tgt := 9) (by decide) rfl dX8_readerAt_1 rfl rfl) <| z_cons (ok_iload_n dX8_readerAt_4 rfl rfl) <| z_cons (ok_iconst (by decide) dX8_readerAt_5 rfl rfl) <| z_cons (ok_icmp_lt (tgt := 13) (by decide) rfl dX8_readerAt_6 rfl rfl) <| z_cons (ok_null dX8_readerAt_9 rfl rfl) <| z_cons (ok_goto (tgt := 19) (by decide) rfl dX8_readerAt_10 rfl) <| z_cons (ok_aload_n dX8_readerAt_13 rfl rfl) <| z_cons (ok_getr (k := 2) ⟨by decide, by decide, by decide⟩ (ci := 6) (T := TX8) rfl rfl (Nat.le_of_ble_eq_true rfl) iw_X8 qw_374 gr_9_2 (fun _ _ => by simp) (fun w i => List.mem_of_getElem? (i := 2) rfl) dX8_readerAt_14 rfl rfl) <| z_cons (ok_iload_n dX8_readerAt_17 rfl rfl) <| z_cons (ok_aald dX8_readerAt_18 rfl rfl) <| z_cons (ok_aret rfl dX8_readerAt_19 rfl) <| z_nil
theorem dX8_write_0 : decode cX8_write 0 = .ok (.aload_n 0, 1) := by decide +kernel
theorem dX8_write_1 : decode cX8_write 1 = .ok (.getfield 26, 3) := by decide +kernel
theorem dX8_write_4 : decode cX8_write 4 = .ok (.aload_n 0, 1) := by decide +kernel
theorem dX8_write_5 : decode cX8_write 5 = .ok (.getfield 51, 3) := by decide +kernel
theorem dX8_write_8 : decode cX8_write 8 = .ok (.iload_n 1, 1) := by decide +kernel
theorem dX8_write_9 : decode cX8_write 9 = .ok (.iload_n 2, 1) := by decide +kernel
theorem dX8_write_10 : decode cX8_write 10 = .ok (.iload_n 3, 1) := by decide +kernel
theorem dX8_write_11 : decode cX8_write 11 = .ok (.invokevirtual 54, 3) := by decide +kernel
theorem dX8_write_14 : decode cX8_write 14 = .ok (.return_, 1) := by decide +kernel
set_option maxRecDepth 20000 in
theorem zl_X8_write_0 : z_All z_tab cX8_write 4 none RX8 pc_X8_write 0 (k_X8_write.drop 0) := z_cons (ok_aload_n dX8_write_0 rfl rfl) <| z_cons (ok_getr (k := 3) ⟨by decide, by decide, by decide⟩ (ci := 6) (T := TX8) rfl rfl (Nat.le_of_ble_eq_true rfl) iw_X8 qw_375 gr_9_3 (fun _ _ => by simp) (fun w i => List.mem_of_getElem? (i := 3) rfl) dX8_write_1 rfl rfl) <| z_cons (ok_aload_n dX8_write_4 rfl rfl) <| z_cons (ok_get ⟨by decide, by decide, by decide⟩ (ci := 6) (T := TX8) rfl rfl (Nat.le_of_ble_eq_true rfl) iw_X8 qw_376 gv_9_5 dX8_write_5 rfl rfl) <| z_cons (ok_iload_n dX8_write_8 rfl rfl) <| z_cons (ok_iload_n dX8_write_9 rfl rfl) <| z_cons (ok_iload_n dX8_write_10 rfl rfl) <| z_cons (ok_callv ⟨by decide, by decide, by decide⟩ (ci := 1) (C := RX1) (T := TX1) rfl go_2 (k := 12) (n := 4) qw_377 qw_378 ⟨by decide +kernel, by decide +kernel, by decide +kernel⟩ (Nat.le_of_ble_eq_true rfl) qw_379 qw_380 qw_381 dX8_write_11 rfl rfl) <| z_cons (ok_ret rfl dX8_write_14 rfl) <| z_nil
theorem dX8_draw_0 : decode cX8_draw 0 = .ok (.aload_n 0, 1) := by decide +kernel
theorem dX8_draw_1 : decode cX8_draw 1 = .ok (.ldc 58, 2) := by decide +kernel
theorem dX8_draw_3 : decode cX8_draw 3 = .ok (.aload_n 0, 1) := by decide +kernel
theorem dX8_draw_4 : decode cX8_draw 4 = .ok (.getfield 59, 3) := by decide +kernel
theorem dX8_draw_7 : decode cX8_draw 7 = .ok (.imul, 1) := by decide +kernel
theorem dX8_draw_8 : decode cX8_draw 8 = .ok (.ldc 62, 2) := by decide +kernel
theorem dX8_draw_10 : decode cX8_draw 10 = .ok (.iadd, 1) := by decide +kernel
theorem dX8_draw_11 : decode cX8_draw 11 = .ok (.putfield 59, 3) := by decide +kernel
theorem dX8_draw_14 : decode cX8_draw 14 = .ok (.iload_n 1, 1) := by decide +kernel
theorem dX8_draw_15 : decode cX8_draw 15 = .ok (.ifCond .gt 7, 3) := by decide +kernel
theorem dX8_draw_18 : decode cX8_draw 18 = .ok (.iconst 0, 1) := by decide +kernel
theorem dX8_draw_19 : decode cX8_draw 19 = .ok (.goto 12, 3) := by decide +kernel
theorem dX8_draw_22 : decode cX8_draw 22 = .ok (.aload_n 0, 1) := by decide +kernel
theorem dX8_draw_23 : decode cX8_draw 23 = .ok (.getfield 59, 3) := by decide +kernel
theorem dX8_draw_26 : decode cX8_draw 26 = .ok (.bipush 8, 2) := by decide +kernel
theorem dX8_draw_28 : decode cX8_draw 28 = .ok (.iushr, 1) := by decide +kernel
theorem dX8_draw_29 : decode cX8_draw 29 = .ok (.iload_n 1, 1) := by decide +kernel
theorem dX8_draw_30 : decode cX8_draw 30 = .ok (.irem, 1) := by decide +kernel
theorem dX8_draw_31 : decode cX8_draw 31 = .ok (.ireturn, 1) := by decide +kernel
set_option maxRecDepth 20000 in
theorem zl_X8_draw_0 : z_All z_tab cX8_draw 2 (some .int) RX8 pc_X8_draw 0 (k_X8_draw.drop 0) := z_cons (ok_aload_n dX8_draw_0 rfl rfl) <| z_cons (ok_ldc qw_382 dX8_draw_1 rfl rfl) <| z_cons (ok_aload_n dX8_draw_3 rfl rfl) <| z_cons (ok_get ⟨by decide, by decide, by decide⟩ (ci := 6) (T := TX8) rfl rfl (Nat.le_of_ble_eq_true rfl) iw_X8 qw_383 gv_9_6 dX8_draw_4 rfl rfl) <| z_cons (ok_imul dX8_draw_7 rfl rfl) <| z_cons (ok_ldc qw_384 dX8_draw_8 rfl rfl) <| z_cons (ok_iadd dX8_draw_10 rfl rfl) <| z_cons (ok_put ⟨by decide, by decide, by decide⟩ (ci := 6) (T := TX8) rfl rfl (Nat.le_of_ble_eq_true rfl) iw_X8 qw_383 tyX8_ok nmX8 rfl pv_9_6 rfl dX8_draw_11 rfl rfl) <| z_cons (ok_iload_n dX8_draw_14 rfl rfl) <| z_cons (ok_if_gt (tgt := 22) (by decide) rfl dX8_draw_15 rfl rfl) <| z_cons (ok_iconst (by decide) dX8_draw_18 rfl rfl) <| z_cons (ok_goto (tgt := 31) (by decide) rfl dX8_draw_19 rfl) <| z_cons (ok_aload_n dX8_draw_22 rfl rfl) <| z_cons (ok_get ⟨by decide, by decide, by decide⟩ (ci := 6) (T := TX8) rfl rfl (Nat.le_of_ble_eq_true rfl) iw_X8 qw_383 gv_9_6 dX8_draw_23 rfl rfl) <| z_cons (ok_bipush (by decide) dX8_draw_26 rfl rfl) <| z_cons (ok_iushr dX8_draw_28 rfl rfl) <| z_cons (ok_iload_n dX8_draw_29 rfl rfl) <| z_cons (ok_irem dX8_draw_30 rfl rfl) <| z_cons (ok_iret rfl dX8_draw_31 rfl) <| z_nil
theorem dX8_tellSpan_0 : decode cX8_tellSpan 0 = .ok (.iload_n 1, 1) := by decide +kernel
theorem dX8_tellSpan_1 : decode cX8_tellSpan 1 = .ok (.ifCond .ne 23, 3) := by decide +kernel
theorem dX8_tellSpan_4 : decode cX8_tellSpan 4 = .ok (.iload_n 2, 1) := by decide +kernel
theorem dX8_tellSpan_5 : decode cX8_tellSpan 5 = .ok (.iconst 1, 1) := by decide +kernel
theorem dX8_tellSpan_6 : decode cX8_tellSpan 6 = .ok (.if_icmp .lt 18, 3) := by decide +kernel
theorem dX8_tellSpan_9 : decode cX8_tellSpan 9 = .ok (.iload_n 2, 1) := by decide +kernel
theorem dX8_tellSpan_10 : decode cX8_tellSpan 10 = .ok (.sipush 200, 3) := by decide +kernel
theorem dX8_tellSpan_13 : decode cX8_tellSpan 13 = .ok (.if_icmp .gt 11, 3) := by decide +kernel
theorem dX8_tellSpan_16 : decode cX8_tellSpan 16 = .ok (.aload_n 0, 1) := by decide +kernel
theorem dX8_tellSpan_17 : decode cX8_tellSpan 17 = .ok (.iload_n 2, 1) := by decide +kernel
theorem dX8_tellSpan_18 : decode cX8_tellSpan 18 = .ok (.putfield 34, 3) := by decide +kernel
theorem dX8_tellSpan_21 : decode cX8_tellSpan 21 = .ok (.goto 30, 3) := by decide +kernel
theorem dX8_tellSpan_24 : decode cX8_tellSpan 24 = .ok (.iload_n 1, 1) := by decide +kernel
theorem dX8_tellSpan_25 : decode cX8_tellSpan 25 = .ok (.iconst 1, 1) := by decide +kernel
theorem dX8_tellSpan_26 : decode cX8_tellSpan 26 = .ok (.if_icmp .ne 23, 3) := by decide +kernel
theorem dX8_tellSpan_29 : decode cX8_tellSpan 29 = .ok (.iload_n 2, 1) := by decide +kernel
theorem dX8_tellSpan_30 : decode cX8_tellSpan 30 = .ok (.iconst 1, 1) := by decide +kernel
theorem dX8_tellSpan_31 : decode cX8_tellSpan 31 = .ok (.if_icmp .lt 18, 3) := by decide +kernel
theorem dX8_tellSpan_34 : decode cX8_tellSpan 34 = .ok (.iload_n 2, 1) := by decide +kernel
theorem dX8_tellSpan_35 : decode cX8_tellSpan 35 = .ok (.sipush 400, 3) := by decide +kernel
theorem dX8_tellSpan_38 : decode cX8_tellSpan 38 = .ok (.if_icmp .gt 11, 3) := by decide +kernel
theorem dX8_tellSpan_41 : decode cX8_tellSpan 41 = .ok (.aload_n 0, 1) := by decide +kernel
theorem dX8_tellSpan_42 : decode cX8_tellSpan 42 = .ok (.iload_n 2, 1) := by decide +kernel
theorem dX8_tellSpan_43 : decode cX8_tellSpan 43 = .ok (.putfield 38, 3) := by decide +kernel
theorem dX8_tellSpan_46 : decode cX8_tellSpan 46 = .ok (.goto 5, 3) := by decide +kernel
theorem dX8_tellSpan_49 : decode cX8_tellSpan 49 = .ok (.iconst 0, 1) := by decide +kernel
theorem dX8_tellSpan_50 : decode cX8_tellSpan 50 = .ok (.ireturn, 1) := by decide +kernel
theorem dX8_tellSpan_51 : decode cX8_tellSpan 51 = .ok (.iconst 1, 1) := by decide +kernel
theorem dX8_tellSpan_52 : decode cX8_tellSpan 52 = .ok (.ireturn, 1) := by decide +kernel
set_option maxRecDepth 20000 in
theorem zl_X8_tellSpan_0 : z_All z_tab cX8_tellSpan 3 (some .boolean) RX8 pc_X8_tellSpan 0 (k_X8_tellSpan.drop 0) := z_cons (ok_iload_n dX8_tellSpan_0 rfl rfl) <| z_cons (ok_if_ne (tgt := 24) (by decide) rfl dX8_tellSpan_1 rfl rfl) <| z_cons (ok_iload_n dX8_tellSpan_4 rfl rfl) <| z_cons (ok_iconst (by decide) dX8_tellSpan_5 rfl rfl) <| z_cons (ok_icmp_lt (tgt := 24) (by decide) rfl dX8_tellSpan_6 rfl rfl) <| z_cons (ok_iload_n dX8_tellSpan_9 rfl rfl) <| z_cons (ok_sipush (by decide) dX8_tellSpan_10 rfl rfl) <| z_cons (ok_icmp_gt (tgt := 24) (by decide) rfl dX8_tellSpan_13 rfl rfl) <| z_cons (ok_aload_n dX8_tellSpan_16 rfl rfl) <| z_cons (ok_iload_n dX8_tellSpan_17 rfl rfl) <| z_cons (ok_put ⟨by decide, by decide, by decide⟩ (ci := 6) (T := TX8) rfl rfl (Nat.le_of_ble_eq_true rfl) iw_X8 qw_385 tyX8_ok nmX8 rfl pv_9_7 rfl dX8_tellSpan_18 rfl rfl) <| z_cons (ok_goto (tgt := 51) (by decide) rfl dX8_tellSpan_21 rfl) <| z_cons (ok_iload_n dX8_tellSpan_24 rfl rfl) <| z_cons (ok_iconst (by decide) dX8_tellSpan_25 rfl rfl) <| z_cons (ok_icmp_ne (tgt := 49) (by decide) rfl dX8_tellSpan_26 rfl rfl) <| z_cons (ok_iload_n dX8_tellSpan_29 rfl rfl) <| z_cons (ok_iconst (by decide) dX8_tellSpan_30 rfl rfl) <| z_cons (ok_icmp_lt (tgt := 49) (by decide) rfl dX8_tellSpan_31 rfl rfl) <| z_cons (ok_iload_n dX8_tellSpan_34 rfl rfl) <| z_cons (ok_sipush (by decide) dX8_tellSpan_35 rfl rfl) <| z_cons (ok_icmp_gt (tgt := 49) (by decide) rfl dX8_tellSpan_38 rfl rfl) <| z_cons (ok_aload_n dX8_tellSpan_41 rfl rfl) <| z_cons (ok_iload_n dX8_tellSpan_42 rfl rfl) <| z_cons (ok_put ⟨by decide, by decide, by decide⟩ (ci := 6) (T := TX8) rfl rfl (Nat.le_of_ble_eq_true rfl) iw_X8 qw_386 tyX8_ok nmX8 rfl pv_9_8 rfl dX8_tellSpan_43 rfl rfl) <| z_cons (ok_goto (tgt := 51) (by decide) rfl dX8_tellSpan_46 rfl) <| z_cons (ok_iconst (by decide) dX8_tellSpan_49 rfl rfl) <| z_cons (ok_zret rfl dX8_tellSpan_50 rfl) <| z_cons (ok_iconst (by decide) dX8_tellSpan_51 rfl rfl) <| z_cons (ok_zret rfl dX8_tellSpan_52 rfl) <| z_nil
theorem dX8_come_0 : decode cX8_come 0 = .ok (.iload_n 1, 1) := by decide +kernel
theorem dX8_come_1 : decode cX8_come 1 = .ok (.ifCond .lt 28, 3) := by decide +kernel
theorem dX8_come_4 : decode cX8_come 4 = .ok (.iload_n 1, 1) := by decide +kernel
theorem dX8_come_5 : decode cX8_come 5 = .ok (.bipush 24, 2) := by decide +kernel
theorem dX8_come_7 : decode cX8_come 7 = .ok (.if_icmp .ge 22, 3) := by decide +kernel
theorem dX8_come_10 : decode cX8_come 10 = .ok (.aload_n 0, 1) := by decide +kernel
theorem dX8_come_11 : decode cX8_come 11 = .ok (.getfield 11, 3) := by decide +kernel
theorem dX8_come_14 : decode cX8_come 14 = .ok (.iload_n 1, 1) := by decide +kernel
theorem dX8_come_15 : decode cX8_come 15 = .ok (.aaload, 1) := by decide +kernel
theorem dX8_come_16 : decode cX8_come 16 = .ok (.getfield 47, 3) := by decide +kernel
theorem dX8_come_19 : decode cX8_come 19 = .ok (.ifCond .ne 10, 3) := by decide +kernel
theorem dX8_come_22 : decode cX8_come 22 = .ok (.iload_n 3, 1) := by decide +kernel
theorem dX8_come_23 : decode cX8_come 23 = .ok (.invokestatic 63, 3) := by decide +kernel
theorem dX8_come_26 : decode cX8_come 26 = .ok (.ifCond .ne 5, 3) := by decide +kernel
theorem dX8_come_29 : decode cX8_come 29 = .ok (.iconst 0, 1) := by decide +kernel
theorem dX8_come_30 : decode cX8_come 30 = .ok (.ireturn, 1) := by decide +kernel
theorem dX8_come_31 : decode cX8_come 31 = .ok (.iload_n 2, 1) := by decide +kernel
theorem dX8_come_32 : decode cX8_come 32 = .ok (.bipush 16, 2) := by decide +kernel
theorem dX8_come_34 : decode cX8_come 34 = .ok (.iushr, 1) := by decide +kernel
theorem dX8_come_35 : decode cX8_come 35 = .ok (.istore 4, 2) := by decide +kernel
theorem dX8_come_37 : decode cX8_come 37 = .ok (.iconst 0, 1) := by decide +kernel
theorem dX8_come_38 : decode cX8_come 38 = .ok (.istore 5, 2) := by decide +kernel
theorem dX8_come_40 : decode cX8_come 40 = .ok (.iload 5, 2) := by decide +kernel
theorem dX8_come_42 : decode cX8_come 42 = .ok (.bipush 24, 2) := by decide +kernel
theorem dX8_come_44 : decode cX8_come 44 = .ok (.if_icmp .ge 39, 3) := by decide +kernel
theorem dX8_come_47 : decode cX8_come 47 = .ok (.aload_n 0, 1) := by decide +kernel
theorem dX8_come_48 : decode cX8_come 48 = .ok (.getfield 11, 3) := by decide +kernel
theorem dX8_come_51 : decode cX8_come 51 = .ok (.iload 5, 2) := by decide +kernel
theorem dX8_come_53 : decode cX8_come 53 = .ok (.aaload, 1) := by decide +kernel
theorem dX8_come_54 : decode cX8_come 54 = .ok (.getfield 47, 3) := by decide +kernel
theorem dX8_come_57 : decode cX8_come 57 = .ok (.ifCond .eq 20, 3) := by decide +kernel
theorem dX8_come_60 : decode cX8_come 60 = .ok (.aload_n 0, 1) := by decide +kernel
theorem dX8_come_61 : decode cX8_come 61 = .ok (.getfield 11, 3) := by decide +kernel
theorem dX8_come_64 : decode cX8_come 64 = .ok (.iload 5, 2) := by decide +kernel
theorem dX8_come_66 : decode cX8_come 66 = .ok (.aaload, 1) := by decide +kernel
theorem dX8_come_67 : decode cX8_come 67 = .ok (.invokevirtual 67, 3) := by decide +kernel
theorem dX8_come_70 : decode cX8_come 70 = .ok (.iload 4, 2) := by decide +kernel
theorem dX8_come_72 : decode cX8_come 72 = .ok (.if_icmp .ne 5, 3) := by decide +kernel
theorem dX8_come_75 : decode cX8_come 75 = .ok (.iconst 0, 1) := by decide +kernel
theorem dX8_come_76 : decode cX8_come 76 = .ok (.ireturn, 1) := by decide +kernel
theorem dX8_come_77 : decode cX8_come 77 = .ok (.iinc 5 1, 3) := by decide +kernel
theorem dX8_come_80 : decode cX8_come 80 = .ok (.goto (-40), 3) := by decide +kernel
theorem dX8_come_83 : decode cX8_come 83 = .ok (.aload_n 0, 1) := by decide +kernel
theorem dX8_come_84 : decode cX8_come 84 = .ok (.getfield 11, 3) := by decide +kernel
theorem dX8_come_87 : decode cX8_come 87 = .ok (.iload_n 1, 1) := by decide +kernel
theorem dX8_come_88 : decode cX8_come 88 = .ok (.aaload, 1) := by decide +kernel
theorem dX8_come_89 : decode cX8_come 89 = .ok (.iload_n 2, 1) := by decide +kernel
theorem dX8_come_90 : decode cX8_come 90 = .ok (.iload_n 3, 1) := by decide +kernel
theorem dX8_come_91 : decode cX8_come 91 = .ok (.invokevirtual 71, 3) := by decide +kernel
theorem dX8_come_94 : decode cX8_come 94 = .ok (.aload_n 0, 1) := by decide +kernel
theorem dX8_come_95 : decode cX8_come 95 = .ok (.aload_n 0, 1) := by decide +kernel
theorem dX8_come_96 : decode cX8_come 96 = .ok (.getfield 11, 3) := by decide +kernel
theorem dX8_come_99 : decode cX8_come 99 = .ok (.iload_n 1, 1) := by decide +kernel
theorem dX8_come_100 : decode cX8_come 100 = .ok (.aaload, 1) := by decide +kernel
theorem dX8_come_101 : decode cX8_come 101 = .ok (.invokevirtual 75, 3) := by decide +kernel
theorem dX8_come_104 : decode cX8_come 104 = .ok (.iconst 1, 1) := by decide +kernel
theorem dX8_come_105 : decode cX8_come 105 = .ok (.ireturn, 1) := by decide +kernel
set_option maxRecDepth 20000 in
theorem zl_X8_come_1 : z_All z_tab cX8_come 6 (some .boolean) RX8 pc_X8_come 40 (k_X8_come.drop 40) := z_cons (ok_iinc (by decide) (Nat.le_of_ble_eq_true rfl) dX8_come_77 rfl rfl) <| z_cons (ok_goto (tgt := 40) (by decide) rfl dX8_come_80 rfl) <| z_cons (ok_aload_n dX8_come_83 rfl rfl) <| z_cons (ok_getr (k := 1) ⟨by decide, by decide, by decide⟩ (ci := 6) (T := TX8) rfl rfl (Nat.le_of_ble_eq_true rfl) iw_X8 qw_372 gr_9_1 (fun _ _ => by simp) (fun w i => List.mem_of_getElem? (i := 1) rfl) dX8_come_84 rfl rfl) <| z_cons (ok_iload_n dX8_come_87 rfl rfl) <| z_cons (ok_aald dX8_come_88 rfl rfl) <| z_cons (ok_iload_n dX8_come_89 rfl rfl) <| z_cons (ok_iload_n dX8_come_90 rfl rfl) <| z_cons (ok_callv ⟨by decide, by decide, by decide⟩ (ci := 4) (C := RX6) (T := TX6) rfl go_7 (k := 76) (n := 2) qw_390 qw_203 ⟨by decide +kernel, by decide +kernel, by decide +kernel⟩ (Nat.le_of_ble_eq_true rfl) qw_391 qw_392 qw_393 dX8_come_91 rfl rfl) <| z_cons (ok_aload_n dX8_come_94 rfl rfl) <| z_cons (ok_aload_n dX8_come_95 rfl rfl) <| z_cons (ok_getr (k := 1) ⟨by decide, by decide, by decide⟩ (ci := 6) (T := TX8) rfl rfl (Nat.le_of_ble_eq_true rfl) iw_X8 qw_372 gr_9_1 (fun _ _ => by simp) (fun w i => List.mem_of_getElem? (i := 1) rfl) dX8_come_96 rfl rfl) <| z_cons (ok_iload_n dX8_come_99 rfl rfl) <| z_cons (ok_aald dX8_come_100 rfl rfl) <| z_cons (ok_callv ⟨by decide, by decide, by decide⟩ (ci := 6) (C := RX8) (T := TX8) rfl go_9 (k := 99) (n := 1) qw_394 qw_124 ⟨by decide +kernel, by decide +kernel, by decide +kernel⟩ (Nat.le_of_ble_eq_true rfl) qw_395 qw_396 qw_397 dX8_come_101 rfl rfl) <| z_cons (ok_iconst (by decide) dX8_come_104 rfl rfl) <| z_cons (ok_zret rfl dX8_come_105 rfl) <| z_nil
set_option maxRecDepth 20000 in
theorem zl_X8_come_0 : z_All z_tab cX8_come 6 (some .boolean) RX8 pc_X8_come 0 (k_X8_come.drop 0) := z_cons (ok_iload_n dX8_come_0 rfl rfl) <| z_cons (ok_if_lt (tgt := 29) (by decide) rfl dX8_come_1 rfl rfl) <| z_cons (ok_iload_n dX8_come_4 rfl rfl) <| z_cons (ok_bipush (by decide) dX8_come_5 rfl rfl) <| z_cons (ok_icmp_ge (tgt := 29) (by decide) rfl dX8_come_7 rfl rfl) <| z_cons (ok_aload_n dX8_come_10 rfl rfl) <| z_cons (ok_getr (k := 1) ⟨by decide, by decide, by decide⟩ (ci := 6) (T := TX8) rfl rfl (Nat.le_of_ble_eq_true rfl) iw_X8 qw_372 gr_9_1 (fun _ _ => by simp) (fun w i => List.mem_of_getElem? (i := 1) rfl) dX8_come_11 rfl rfl) <| z_cons (ok_iload_n dX8_come_14 rfl rfl) <| z_cons (ok_aald dX8_come_15 rfl rfl) <| z_cons (ok_get ⟨by decide, by decide, by decide⟩ (ci := 4) (T := TX6) rfl rfl (Nat.le_of_ble_eq_true rfl) iw_X6 qw_373 gv_7_0 dX8_come_16 rfl rfl) <| z_cons (ok_if_ne (tgt := 29) (by decide) rfl dX8_come_19 rfl rfl) <| z_cons (ok_iload_n dX8_come_22 rfl rfl) <| z_cons (ok_callN (k := 159) (n := 1) qw_387 qw_22 ⟨by decide +kernel, by decide +kernel, by decide +kernel⟩ (Nat.le_of_ble_eq_true rfl) (host := "TagReaders") (by decide +kernel) qw_388 dX8_come_23 rfl rfl) <| z_cons (ok_if_ne (tgt := 31) (by decide) rfl dX8_come_26 rfl rfl) <| z_cons (ok_iconst (by decide) dX8_come_29 rfl rfl) <| z_cons (ok_zret rfl dX8_come_30 rfl) <| z_cons (ok_iload_n dX8_come_31 rfl rfl) <| z_cons (ok_bipush (by decide) dX8_come_32 rfl rfl) <| z_cons (ok_iushr dX8_come_34 rfl rfl) <| z_cons (ok_istore (Nat.le_of_ble_eq_true rfl) dX8_come_35 rfl rfl) <| z_cons (ok_iconst (by decide) dX8_come_37 rfl rfl) <| z_cons (ok_istore (Nat.le_of_ble_eq_true rfl) dX8_come_38 rfl rfl) <| z_cons (ok_iload dX8_come_40 rfl rfl) <| z_cons (ok_bipush (by decide) dX8_come_42 rfl rfl) <| z_cons (ok_icmp_ge (tgt := 83) (by decide) rfl dX8_come_44 rfl rfl) <| z_cons (ok_aload_n dX8_come_47 rfl rfl) <| z_cons (ok_getr (k := 1) ⟨by decide, by decide, by decide⟩ (ci := 6) (T := TX8) rfl rfl (Nat.le_of_ble_eq_true rfl) iw_X8 qw_372 gr_9_1 (fun _ _ => by simp) (fun w i => List.mem_of_getElem? (i := 1) rfl) dX8_come_48 rfl rfl) <| z_cons (ok_iload dX8_come_51 rfl rfl) <| z_cons (ok_aald dX8_come_53 rfl rfl) <| z_cons (ok_get ⟨by decide, by decide, by decide⟩ (ci := 4) (T := TX6) rfl rfl (Nat.le_of_ble_eq_true rfl) iw_X6 qw_373 gv_7_0 dX8_come_54 rfl rfl) <| z_cons (ok_if_eq (tgt := 77) (by decide) rfl dX8_come_57 rfl rfl) <| z_cons (ok_aload_n dX8_come_60 rfl rfl) <| z_cons (ok_getr (k := 1) ⟨by decide, by decide, by decide⟩ (ci := 6) (T := TX8) rfl rfl (Nat.le_of_ble_eq_true rfl) iw_X8 qw_372 gr_9_1 (fun _ _ => by simp) (fun w i => List.mem_of_getElem? (i := 1) rfl) dX8_come_61 rfl rfl) <| z_cons (ok_iload dX8_come_64 rfl rfl) <| z_cons (ok_aald dX8_come_66 rfl rfl) <| z_cons (ok_callv ⟨by decide, by decide, by decide⟩ (ci := 4) (C := RX6) (T := TX6) rfl go_7 (k := 79) (n := 0) qw_202 qw_203 ⟨by decide +kernel, by decide +kernel, by decide +kernel⟩ (Nat.le_of_ble_eq_true rfl) qw_389 qw_205 qw_206 dX8_come_67 rfl rfl) <| z_cons (ok_iload dX8_come_70 rfl rfl) <| z_cons (ok_icmp_ne (tgt := 77) (by decide) rfl dX8_come_72 rfl rfl) <| z_cons (ok_iconst (by decide) dX8_come_75 rfl rfl) <| z_cons (ok_zret rfl dX8_come_76 rfl) <| zl_X8_come_1
