theorem dX10_laysCrowds_0 : decode cX10_laysCrowds 0 = .ok (.iconst 0, 1) := by decide +kernel
theorem dX10_laysCrowds_1 : decode cX10_laysCrowds 1 = .ok (.istore_n 1, 1) := by decide +kernel
theorem dX10_laysCrowds_2 : decode cX10_laysCrowds 2 = .ok (.iload_n 1, 1) := by decide +kernel
theorem dX10_laysCrowds_3 : decode cX10_laysCrowds 3 = .ok (.bipush 16, 2) := by decide +kernel
theorem dX10_laysCrowds_5 : decode cX10_laysCrowds 5 = .ok (.if_icmp .gt 94, 3) := by decide +kernel
theorem dX10_laysCrowds_8 : decode cX10_laysCrowds 8 = .ok (.iconst 0, 1) := by decide +kernel
theorem dX10_laysCrowds_9 : decode cX10_laysCrowds 9 = .ok (.istore_n 2, 1) := by decide +kernel
theorem dX10_laysCrowds_10 : decode cX10_laysCrowds 10 = .ok (.iload_n 2, 1) := by decide +kernel
theorem dX10_laysCrowds_11 : decode cX10_laysCrowds 11 = .ok (.bipush 12, 2) := by decide +kernel
theorem dX10_laysCrowds_13 : decode cX10_laysCrowds 13 = .ok (.if_icmp .gt 80, 3) := by decide +kernel
theorem dX10_laysCrowds_16 : decode cX10_laysCrowds 16 = .ok (.iload_n 1, 1) := by decide +kernel
theorem dX10_laysCrowds_17 : decode cX10_laysCrowds 17 = .ok (.ifCond .ne 11, 3) := by decide +kernel
theorem dX10_laysCrowds_20 : decode cX10_laysCrowds 20 = .ok (.iload_n 2, 1) := by decide +kernel
theorem dX10_laysCrowds_21 : decode cX10_laysCrowds 21 = .ok (.ifCond .ne 7, 3) := by decide +kernel
theorem dX10_laysCrowds_24 : decode cX10_laysCrowds 24 = .ok (.lconst 1, 1) := by decide +kernel
theorem dX10_laysCrowds_25 : decode cX10_laysCrowds 25 = .ok (.goto 4, 3) := by decide +kernel
theorem dX10_laysCrowds_28 : decode cX10_laysCrowds 28 = .ok (.lconst 0, 1) := by decide +kernel
theorem dX10_laysCrowds_29 : decode cX10_laysCrowds 29 = .ok (.lstore_n 3, 1) := by decide +kernel
theorem dX10_laysCrowds_30 : decode cX10_laysCrowds 30 = .ok (.iconst 2, 1) := by decide +kernel
theorem dX10_laysCrowds_31 : decode cX10_laysCrowds 31 = .ok (.istore 5, 2) := by decide +kernel
theorem dX10_laysCrowds_33 : decode cX10_laysCrowds 33 = .ok (.iload 5, 2) := by decide +kernel
theorem dX10_laysCrowds_35 : decode cX10_laysCrowds 35 = .ok (.iload_n 2, 1) := by decide +kernel
theorem dX10_laysCrowds_36 : decode cX10_laysCrowds 36 = .ok (.if_icmp .gt 39, 3) := by decide +kernel
theorem dX10_laysCrowds_39 : decode cX10_laysCrowds 39 = .ok (.iload_n 1, 1) := by decide +kernel
theorem dX10_laysCrowds_40 : decode cX10_laysCrowds 40 = .ok (.ifCond .le 35, 3) := by decide +kernel
theorem dX10_laysCrowds_43 : decode cX10_laysCrowds 43 = .ok (.lload_n 3, 1) := by decide +kernel
theorem dX10_laysCrowds_44 : decode cX10_laysCrowds 44 = .ok (.iload_n 2, 1) := by decide +kernel
theorem dX10_laysCrowds_45 : decode cX10_laysCrowds 45 = .ok (.iload 5, 2) := by decide +kernel
theorem dX10_laysCrowds_47 : decode cX10_laysCrowds 47 = .ok (.invokestatic 223, 3) := by decide +kernel
theorem dX10_laysCrowds_50 : decode cX10_laysCrowds 50 = .ok (.aload_n 0, 1) := by decide +kernel
theorem dX10_laysCrowds_51 : decode cX10_laysCrowds 51 = .ok (.getfield 24, 3) := by decide +kernel
theorem dX10_laysCrowds_54 : decode cX10_laysCrowds 54 = .ok (.bipush 13, 2) := by decide +kernel
theorem dX10_laysCrowds_56 : decode cX10_laysCrowds 56 = .ok (.iload_n 1, 1) := by decide +kernel
theorem dX10_laysCrowds_57 : decode cX10_laysCrowds 57 = .ok (.iconst 1, 1) := by decide +kernel
theorem dX10_laysCrowds_58 : decode cX10_laysCrowds 58 = .ok (.isub, 1) := by decide +kernel
theorem dX10_laysCrowds_59 : decode cX10_laysCrowds 59 = .ok (.imul, 1) := by decide +kernel
theorem dX10_laysCrowds_60 : decode cX10_laysCrowds 60 = .ok (.iload_n 2, 1) := by decide +kernel
theorem dX10_laysCrowds_61 : decode cX10_laysCrowds 61 = .ok (.iadd, 1) := by decide +kernel
theorem dX10_laysCrowds_62 : decode cX10_laysCrowds 62 = .ok (.iload 5, 2) := by decide +kernel
theorem dX10_laysCrowds_64 : decode cX10_laysCrowds 64 = .ok (.isub, 1) := by decide +kernel
theorem dX10_laysCrowds_65 : decode cX10_laysCrowds 65 = .ok (.laload, 1) := by decide +kernel
theorem dX10_laysCrowds_66 : decode cX10_laysCrowds 66 = .ok (.lmul, 1) := by decide +kernel
theorem dX10_laysCrowds_67 : decode cX10_laysCrowds 67 = .ok (.ladd, 1) := by decide +kernel
theorem dX10_laysCrowds_68 : decode cX10_laysCrowds 68 = .ok (.lstore_n 3, 1) := by decide +kernel
theorem dX10_laysCrowds_69 : decode cX10_laysCrowds 69 = .ok (.iinc 5 1, 3) := by decide +kernel
theorem dX10_laysCrowds_72 : decode cX10_laysCrowds 72 = .ok (.goto (-39), 3) := by decide +kernel
theorem dX10_laysCrowds_75 : decode cX10_laysCrowds 75 = .ok (.aload_n 0, 1) := by decide +kernel
theorem dX10_laysCrowds_76 : decode cX10_laysCrowds 76 = .ok (.getfield 24, 3) := by decide +kernel
theorem dX10_laysCrowds_79 : decode cX10_laysCrowds 79 = .ok (.bipush 13, 2) := by decide +kernel
theorem dX10_laysCrowds_81 : decode cX10_laysCrowds 81 = .ok (.iload_n 1, 1) := by decide +kernel
theorem dX10_laysCrowds_82 : decode cX10_laysCrowds 82 = .ok (.imul, 1) := by decide +kernel
theorem dX10_laysCrowds_83 : decode cX10_laysCrowds 83 = .ok (.iload_n 2, 1) := by decide +kernel
theorem dX10_laysCrowds_84 : decode cX10_laysCrowds 84 = .ok (.iadd, 1) := by decide +kernel
theorem dX10_laysCrowds_85 : decode cX10_laysCrowds 85 = .ok (.lload_n 3, 1) := by decide +kernel
theorem dX10_laysCrowds_86 : decode cX10_laysCrowds 86 = .ok (.lastore, 1) := by decide +kernel
theorem dX10_laysCrowds_87 : decode cX10_laysCrowds 87 = .ok (.iinc 2 1, 3) := by decide +kernel
theorem dX10_laysCrowds_90 : decode cX10_laysCrowds 90 = .ok (.goto (-80), 3) := by decide +kernel
theorem dX10_laysCrowds_93 : decode cX10_laysCrowds 93 = .ok (.iinc 1 1, 3) := by decide +kernel
theorem dX10_laysCrowds_96 : decode cX10_laysCrowds 96 = .ok (.goto (-94), 3) := by decide +kernel
theorem dX10_laysCrowds_99 : decode cX10_laysCrowds 99 = .ok (.return_, 1) := by decide +kernel
set_option maxRecDepth 20000 in
theorem zl_X10_laysCrowds_1 : z_All z_tab cX10_laysCrowds 6 none RX10 pc_X10_laysCrowds 40 (k_X10_laysCrowds.drop 40) := z_cons (ok_lald dX10_laysCrowds_65 rfl rfl) <| z_cons (ok_lmul dX10_laysCrowds_66 rfl rfl) <| z_cons (ok_ladd dX10_laysCrowds_67 rfl rfl) <| z_cons (ok_lstore_n (Nat.le_of_ble_eq_true rfl) dX10_laysCrowds_68 rfl rfl) <| z_cons (ok_iinc (by decide) (Nat.le_of_ble_eq_true rfl) dX10_laysCrowds_69 rfl rfl) <| z_cons (ok_goto (tgt := 33) (by decide) rfl dX10_laysCrowds_72 rfl) <| z_cons (ok_aload_n dX10_laysCrowds_75 rfl rfl) <| z_cons (ok_getr (k := 7) ⟨by decide, by decide, by decide⟩ (ci := 8) (T := TX10) rfl rfl (Nat.le_of_ble_eq_true rfl) iw_X10 qw_841 gr_11_7 (fun _ _ => by simp) (fun w i => List.mem_of_getElem? (i := 4) rfl) dX10_laysCrowds_76 rfl rfl) <| z_cons (ok_bipush (by decide) dX10_laysCrowds_79 rfl rfl) <| z_cons (ok_iload_n dX10_laysCrowds_81 rfl rfl) <| z_cons (ok_imul dX10_laysCrowds_82 rfl rfl) <| z_cons (ok_iload_n dX10_laysCrowds_83 rfl rfl) <| z_cons (ok_iadd dX10_laysCrowds_84 rfl rfl) <| z_cons (ok_lload_n dX10_laysCrowds_85 rfl rfl) <| z_cons (ok_last dX10_laysCrowds_86 rfl rfl) <| z_cons (ok_iinc (by decide) (Nat.le_of_ble_eq_true rfl) dX10_laysCrowds_87 rfl rfl) <| z_cons (ok_goto (tgt := 10) (by decide) rfl dX10_laysCrowds_90 rfl) <| z_cons (ok_iinc (by decide) (Nat.le_of_ble_eq_true rfl) dX10_laysCrowds_93 rfl rfl) <| z_cons (ok_goto (tgt := 2) (by decide) rfl dX10_laysCrowds_96 rfl) <| z_cons (ok_ret rfl dX10_laysCrowds_99 rfl) <| z_nil
set_option maxRecDepth 20000 in
theorem zl_X10_laysCrowds_0 : z_All z_tab cX10_laysCrowds 6 none RX10 pc_X10_laysCrowds 0 (k_X10_laysCrowds.drop 0) := z_cons (ok_iconst (by decide) dX10_laysCrowds_0 rfl rfl) <| z_cons (ok_istore_n (Nat.le_of_ble_eq_true rfl) dX10_laysCrowds_1 rfl rfl) <| z_cons (ok_iload_n dX10_laysCrowds_2 rfl rfl) <| z_cons (ok_bipush (by decide) dX10_laysCrowds_3 rfl rfl) <| z_cons (ok_icmp_gt (tgt := 99) (by decide) rfl dX10_laysCrowds_5 rfl rfl) <| z_cons (ok_iconst (by decide) dX10_laysCrowds_8 rfl rfl) <| z_cons (ok_istore_n (Nat.le_of_ble_eq_true rfl) dX10_laysCrowds_9 rfl rfl) <| z_cons (ok_iload_n dX10_laysCrowds_10 rfl rfl) <| z_cons (ok_bipush (by decide) dX10_laysCrowds_11 rfl rfl) <| z_cons (ok_icmp_gt (tgt := 93) (by decide) rfl dX10_laysCrowds_13 rfl rfl) <| z_cons (ok_iload_n dX10_laysCrowds_16 rfl rfl) <| z_cons (ok_if_ne (tgt := 28) (by decide) rfl dX10_laysCrowds_17 rfl rfl) <| z_cons (ok_iload_n dX10_laysCrowds_20 rfl rfl) <| z_cons (ok_if_ne (tgt := 28) (by decide) rfl dX10_laysCrowds_21 rfl rfl) <| z_cons (ok_lconst (by decide) dX10_laysCrowds_24 rfl rfl) <| z_cons (ok_goto (tgt := 29) (by decide) rfl dX10_laysCrowds_25 rfl) <| z_cons (ok_lconst (by decide) dX10_laysCrowds_28 rfl rfl) <| z_cons (ok_lstore_n (Nat.le_of_ble_eq_true rfl) dX10_laysCrowds_29 rfl rfl) <| z_cons (ok_iconst (by decide) dX10_laysCrowds_30 rfl rfl) <| z_cons (ok_istore (Nat.le_of_ble_eq_true rfl) dX10_laysCrowds_31 rfl rfl) <| z_cons (ok_iload dX10_laysCrowds_33 rfl rfl) <| z_cons (ok_iload_n dX10_laysCrowds_35 rfl rfl) <| z_cons (ok_icmp_gt (tgt := 75) (by decide) rfl dX10_laysCrowds_36 rfl rfl) <| z_cons (ok_iload_n dX10_laysCrowds_39 rfl rfl) <| z_cons (ok_if_le (tgt := 75) (by decide) rfl dX10_laysCrowds_40 rfl rfl) <| z_cons (ok_lload_n dX10_laysCrowds_43 rfl rfl) <| z_cons (ok_iload_n dX10_laysCrowds_44 rfl rfl) <| z_cons (ok_iload dX10_laysCrowds_45 rfl rfl) <| z_cons (ok_callS (k := 241) (n := 2) qw_838 qw_618 ⟨by decide +kernel, by decide +kernel, by decide +kernel⟩ (Nat.le_of_ble_eq_true rfl) qw_840 qw_839 dX10_laysCrowds_47 rfl rfl) <| z_cons (ok_aload_n dX10_laysCrowds_50 rfl rfl) <| z_cons (ok_getr (k := 7) ⟨by decide, by decide, by decide⟩ (ci := 8) (T := TX10) rfl rfl (Nat.le_of_ble_eq_true rfl) iw_X10 qw_841 gr_11_7 (fun _ _ => by simp) (fun w i => List.mem_of_getElem? (i := 4) rfl) dX10_laysCrowds_51 rfl rfl) <| z_cons (ok_bipush (by decide) dX10_laysCrowds_54 rfl rfl) <| z_cons (ok_iload_n dX10_laysCrowds_56 rfl rfl) <| z_cons (ok_iconst (by decide) dX10_laysCrowds_57 rfl rfl) <| z_cons (ok_isub dX10_laysCrowds_58 rfl rfl) <| z_cons (ok_imul dX10_laysCrowds_59 rfl rfl) <| z_cons (ok_iload_n dX10_laysCrowds_60 rfl rfl) <| z_cons (ok_iadd dX10_laysCrowds_61 rfl rfl) <| z_cons (ok_iload dX10_laysCrowds_62 rfl rfl) <| z_cons (ok_isub dX10_laysCrowds_64 rfl rfl) <| zl_X10_laysCrowds_1
theorem dX10_waysOf_0 : decode cX10_waysOf 0 = .ok (.iload_n 3, 1) := by decide +kernel
theorem dX10_waysOf_1 : decode cX10_waysOf 1 = .ok (.iload_n 1, 1) := by decide +kernel
theorem dX10_waysOf_2 : decode cX10_waysOf 2 = .ok (.if_icmp .le 5, 3) := by decide +kernel
theorem dX10_waysOf_5 : decode cX10_waysOf 5 = .ok (.lconst 0, 1) := by decide +kernel
theorem dX10_waysOf_6 : decode cX10_waysOf 6 = .ok (.lreturn, 1) := by decide +kernel
theorem dX10_waysOf_7 : decode cX10_waysOf 7 = .ok (.iload_n 2, 1) := by decide +kernel
theorem dX10_waysOf_8 : decode cX10_waysOf 8 = .ok (.iload_n 3, 1) := by decide +kernel
theorem dX10_waysOf_9 : decode cX10_waysOf 9 = .ok (.iadd, 1) := by decide +kernel
theorem dX10_waysOf_10 : decode cX10_waysOf 10 = .ok (.iload 4, 2) := by decide +kernel
theorem dX10_waysOf_12 : decode cX10_waysOf 12 = .ok (.iadd, 1) := by decide +kernel
theorem dX10_waysOf_13 : decode cX10_waysOf 13 = .ok (.iload_n 2, 1) := by decide +kernel
theorem dX10_waysOf_14 : decode cX10_waysOf 14 = .ok (.invokestatic 223, 3) := by decide +kernel
theorem dX10_waysOf_17 : decode cX10_waysOf 17 = .ok (.iload_n 3, 1) := by decide +kernel
theorem dX10_waysOf_18 : decode cX10_waysOf 18 = .ok (.iload 4, 2) := by decide +kernel
theorem dX10_waysOf_20 : decode cX10_waysOf 20 = .ok (.iadd, 1) := by decide +kernel
theorem dX10_waysOf_21 : decode cX10_waysOf 21 = .ok (.iload_n 3, 1) := by decide +kernel
theorem dX10_waysOf_22 : decode cX10_waysOf 22 = .ok (.invokestatic 223, 3) := by decide +kernel
theorem dX10_waysOf_25 : decode cX10_waysOf 25 = .ok (.lmul, 1) := by decide +kernel
theorem dX10_waysOf_26 : decode cX10_waysOf 26 = .ok (.lstore 5, 2) := by decide +kernel
theorem dX10_waysOf_28 : decode cX10_waysOf 28 = .ok (.iconst 0, 1) := by decide +kernel
theorem dX10_waysOf_29 : decode cX10_waysOf 29 = .ok (.istore 7, 2) := by decide +kernel
theorem dX10_waysOf_31 : decode cX10_waysOf 31 = .ok (.iload 7, 2) := by decide +kernel
theorem dX10_waysOf_33 : decode cX10_waysOf 33 = .ok (.iload_n 3, 1) := by decide +kernel
theorem dX10_waysOf_34 : decode cX10_waysOf 34 = .ok (.if_icmp .ge 19, 3) := by decide +kernel
theorem dX10_waysOf_37 : decode cX10_waysOf 37 = .ok (.lload 5, 2) := by decide +kernel
theorem dX10_waysOf_39 : decode cX10_waysOf 39 = .ok (.iload_n 1, 1) := by decide +kernel
theorem dX10_waysOf_40 : decode cX10_waysOf 40 = .ok (.iload 7, 2) := by decide +kernel
theorem dX10_waysOf_42 : decode cX10_waysOf 42 = .ok (.isub, 1) := by decide +kernel
theorem dX10_waysOf_43 : decode cX10_waysOf 43 = .ok (.i2l, 1) := by decide +kernel
theorem dX10_waysOf_44 : decode cX10_waysOf 44 = .ok (.lmul, 1) := by decide +kernel
theorem dX10_waysOf_45 : decode cX10_waysOf 45 = .ok (.lstore 5, 2) := by decide +kernel
theorem dX10_waysOf_47 : decode cX10_waysOf 47 = .ok (.iinc 7 1, 3) := by decide +kernel
theorem dX10_waysOf_50 : decode cX10_waysOf 50 = .ok (.goto (-19), 3) := by decide +kernel
theorem dX10_waysOf_53 : decode cX10_waysOf 53 = .ok (.lload 5, 2) := by decide +kernel
theorem dX10_waysOf_55 : decode cX10_waysOf 55 = .ok (.aload_n 0, 1) := by decide +kernel
theorem dX10_waysOf_56 : decode cX10_waysOf 56 = .ok (.getfield 24, 3) := by decide +kernel
theorem dX10_waysOf_59 : decode cX10_waysOf 59 = .ok (.bipush 13, 2) := by decide +kernel
theorem dX10_waysOf_61 : decode cX10_waysOf 61 = .ok (.iload 4, 2) := by decide +kernel
theorem dX10_waysOf_63 : decode cX10_waysOf 63 = .ok (.imul, 1) := by decide +kernel
theorem dX10_waysOf_64 : decode cX10_waysOf 64 = .ok (.iload_n 1, 1) := by decide +kernel
theorem dX10_waysOf_65 : decode cX10_waysOf 65 = .ok (.iadd, 1) := by decide +kernel
theorem dX10_waysOf_66 : decode cX10_waysOf 66 = .ok (.iload_n 3, 1) := by decide +kernel
theorem dX10_waysOf_67 : decode cX10_waysOf 67 = .ok (.isub, 1) := by decide +kernel
theorem dX10_waysOf_68 : decode cX10_waysOf 68 = .ok (.laload, 1) := by decide +kernel
theorem dX10_waysOf_69 : decode cX10_waysOf 69 = .ok (.lmul, 1) := by decide +kernel
theorem dX10_waysOf_70 : decode cX10_waysOf 70 = .ok (.lreturn, 1) := by decide +kernel
set_option maxRecDepth 20000 in
theorem zl_X10_waysOf_1 : z_All z_tab cX10_waysOf 8 (some .long) RX10 pc_X10_waysOf 40 (k_X10_waysOf.drop 40) := z_cons (ok_iadd dX10_waysOf_65 rfl rfl) <| z_cons (ok_iload_n dX10_waysOf_66 rfl rfl) <| z_cons (ok_isub dX10_waysOf_67 rfl rfl) <| z_cons (ok_lald dX10_waysOf_68 rfl rfl) <| z_cons (ok_lmul dX10_waysOf_69 rfl rfl) <| z_cons (ok_lret rfl dX10_waysOf_70 rfl) <| z_nil
set_option maxRecDepth 20000 in
theorem zl_X10_waysOf_0 : z_All z_tab cX10_waysOf 8 (some .long) RX10 pc_X10_waysOf 0 (k_X10_waysOf.drop 0) := z_cons (ok_iload_n dX10_waysOf_0 rfl rfl) <| z_cons (ok_iload_n dX10_waysOf_1 rfl rfl) <| z_cons (ok_icmp_le (tgt := 7) (by decide) rfl dX10_waysOf_2 rfl rfl) <| z_cons (ok_lconst (by decide) dX10_waysOf_5 rfl rfl) <| z_cons (ok_lret rfl dX10_waysOf_6 rfl) <| z_cons (ok_iload_n dX10_waysOf_7 rfl rfl) <| z_cons (ok_iload_n dX10_waysOf_8 rfl rfl) <| z_cons (ok_iadd dX10_waysOf_9 rfl rfl) <| z_cons (ok_iload dX10_waysOf_10 rfl rfl) <| z_cons (ok_iadd dX10_waysOf_12 rfl rfl) <| z_cons (ok_iload_n dX10_waysOf_13 rfl rfl) <| z_cons (ok_callS (k := 241) (n := 2) qw_838 qw_618 ⟨by decide +kernel, by decide +kernel, by decide +kernel⟩ (Nat.le_of_ble_eq_true rfl) qw_840 qw_839 dX10_waysOf_14 rfl rfl) <| z_cons (ok_iload_n dX10_waysOf_17 rfl rfl) <| z_cons (ok_iload dX10_waysOf_18 rfl rfl) <| z_cons (ok_iadd dX10_waysOf_20 rfl rfl) <| z_cons (ok_iload_n dX10_waysOf_21 rfl rfl) <| z_cons (ok_callS (k := 241) (n := 2) qw_838 qw_618 ⟨by decide +kernel, by decide +kernel, by decide +kernel⟩ (Nat.le_of_ble_eq_true rfl) qw_840 qw_839 dX10_waysOf_22 rfl rfl) <| z_cons (ok_lmul dX10_waysOf_25 rfl rfl) <| z_cons (ok_lstore (Nat.le_of_ble_eq_true rfl) dX10_waysOf_26 rfl rfl) <| z_cons (ok_iconst (by decide) dX10_waysOf_28 rfl rfl) <| z_cons (ok_istore (Nat.le_of_ble_eq_true rfl) dX10_waysOf_29 rfl rfl) <| z_cons (ok_iload dX10_waysOf_31 rfl rfl) <| z_cons (ok_iload_n dX10_waysOf_33 rfl rfl) <| z_cons (ok_icmp_ge (tgt := 53) (by decide) rfl dX10_waysOf_34 rfl rfl) <| z_cons (ok_lload dX10_waysOf_37 rfl rfl) <| z_cons (ok_iload_n dX10_waysOf_39 rfl rfl) <| z_cons (ok_iload dX10_waysOf_40 rfl rfl) <| z_cons (ok_isub dX10_waysOf_42 rfl rfl) <| z_cons (ok_i2l dX10_waysOf_43 rfl rfl) <| z_cons (ok_lmul dX10_waysOf_44 rfl rfl) <| z_cons (ok_lstore (Nat.le_of_ble_eq_true rfl) dX10_waysOf_45 rfl rfl) <| z_cons (ok_iinc (by decide) (Nat.le_of_ble_eq_true rfl) dX10_waysOf_47 rfl rfl) <| z_cons (ok_goto (tgt := 31) (by decide) rfl dX10_waysOf_50 rfl) <| z_cons (ok_lload dX10_waysOf_53 rfl rfl) <| z_cons (ok_aload_n dX10_waysOf_55 rfl rfl) <| z_cons (ok_getr (k := 7) ⟨by decide, by decide, by decide⟩ (ci := 8) (T := TX10) rfl rfl (Nat.le_of_ble_eq_true rfl) iw_X10 qw_841 gr_11_7 (fun _ _ => by simp) (fun w i => List.mem_of_getElem? (i := 4) rfl) dX10_waysOf_56 rfl rfl) <| z_cons (ok_bipush (by decide) dX10_waysOf_59 rfl rfl) <| z_cons (ok_iload dX10_waysOf_61 rfl rfl) <| z_cons (ok_imul dX10_waysOf_63 rfl rfl) <| z_cons (ok_iload_n dX10_waysOf_64 rfl rfl) <| zl_X10_waysOf_1
theorem dX10_ways_0 : decode cX10_ways 0 = .ok (.iload_n 1, 1) := by decide +kernel
theorem dX10_ways_1 : decode cX10_ways 1 = .ok (.iconst 0, 1) := by decide +kernel
theorem dX10_ways_2 : decode cX10_ways 2 = .ok (.bipush 12, 2) := by decide +kernel
theorem dX10_ways_4 : decode cX10_ways 4 = .ok (.invokestatic 32, 3) := by decide +kernel
theorem dX10_ways_7 : decode cX10_ways 7 = .ok (.ifCond .eq 21, 3) := by decide +kernel
theorem dX10_ways_10 : decode cX10_ways 10 = .ok (.iload_n 2, 1) := by decide +kernel
theorem dX10_ways_11 : decode cX10_ways 11 = .ok (.iconst 0, 1) := by decide +kernel
theorem dX10_ways_12 : decode cX10_ways 12 = .ok (.iconst 4, 1) := by decide +kernel
theorem dX10_ways_13 : decode cX10_ways 13 = .ok (.invokestatic 32, 3) := by decide +kernel
theorem dX10_ways_16 : decode cX10_ways 16 = .ok (.ifCond .eq 12, 3) := by decide +kernel
theorem dX10_ways_19 : decode cX10_ways 19 = .ok (.iload_n 3, 1) := by decide +kernel
theorem dX10_ways_20 : decode cX10_ways 20 = .ok (.iconst 0, 1) := by decide +kernel
theorem dX10_ways_21 : decode cX10_ways 21 = .ok (.iload_n 1, 1) := by decide +kernel
theorem dX10_ways_22 : decode cX10_ways 22 = .ok (.invokestatic 32, 3) := by decide +kernel
theorem dX10_ways_25 : decode cX10_ways 25 = .ok (.ifCond .ne 7, 3) := by decide +kernel
theorem dX10_ways_28 : decode cX10_ways 28 = .ok (.ldc2_w 227, 3) := by decide +kernel
theorem dX10_ways_31 : decode cX10_ways 31 = .ok (.lreturn, 1) := by decide +kernel
theorem dX10_ways_32 : decode cX10_ways 32 = .ok (.aload_n 0, 1) := by decide +kernel
theorem dX10_ways_33 : decode cX10_ways 33 = .ok (.invokevirtual 229, 3) := by decide +kernel
theorem dX10_ways_36 : decode cX10_ways 36 = .ok (.iconst 1, 1) := by decide +kernel
theorem dX10_ways_37 : decode cX10_ways 37 = .ok (.iload_n 2, 1) := by decide +kernel
theorem dX10_ways_38 : decode cX10_ways 38 = .ok (.ishl, 1) := by decide +kernel
theorem dX10_ways_39 : decode cX10_ways 39 = .ok (.istore 4, 2) := by decide +kernel
theorem dX10_ways_41 : decode cX10_ways 41 = .ok (.lconst 0, 1) := by decide +kernel
theorem dX10_ways_42 : decode cX10_ways 42 = .ok (.lstore 5, 2) := by decide +kernel
theorem dX10_ways_44 : decode cX10_ways 44 = .ok (.iconst 0, 1) := by decide +kernel
theorem dX10_ways_45 : decode cX10_ways 45 = .ok (.istore 7, 2) := by decide +kernel
theorem dX10_ways_47 : decode cX10_ways 47 = .ok (.iload 7, 2) := by decide +kernel
theorem dX10_ways_49 : decode cX10_ways 49 = .ok (.iload_n 3, 1) := by decide +kernel
theorem dX10_ways_50 : decode cX10_ways 50 = .ok (.iadd, 1) := by decide +kernel
theorem dX10_ways_51 : decode cX10_ways 51 = .ok (.iload 4, 2) := by decide +kernel
theorem dX10_ways_53 : decode cX10_ways 53 = .ok (.if_icmp .gt 52, 3) := by decide +kernel
theorem dX10_ways_56 : decode cX10_ways 56 = .ok (.lload 5, 2) := by decide +kernel
theorem dX10_ways_58 : decode cX10_ways 58 = .ok (.aload_n 0, 1) := by decide +kernel
theorem dX10_ways_59 : decode cX10_ways 59 = .ok (.getfield 24, 3) := by decide +kernel
theorem dX10_ways_62 : decode cX10_ways 62 = .ok (.bipush 13, 2) := by decide +kernel
theorem dX10_ways_64 : decode cX10_ways 64 = .ok (.iload 7, 2) := by decide +kernel
theorem dX10_ways_66 : decode cX10_ways 66 = .ok (.imul, 1) := by decide +kernel
theorem dX10_ways_67 : decode cX10_ways 67 = .ok (.iload_n 1, 1) := by decide +kernel
theorem dX10_ways_68 : decode cX10_ways 68 = .ok (.iadd, 1) := by decide +kernel
theorem dX10_ways_69 : decode cX10_ways 69 = .ok (.iload_n 3, 1) := by decide +kernel
theorem dX10_ways_70 : decode cX10_ways 70 = .ok (.isub, 1) := by decide +kernel
theorem dX10_ways_71 : decode cX10_ways 71 = .ok (.laload, 1) := by decide +kernel
theorem dX10_ways_72 : decode cX10_ways 72 = .ok (.lconst 0, 1) := by decide +kernel
theorem dX10_ways_73 : decode cX10_ways 73 = .ok (.lcmp, 1) := by decide +kernel
theorem dX10_ways_74 : decode cX10_ways 74 = .ok (.ifCond .ne 7, 3) := by decide +kernel
theorem dX10_ways_77 : decode cX10_ways 77 = .ok (.lconst 0, 1) := by decide +kernel
theorem dX10_ways_78 : decode cX10_ways 78 = .ok (.goto 18, 3) := by decide +kernel
theorem dX10_ways_81 : decode cX10_ways 81 = .ok (.aload_n 0, 1) := by decide +kernel
theorem dX10_ways_82 : decode cX10_ways 82 = .ok (.iload_n 1, 1) := by decide +kernel
theorem dX10_ways_83 : decode cX10_ways 83 = .ok (.iload 4, 2) := by decide +kernel
theorem dX10_ways_85 : decode cX10_ways 85 = .ok (.iload_n 3, 1) := by decide +kernel
theorem dX10_ways_86 : decode cX10_ways 86 = .ok (.isub, 1) := by decide +kernel
theorem dX10_ways_87 : decode cX10_ways 87 = .ok (.iload 7, 2) := by decide +kernel
theorem dX10_ways_89 : decode cX10_ways 89 = .ok (.isub, 1) := by decide +kernel
theorem dX10_ways_90 : decode cX10_ways 90 = .ok (.iload_n 3, 1) := by decide +kernel
theorem dX10_ways_91 : decode cX10_ways 91 = .ok (.iload 7, 2) := by decide +kernel
theorem dX10_ways_93 : decode cX10_ways 93 = .ok (.invokevirtual 232, 3) := by decide +kernel
theorem dX10_ways_96 : decode cX10_ways 96 = .ok (.ladd, 1) := by decide +kernel
theorem dX10_ways_97 : decode cX10_ways 97 = .ok (.lstore 5, 2) := by decide +kernel
theorem dX10_ways_99 : decode cX10_ways 99 = .ok (.iinc 7 1, 3) := by decide +kernel
theorem dX10_ways_102 : decode cX10_ways 102 = .ok (.goto (-55), 3) := by decide +kernel
theorem dX10_ways_105 : decode cX10_ways 105 = .ok (.lload 5, 2) := by decide +kernel
theorem dX10_ways_107 : decode cX10_ways 107 = .ok (.lreturn, 1) := by decide +kernel
set_option maxRecDepth 20000 in
theorem zl_X10_ways_1 : z_All z_tab cX10_ways 8 (some .long) RX10 pc_X10_ways 40 (k_X10_ways.drop 40) := z_cons (ok_iload_n dX10_ways_69 rfl rfl) <| z_cons (ok_isub dX10_ways_70 rfl rfl) <| z_cons (ok_lald dX10_ways_71 rfl rfl) <| z_cons (ok_lconst (by decide) dX10_ways_72 rfl rfl) <| z_cons (ok_lcmp dX10_ways_73 rfl rfl) <| z_cons (ok_if_ne (tgt := 81) (by decide) rfl dX10_ways_74 rfl rfl) <| z_cons (ok_lconst (by decide) dX10_ways_77 rfl rfl) <| z_cons (ok_goto (tgt := 96) (by decide) rfl dX10_ways_78 rfl) <| z_cons (ok_aload_n dX10_ways_81 rfl rfl) <| z_cons (ok_iload_n dX10_ways_82 rfl rfl) <| z_cons (ok_iload dX10_ways_83 rfl rfl) <| z_cons (ok_iload_n dX10_ways_85 rfl rfl) <| z_cons (ok_isub dX10_ways_86 rfl rfl) <| z_cons (ok_iload dX10_ways_87 rfl rfl) <| z_cons (ok_isub dX10_ways_89 rfl rfl) <| z_cons (ok_iload_n dX10_ways_90 rfl rfl) <| z_cons (ok_iload dX10_ways_91 rfl rfl) <| z_cons (ok_callv ⟨by decide, by decide, by decide⟩ (ci := 8) (C := RX10) (T := TX10) rfl go_11 (k := 244) (n := 4) qw_847 qw_618 ⟨by decide +kernel, by decide +kernel, by decide +kernel⟩ (Nat.le_of_ble_eq_true rfl) qw_848 qw_849 qw_850 dX10_ways_93 rfl rfl) <| z_cons (ok_ladd dX10_ways_96 rfl rfl) <| z_cons (ok_lstore (Nat.le_of_ble_eq_true rfl) dX10_ways_97 rfl rfl) <| z_cons (ok_iinc (by decide) (Nat.le_of_ble_eq_true rfl) dX10_ways_99 rfl rfl) <| z_cons (ok_goto (tgt := 47) (by decide) rfl dX10_ways_102 rfl) <| z_cons (ok_lload dX10_ways_105 rfl rfl) <| z_cons (ok_lret rfl dX10_ways_107 rfl) <| z_nil
set_option maxRecDepth 20000 in
theorem zl_X10_ways_0 : z_All z_tab cX10_ways 8 (some .long) RX10 pc_X10_ways 0 (k_X10_ways.drop 0) := z_cons (ok_iload_n dX10_ways_0 rfl rfl) <| z_cons (ok_iconst (by decide) dX10_ways_1 rfl rfl) <| z_cons (ok_bipush (by decide) dX10_ways_2 rfl rfl) <| z_cons (ok_callS (k := 162) (n := 3) qw_617 qw_618 ⟨by decide +kernel, by decide +kernel, by decide +kernel⟩ (Nat.le_of_ble_eq_true rfl) qw_620 qw_619 dX10_ways_4 rfl rfl) <| z_cons (ok_if_eq (tgt := 28) (by decide) rfl dX10_ways_7 rfl rfl) <| z_cons (ok_iload_n dX10_ways_10 rfl rfl) <| z_cons (ok_iconst (by decide) dX10_ways_11 rfl rfl) <| z_cons (ok_iconst (by decide) dX10_ways_12 rfl rfl) <| z_cons (ok_callS (k := 162) (n := 3) qw_617 qw_618 ⟨by decide +kernel, by decide +kernel, by decide +kernel⟩ (Nat.le_of_ble_eq_true rfl) qw_620 qw_619 dX10_ways_13 rfl rfl) <| z_cons (ok_if_eq (tgt := 28) (by decide) rfl dX10_ways_16 rfl rfl) <| z_cons (ok_iload_n dX10_ways_19 rfl rfl) <| z_cons (ok_iconst (by decide) dX10_ways_20 rfl rfl) <| z_cons (ok_iload_n dX10_ways_21 rfl rfl) <| z_cons (ok_callS (k := 162) (n := 3) qw_617 qw_618 ⟨by decide +kernel, by decide +kernel, by decide +kernel⟩ (Nat.le_of_ble_eq_true rfl) qw_620 qw_619 dX10_ways_22 rfl rfl) <| z_cons (ok_if_ne (tgt := 32) (by decide) rfl dX10_ways_25 rfl rfl) <| z_cons (ok_ldc2 qw_842 dX10_ways_28 rfl rfl) <| z_cons (ok_lret rfl dX10_ways_31 rfl) <| z_cons (ok_aload_n dX10_ways_32 rfl rfl) <| z_cons (ok_callv ⟨by decide, by decide, by decide⟩ (ci := 8) (C := RX10) (T := TX10) rfl go_11 (k := 243) (n := 0) qw_843 qw_618 ⟨by decide +kernel, by decide +kernel, by decide +kernel⟩ (Nat.le_of_ble_eq_true rfl) qw_844 qw_845 qw_846 dX10_ways_33 rfl rfl) <| z_cons (ok_iconst (by decide) dX10_ways_36 rfl rfl) <| z_cons (ok_iload_n dX10_ways_37 rfl rfl) <| z_cons (ok_ishl dX10_ways_38 rfl rfl) <| z_cons (ok_istore (Nat.le_of_ble_eq_true rfl) dX10_ways_39 rfl rfl) <| z_cons (ok_lconst (by decide) dX10_ways_41 rfl rfl) <| z_cons (ok_lstore (Nat.le_of_ble_eq_true rfl) dX10_ways_42 rfl rfl) <| z_cons (ok_iconst (by decide) dX10_ways_44 rfl rfl) <| z_cons (ok_istore (Nat.le_of_ble_eq_true rfl) dX10_ways_45 rfl rfl) <| z_cons (ok_iload dX10_ways_47 rfl rfl) <| z_cons (ok_iload_n dX10_ways_49 rfl rfl) <| z_cons (ok_iadd dX10_ways_50 rfl rfl) <| z_cons (ok_iload dX10_ways_51 rfl rfl) <| z_cons (ok_icmp_gt (tgt := 105) (by decide) rfl dX10_ways_53 rfl rfl) <| z_cons (ok_lload dX10_ways_56 rfl rfl) <| z_cons (ok_aload_n dX10_ways_58 rfl rfl) <| z_cons (ok_getr (k := 7) ⟨by decide, by decide, by decide⟩ (ci := 8) (T := TX10) rfl rfl (Nat.le_of_ble_eq_true rfl) iw_X10 qw_841 gr_11_7 (fun _ _ => by simp) (fun w i => List.mem_of_getElem? (i := 4) rfl) dX10_ways_59 rfl rfl) <| z_cons (ok_bipush (by decide) dX10_ways_62 rfl rfl) <| z_cons (ok_iload dX10_ways_64 rfl rfl) <| z_cons (ok_imul dX10_ways_66 rfl rfl) <| z_cons (ok_iload_n dX10_ways_67 rfl rfl) <| z_cons (ok_iadd dX10_ways_68 rfl rfl) <| zl_X10_ways_1
theorem dX10_divisorOf_0 : decode cX10_divisorOf 0 = .ok (.lload_n 2, 1) := by decide +kernel
theorem dX10_divisorOf_1 : decode cX10_divisorOf 1 = .ok (.lconst 0, 1) := by decide +kernel
theorem dX10_divisorOf_2 : decode cX10_divisorOf 2 = .ok (.lcmp, 1) := by decide +kernel
theorem dX10_divisorOf_3 : decode cX10_divisorOf 3 = .ok (.ifCond .ne 7, 3) := by decide +kernel
theorem dX10_divisorOf_6 : decode cX10_divisorOf 6 = .ok (.lload_n 0, 1) := by decide +kernel
theorem dX10_divisorOf_7 : decode cX10_divisorOf 7 = .ok (.goto 10, 3) := by decide +kernel
theorem dX10_divisorOf_10 : decode cX10_divisorOf 10 = .ok (.lload_n 2, 1) := by decide +kernel
theorem dX10_divisorOf_11 : decode cX10_divisorOf 11 = .ok (.lload_n 0, 1) := by decide +kernel
theorem dX10_divisorOf_12 : decode cX10_divisorOf 12 = .ok (.lload_n 2, 1) := by decide +kernel
theorem dX10_divisorOf_13 : decode cX10_divisorOf 13 = .ok (.lrem, 1) := by decide +kernel
theorem dX10_divisorOf_14 : decode cX10_divisorOf 14 = .ok (.invokestatic 236, 3) := by decide +kernel
theorem dX10_divisorOf_17 : decode cX10_divisorOf 17 = .ok (.lreturn, 1) := by decide +kernel
set_option maxRecDepth 20000 in
theorem zl_X10_divisorOf_0 : z_All z_tab cX10_divisorOf 4 (some .long) RX10 pc_X10_divisorOf 0 (k_X10_divisorOf.drop 0) := z_cons (ok_lload_n dX10_divisorOf_0 rfl rfl) <| z_cons (ok_lconst (by decide) dX10_divisorOf_1 rfl rfl) <| z_cons (ok_lcmp dX10_divisorOf_2 rfl rfl) <| z_cons (ok_if_ne (tgt := 10) (by decide) rfl dX10_divisorOf_3 rfl rfl) <| z_cons (ok_lload_n dX10_divisorOf_6 rfl rfl) <| z_cons (ok_goto (tgt := 17) (by decide) rfl dX10_divisorOf_7 rfl) <| z_cons (ok_lload_n dX10_divisorOf_10 rfl rfl) <| z_cons (ok_lload_n dX10_divisorOf_11 rfl rfl) <| z_cons (ok_lload_n dX10_divisorOf_12 rfl rfl) <| z_cons (ok_lrem dX10_divisorOf_13 rfl rfl) <| z_cons (ok_callS (k := 246) (n := 2) qw_851 qw_618 ⟨by decide +kernel, by decide +kernel, by decide +kernel⟩ (Nat.le_of_ble_eq_true rfl) qw_853 qw_852 dX10_divisorOf_14 rfl rfl) <| z_cons (ok_lret rfl dX10_divisorOf_17 rfl) <| z_nil
theorem dX10_hope_0 : decode cX10_hope 0 = .ok (.iload_n 1, 1) := by decide +kernel
theorem dX10_hope_1 : decode cX10_hope 1 = .ok (.iconst 0, 1) := by decide +kernel
theorem dX10_hope_2 : decode cX10_hope 2 = .ok (.bipush 12, 2) := by decide +kernel
theorem dX10_hope_4 : decode cX10_hope 4 = .ok (.invokestatic 32, 3) := by decide +kernel
theorem dX10_hope_7 : decode cX10_hope 7 = .ok (.ifCond .eq 21, 3) := by decide +kernel
theorem dX10_hope_10 : decode cX10_hope 10 = .ok (.iload_n 2, 1) := by decide +kernel
theorem dX10_hope_11 : decode cX10_hope 11 = .ok (.iconst 0, 1) := by decide +kernel
theorem dX10_hope_12 : decode cX10_hope 12 = .ok (.iconst 4, 1) := by decide +kernel
theorem dX10_hope_13 : decode cX10_hope 13 = .ok (.invokestatic 32, 3) := by decide +kernel
theorem dX10_hope_16 : decode cX10_hope 16 = .ok (.ifCond .eq 12, 3) := by decide +kernel
theorem dX10_hope_19 : decode cX10_hope 19 = .ok (.iload_n 3, 1) := by decide +kernel
theorem dX10_hope_20 : decode cX10_hope 20 = .ok (.iconst 0, 1) := by decide +kernel
theorem dX10_hope_21 : decode cX10_hope 21 = .ok (.iconst 1, 1) := by decide +kernel
theorem dX10_hope_22 : decode cX10_hope 22 = .ok (.invokestatic 32, 3) := by decide +kernel
theorem dX10_hope_25 : decode cX10_hope 25 = .ok (.ifCond .ne 7, 3) := by decide +kernel
theorem dX10_hope_28 : decode cX10_hope 28 = .ok (.ldc2_w 227, 3) := by decide +kernel
theorem dX10_hope_31 : decode cX10_hope 31 = .ok (.lreturn, 1) := by decide +kernel
theorem dX10_hope_32 : decode cX10_hope 32 = .ok (.lconst 1, 1) := by decide +kernel
theorem dX10_hope_33 : decode cX10_hope 33 = .ok (.iload_n 2, 1) := by decide +kernel
theorem dX10_hope_34 : decode cX10_hope 34 = .ok (.lshl, 1) := by decide +kernel
theorem dX10_hope_35 : decode cX10_hope 35 = .ok (.lstore 4, 2) := by decide +kernel
theorem dX10_hope_37 : decode cX10_hope 37 = .ok (.iload_n 1, 1) := by decide +kernel
theorem dX10_hope_38 : decode cX10_hope 38 = .ok (.ifCond .ne 7, 3) := by decide +kernel
theorem dX10_hope_41 : decode cX10_hope 41 = .ok (.lconst 0, 1) := by decide +kernel
theorem dX10_hope_42 : decode cX10_hope 42 = .ok (.goto 16, 3) := by decide +kernel
theorem dX10_hope_45 : decode cX10_hope 45 = .ok (.iload_n 1, 1) := by decide +kernel
theorem dX10_hope_46 : decode cX10_hope 46 = .ok (.i2l, 1) := by decide +kernel
theorem dX10_hope_47 : decode cX10_hope 47 = .ok (.lload 4, 2) := by decide +kernel
theorem dX10_hope_49 : decode cX10_hope 49 = .ok (.lconst 1, 1) := by decide +kernel
theorem dX10_hope_50 : decode cX10_hope 50 = .ok (.lsub, 1) := by decide +kernel
theorem dX10_hope_51 : decode cX10_hope 51 = .ok (.iload_n 1, 1) := by decide +kernel
theorem dX10_hope_52 : decode cX10_hope 52 = .ok (.iconst 1, 1) := by decide +kernel
theorem dX10_hope_53 : decode cX10_hope 53 = .ok (.isub, 1) := by decide +kernel
theorem dX10_hope_54 : decode cX10_hope 54 = .ok (.invokestatic 240, 3) := by decide +kernel
theorem dX10_hope_57 : decode cX10_hope 57 = .ok (.lmul, 1) := by decide +kernel
theorem dX10_hope_58 : decode cX10_hope 58 = .ok (.lstore 6, 2) := by decide +kernel
theorem dX10_hope_60 : decode cX10_hope 60 = .ok (.iload_n 1, 1) := by decide +kernel
theorem dX10_hope_61 : decode cX10_hope 61 = .ok (.ifCond .ne 7, 3) := by decide +kernel
theorem dX10_hope_64 : decode cX10_hope 64 = .ok (.lconst 1, 1) := by decide +kernel
theorem dX10_hope_65 : decode cX10_hope 65 = .ok (.goto 11, 3) := by decide +kernel
theorem dX10_hope_68 : decode cX10_hope 68 = .ok (.lload 4, 2) := by decide +kernel
theorem dX10_hope_70 : decode cX10_hope 70 = .ok (.iload_n 1, 1) := by decide +kernel
theorem dX10_hope_71 : decode cX10_hope 71 = .ok (.iconst 1, 1) := by decide +kernel
theorem dX10_hope_72 : decode cX10_hope 72 = .ok (.isub, 1) := by decide +kernel
theorem dX10_hope_73 : decode cX10_hope 73 = .ok (.invokestatic 240, 3) := by decide +kernel
theorem dX10_hope_76 : decode cX10_hope 76 = .ok (.lstore 8, 2) := by decide +kernel
theorem dX10_hope_78 : decode cX10_hope 78 = .ok (.lload 6, 2) := by decide +kernel
theorem dX10_hope_80 : decode cX10_hope 80 = .ok (.lload 8, 2) := by decide +kernel
theorem dX10_hope_82 : decode cX10_hope 82 = .ok (.invokestatic 236, 3) := by decide +kernel
theorem dX10_hope_85 : decode cX10_hope 85 = .ok (.lstore 10, 2) := by decide +kernel
theorem dX10_hope_87 : decode cX10_hope 87 = .ok (.iload_n 3, 1) := by decide +kernel
theorem dX10_hope_88 : decode cX10_hope 88 = .ok (.ifCond .ne 8, 3) := by decide +kernel
theorem dX10_hope_91 : decode cX10_hope 91 = .ok (.lload 6, 2) := by decide +kernel
theorem dX10_hope_93 : decode cX10_hope 93 = .ok (.goto 5, 3) := by decide +kernel
theorem dX10_hope_96 : decode cX10_hope 96 = .ok (.lload 8, 2) := by decide +kernel
theorem dX10_hope_98 : decode cX10_hope 98 = .ok (.lload 10, 2) := by decide +kernel
theorem dX10_hope_100 : decode cX10_hope 100 = .ok (.ldiv, 1) := by decide +kernel
theorem dX10_hope_101 : decode cX10_hope 101 = .ok (.lreturn, 1) := by decide +kernel
set_option maxRecDepth 20000 in
theorem zl_X10_hope_1 : z_All z_tab cX10_hope 12 (some .long) RX10 pc_X10_hope 40 (k_X10_hope.drop 40) := z_cons (ok_lload dX10_hope_68 rfl rfl) <| z_cons (ok_iload_n dX10_hope_70 rfl rfl) <| z_cons (ok_iconst (by decide) dX10_hope_71 rfl rfl) <| z_cons (ok_isub dX10_hope_72 rfl rfl) <| z_cons (ok_callS (k := 242) (n := 2) qw_854 qw_618 ⟨by decide +kernel, by decide +kernel, by decide +kernel⟩ (Nat.le_of_ble_eq_true rfl) qw_856 qw_855 dX10_hope_73 rfl rfl) <| z_cons (ok_lstore (Nat.le_of_ble_eq_true rfl) dX10_hope_76 rfl rfl) <| z_cons (ok_lload dX10_hope_78 rfl rfl) <| z_cons (ok_lload dX10_hope_80 rfl rfl) <| z_cons (ok_callS (k := 246) (n := 2) qw_851 qw_618 ⟨by decide +kernel, by decide +kernel, by decide +kernel⟩ (Nat.le_of_ble_eq_true rfl) qw_853 qw_852 dX10_hope_82 rfl rfl) <| z_cons (ok_lstore (Nat.le_of_ble_eq_true rfl) dX10_hope_85 rfl rfl) <| z_cons (ok_iload_n dX10_hope_87 rfl rfl) <| z_cons (ok_if_ne (tgt := 96) (by decide) rfl dX10_hope_88 rfl rfl) <| z_cons (ok_lload dX10_hope_91 rfl rfl) <| z_cons (ok_goto (tgt := 98) (by decide) rfl dX10_hope_93 rfl) <| z_cons (ok_lload dX10_hope_96 rfl rfl) <| z_cons (ok_lload dX10_hope_98 rfl rfl) <| z_cons (ok_ldiv dX10_hope_100 rfl rfl) <| z_cons (ok_lret rfl dX10_hope_101 rfl) <| z_nil
set_option maxRecDepth 20000 in
theorem zl_X10_hope_0 : z_All z_tab cX10_hope 12 (some .long) RX10 pc_X10_hope 0 (k_X10_hope.drop 0) := z_cons (ok_iload_n dX10_hope_0 rfl rfl) <| z_cons (ok_iconst (by decide) dX10_hope_1 rfl rfl) <| z_cons (ok_bipush (by decide) dX10_hope_2 rfl rfl) <| z_cons (ok_callS (k := 162) (n := 3) qw_617 qw_618 ⟨by decide +kernel, by decide +kernel, by decide +kernel⟩ (Nat.le_of_ble_eq_true rfl) qw_620 qw_619 dX10_hope_4 rfl rfl) <| z_cons (ok_if_eq (tgt := 28) (by decide) rfl dX10_hope_7 rfl rfl) <| z_cons (ok_iload_n dX10_hope_10 rfl rfl) <| z_cons (ok_iconst (by decide) dX10_hope_11 rfl rfl) <| z_cons (ok_iconst (by decide) dX10_hope_12 rfl rfl) <| z_cons (ok_callS (k := 162) (n := 3) qw_617 qw_618 ⟨by decide +kernel, by decide +kernel, by decide +kernel⟩ (Nat.le_of_ble_eq_true rfl) qw_620 qw_619 dX10_hope_13 rfl rfl) <| z_cons (ok_if_eq (tgt := 28) (by decide) rfl dX10_hope_16 rfl rfl) <| z_cons (ok_iload_n dX10_hope_19 rfl rfl) <| z_cons (ok_iconst (by decide) dX10_hope_20 rfl rfl) <| z_cons (ok_iconst (by decide) dX10_hope_21 rfl rfl) <| z_cons (ok_callS (k := 162) (n := 3) qw_617 qw_618 ⟨by decide +kernel, by decide +kernel, by decide +kernel⟩ (Nat.le_of_ble_eq_true rfl) qw_620 qw_619 dX10_hope_22 rfl rfl) <| z_cons (ok_if_ne (tgt := 32) (by decide) rfl dX10_hope_25 rfl rfl) <| z_cons (ok_ldc2 qw_842 dX10_hope_28 rfl rfl) <| z_cons (ok_lret rfl dX10_hope_31 rfl) <| z_cons (ok_lconst (by decide) dX10_hope_32 rfl rfl) <| z_cons (ok_iload_n dX10_hope_33 rfl rfl) <| z_cons (ok_lshl dX10_hope_34 rfl rfl) <| z_cons (ok_lstore (Nat.le_of_ble_eq_true rfl) dX10_hope_35 rfl rfl) <| z_cons (ok_iload_n dX10_hope_37 rfl rfl) <| z_cons (ok_if_ne (tgt := 45) (by decide) rfl dX10_hope_38 rfl rfl) <| z_cons (ok_lconst (by decide) dX10_hope_41 rfl rfl) <| z_cons (ok_goto (tgt := 58) (by decide) rfl dX10_hope_42 rfl) <| z_cons (ok_iload_n dX10_hope_45 rfl rfl) <| z_cons (ok_i2l dX10_hope_46 rfl rfl) <| z_cons (ok_lload dX10_hope_47 rfl rfl) <| z_cons (ok_lconst (by decide) dX10_hope_49 rfl rfl) <| z_cons (ok_lsub dX10_hope_50 rfl rfl) <| z_cons (ok_iload_n dX10_hope_51 rfl rfl) <| z_cons (ok_iconst (by decide) dX10_hope_52 rfl rfl) <| z_cons (ok_isub dX10_hope_53 rfl rfl) <| z_cons (ok_callS (k := 242) (n := 2) qw_854 qw_618 ⟨by decide +kernel, by decide +kernel, by decide +kernel⟩ (Nat.le_of_ble_eq_true rfl) qw_856 qw_855 dX10_hope_54 rfl rfl) <| z_cons (ok_lmul dX10_hope_57 rfl rfl) <| z_cons (ok_lstore (Nat.le_of_ble_eq_true rfl) dX10_hope_58 rfl rfl) <| z_cons (ok_iload_n dX10_hope_60 rfl rfl) <| z_cons (ok_if_ne (tgt := 68) (by decide) rfl dX10_hope_61 rfl rfl) <| z_cons (ok_lconst (by decide) dX10_hope_64 rfl rfl) <| z_cons (ok_goto (tgt := 76) (by decide) rfl dX10_hope_65 rfl) <| zl_X10_hope_1
theorem dX10_hopeBy_0 : decode cX10_hopeBy 0 = .ok (.iload_n 0, 1) := by decide +kernel
theorem dX10_hopeBy_1 : decode cX10_hopeBy 1 = .ok (.i2l, 1) := by decide +kernel
theorem dX10_hopeBy_2 : decode cX10_hopeBy 2 = .ok (.lconst 1, 1) := by decide +kernel
theorem dX10_hopeBy_3 : decode cX10_hopeBy 3 = .ok (.iload_n 1, 1) := by decide +kernel
theorem dX10_hopeBy_4 : decode cX10_hopeBy 4 = .ok (.lshl, 1) := by decide +kernel
theorem dX10_hopeBy_5 : decode cX10_hopeBy 5 = .ok (.lconst 1, 1) := by decide +kernel
theorem dX10_hopeBy_6 : decode cX10_hopeBy 6 = .ok (.lsub, 1) := by decide +kernel
theorem dX10_hopeBy_7 : decode cX10_hopeBy 7 = .ok (.iload_n 0, 1) := by decide +kernel
theorem dX10_hopeBy_8 : decode cX10_hopeBy 8 = .ok (.iconst 1, 1) := by decide +kernel
theorem dX10_hopeBy_9 : decode cX10_hopeBy 9 = .ok (.isub, 1) := by decide +kernel
theorem dX10_hopeBy_10 : decode cX10_hopeBy 10 = .ok (.invokestatic 240, 3) := by decide +kernel
theorem dX10_hopeBy_13 : decode cX10_hopeBy 13 = .ok (.lmul, 1) := by decide +kernel
theorem dX10_hopeBy_14 : decode cX10_hopeBy 14 = .ok (.iconst 4, 1) := by decide +kernel
theorem dX10_hopeBy_15 : decode cX10_hopeBy 15 = .ok (.iload_n 1, 1) := by decide +kernel
theorem dX10_hopeBy_16 : decode cX10_hopeBy 16 = .ok (.isub, 1) := by decide +kernel
theorem dX10_hopeBy_17 : decode cX10_hopeBy 17 = .ok (.iload_n 0, 1) := by decide +kernel
theorem dX10_hopeBy_18 : decode cX10_hopeBy 18 = .ok (.imul, 1) := by decide +kernel
theorem dX10_hopeBy_19 : decode cX10_hopeBy 19 = .ok (.lshl, 1) := by decide +kernel
theorem dX10_hopeBy_20 : decode cX10_hopeBy 20 = .ok (.lreturn, 1) := by decide +kernel
set_option maxRecDepth 20000 in
theorem zl_X10_hopeBy_0 : z_All z_tab cX10_hopeBy 2 (some .long) RX10 pc_X10_hopeBy 0 (k_X10_hopeBy.drop 0) := z_cons (ok_iload_n dX10_hopeBy_0 rfl rfl) <| z_cons (ok_i2l dX10_hopeBy_1 rfl rfl) <| z_cons (ok_lconst (by decide) dX10_hopeBy_2 rfl rfl) <| z_cons (ok_iload_n dX10_hopeBy_3 rfl rfl) <| z_cons (ok_lshl dX10_hopeBy_4 rfl rfl) <| z_cons (ok_lconst (by decide) dX10_hopeBy_5 rfl rfl) <| z_cons (ok_lsub dX10_hopeBy_6 rfl rfl) <| z_cons (ok_iload_n dX10_hopeBy_7 rfl rfl) <| z_cons (ok_iconst (by decide) dX10_hopeBy_8 rfl rfl) <| z_cons (ok_isub dX10_hopeBy_9 rfl rfl) <| z_cons (ok_callS (k := 242) (n := 2) qw_854 qw_618 ⟨by decide +kernel, by decide +kernel, by decide +kernel⟩ (Nat.le_of_ble_eq_true rfl) qw_856 qw_855 dX10_hopeBy_10 rfl rfl) <| z_cons (ok_lmul dX10_hopeBy_13 rfl rfl) <| z_cons (ok_iconst (by decide) dX10_hopeBy_14 rfl rfl) <| z_cons (ok_iload_n dX10_hopeBy_15 rfl rfl) <| z_cons (ok_isub dX10_hopeBy_16 rfl rfl) <| z_cons (ok_iload_n dX10_hopeBy_17 rfl rfl) <| z_cons (ok_imul dX10_hopeBy_18 rfl rfl) <| z_cons (ok_lshl dX10_hopeBy_19 rfl rfl) <| z_cons (ok_lret rfl dX10_hopeBy_20 rfl) <| z_nil
theorem dX10_bestOf_0 : decode cX10_bestOf 0 = .ok (.iconst 0, 1) := by decide +kernel
theorem dX10_bestOf_1 : decode cX10_bestOf 1 = .ok (.istore_n 1, 1) := by decide +kernel
theorem dX10_bestOf_2 : decode cX10_bestOf 2 = .ok (.iconst 1, 1) := by decide +kernel
theorem dX10_bestOf_3 : decode cX10_bestOf 3 = .ok (.istore_n 2, 1) := by decide +kernel
theorem dX10_bestOf_4 : decode cX10_bestOf 4 = .ok (.iload_n 2, 1) := by decide +kernel
theorem dX10_bestOf_5 : decode cX10_bestOf 5 = .ok (.iconst 5, 1) := by decide +kernel
theorem dX10_bestOf_6 : decode cX10_bestOf 6 = .ok (.if_icmp .ge 25, 3) := by decide +kernel
theorem dX10_bestOf_9 : decode cX10_bestOf 9 = .ok (.iload_n 0, 1) := by decide +kernel
theorem dX10_bestOf_10 : decode cX10_bestOf 10 = .ok (.iload_n 2, 1) := by decide +kernel
theorem dX10_bestOf_11 : decode cX10_bestOf 11 = .ok (.invokestatic 244, 3) := by decide +kernel
theorem dX10_bestOf_14 : decode cX10_bestOf 14 = .ok (.iload_n 0, 1) := by decide +kernel
theorem dX10_bestOf_15 : decode cX10_bestOf 15 = .ok (.iload_n 1, 1) := by decide +kernel
theorem dX10_bestOf_16 : decode cX10_bestOf 16 = .ok (.invokestatic 244, 3) := by decide +kernel
theorem dX10_bestOf_19 : decode cX10_bestOf 19 = .ok (.lcmp, 1) := by decide +kernel
theorem dX10_bestOf_20 : decode cX10_bestOf 20 = .ok (.ifCond .le 5, 3) := by decide +kernel
theorem dX10_bestOf_23 : decode cX10_bestOf 23 = .ok (.iload_n 2, 1) := by decide +kernel
theorem dX10_bestOf_24 : decode cX10_bestOf 24 = .ok (.istore_n 1, 1) := by decide +kernel
theorem dX10_bestOf_25 : decode cX10_bestOf 25 = .ok (.iinc 2 1, 3) := by decide +kernel
theorem dX10_bestOf_28 : decode cX10_bestOf 28 = .ok (.goto (-24), 3) := by decide +kernel
theorem dX10_bestOf_31 : decode cX10_bestOf 31 = .ok (.iload_n 1, 1) := by decide +kernel
theorem dX10_bestOf_32 : decode cX10_bestOf 32 = .ok (.ireturn, 1) := by decide +kernel
set_option maxRecDepth 20000 in
theorem zl_X10_bestOf_0 : z_All z_tab cX10_bestOf 3 (some .int) RX10 pc_X10_bestOf 0 (k_X10_bestOf.drop 0) := z_cons (ok_iconst (by decide) dX10_bestOf_0 rfl rfl) <| z_cons (ok_istore_n (Nat.le_of_ble_eq_true rfl) dX10_bestOf_1 rfl rfl) <| z_cons (ok_iconst (by decide) dX10_bestOf_2 rfl rfl) <| z_cons (ok_istore_n (Nat.le_of_ble_eq_true rfl) dX10_bestOf_3 rfl rfl) <| z_cons (ok_iload_n dX10_bestOf_4 rfl rfl) <| z_cons (ok_iconst (by decide) dX10_bestOf_5 rfl rfl) <| z_cons (ok_icmp_ge (tgt := 31) (by decide) rfl dX10_bestOf_6 rfl rfl) <| z_cons (ok_iload_n dX10_bestOf_9 rfl rfl) <| z_cons (ok_iload_n dX10_bestOf_10 rfl rfl) <| z_cons (ok_callS (k := 248) (n := 2) qw_857 qw_618 ⟨by decide +kernel, by decide +kernel, by decide +kernel⟩ (Nat.le_of_ble_eq_true rfl) qw_859 qw_858 dX10_bestOf_11 rfl rfl) <| z_cons (ok_iload_n dX10_bestOf_14 rfl rfl) <| z_cons (ok_iload_n dX10_bestOf_15 rfl rfl) <| z_cons (ok_callS (k := 248) (n := 2) qw_857 qw_618 ⟨by decide +kernel, by decide +kernel, by decide +kernel⟩ (Nat.le_of_ble_eq_true rfl) qw_859 qw_858 dX10_bestOf_16 rfl rfl) <| z_cons (ok_lcmp dX10_bestOf_19 rfl rfl) <| z_cons (ok_if_le (tgt := 25) (by decide) rfl dX10_bestOf_20 rfl rfl) <| z_cons (ok_iload_n dX10_bestOf_23 rfl rfl) <| z_cons (ok_istore_n (Nat.le_of_ble_eq_true rfl) dX10_bestOf_24 rfl rfl) <| z_cons (ok_iinc (by decide) (Nat.le_of_ble_eq_true rfl) dX10_bestOf_25 rfl rfl) <| z_cons (ok_goto (tgt := 4) (by decide) rfl dX10_bestOf_28 rfl) <| z_cons (ok_iload_n dX10_bestOf_31 rfl rfl) <| z_cons (ok_iret rfl dX10_bestOf_32 rfl) <| z_nil
theorem dX10_best_0 : decode cX10_best 0 = .ok (.iload_n 1, 1) := by decide +kernel
theorem dX10_best_1 : decode cX10_best 1 = .ok (.iconst 1, 1) := by decide +kernel
theorem dX10_best_2 : decode cX10_best 2 = .ok (.bipush 12, 2) := by decide +kernel
theorem dX10_best_4 : decode cX10_best 4 = .ok (.invokestatic 32, 3) := by decide +kernel
theorem dX10_best_7 : decode cX10_best 7 = .ok (.ifCond .eq 10, 3) := by decide +kernel
theorem dX10_best_10 : decode cX10_best 10 = .ok (.iload_n 1, 1) := by decide +kernel
theorem dX10_best_11 : decode cX10_best 11 = .ok (.invokestatic 173, 3) := by decide +kernel
theorem dX10_best_14 : decode cX10_best 14 = .ok (.goto 4, 3) := by decide +kernel
theorem dX10_best_17 : decode cX10_best 17 = .ok (.iconst (-1), 1) := by decide +kernel
theorem dX10_best_18 : decode cX10_best 18 = .ok (.ireturn, 1) := by decide +kernel
set_option maxRecDepth 20000 in
theorem zl_X10_best_0 : z_All z_tab cX10_best 2 (some .int) RX10 pc_X10_best 0 (k_X10_best.drop 0) := z_cons (ok_iload_n dX10_best_0 rfl rfl) <| z_cons (ok_iconst (by decide) dX10_best_1 rfl rfl) <| z_cons (ok_bipush (by decide) dX10_best_2 rfl rfl) <| z_cons (ok_callS (k := 162) (n := 3) qw_617 qw_618 ⟨by decide +kernel, by decide +kernel, by decide +kernel⟩ (Nat.le_of_ble_eq_true rfl) qw_620 qw_619 dX10_best_4 rfl rfl) <| z_cons (ok_if_eq (tgt := 17) (by decide) rfl dX10_best_7 rfl rfl) <| z_cons (ok_iload_n dX10_best_10 rfl rfl) <| z_cons (ok_callS (k := 249) (n := 1) qw_779 qw_618 ⟨by decide +kernel, by decide +kernel, by decide +kernel⟩ (Nat.le_of_ble_eq_true rfl) qw_781 qw_780 dX10_best_11 rfl rfl) <| z_cons (ok_goto (tgt := 18) (by decide) rfl dX10_best_14 rfl) <| z_cons (ok_iconst (by decide) dX10_best_17 rfl rfl) <| z_cons (ok_iret rfl dX10_best_18 rfl) <| z_nil
theorem dX10_guessOf_0 : decode cX10_guessOf 0 = .ok (.iload_n 1, 1) := by decide +kernel
theorem dX10_guessOf_1 : decode cX10_guessOf 1 = .ok (.iload_n 2, 1) := by decide +kernel
theorem dX10_guessOf_2 : decode cX10_guessOf 2 = .ok (.iadd, 1) := by decide +kernel
theorem dX10_guessOf_3 : decode cX10_guessOf 3 = .ok (.iload_n 3, 1) := by decide +kernel
theorem dX10_guessOf_4 : decode cX10_guessOf 4 = .ok (.iadd, 1) := by decide +kernel
theorem dX10_guessOf_5 : decode cX10_guessOf 5 = .ok (.istore 4, 2) := by decide +kernel
theorem dX10_guessOf_7 : decode cX10_guessOf 7 = .ok (.iconst 0, 1) := by decide +kernel
theorem dX10_guessOf_8 : decode cX10_guessOf 8 = .ok (.istore 5, 2) := by decide +kernel
theorem dX10_guessOf_10 : decode cX10_guessOf 10 = .ok (.iload 5, 2) := by decide +kernel
theorem dX10_guessOf_12 : decode cX10_guessOf 12 = .ok (.iconst 5, 1) := by decide +kernel
theorem dX10_guessOf_13 : decode cX10_guessOf 13 = .ok (.if_icmp .ge 18, 3) := by decide +kernel
theorem dX10_guessOf_16 : decode cX10_guessOf 16 = .ok (.iconst 1, 1) := by decide +kernel
theorem dX10_guessOf_17 : decode cX10_guessOf 17 = .ok (.iload 5, 2) := by decide +kernel
theorem dX10_guessOf_19 : decode cX10_guessOf 19 = .ok (.ishl, 1) := by decide +kernel
theorem dX10_guessOf_20 : decode cX10_guessOf 20 = .ok (.iload 4, 2) := by decide +kernel
theorem dX10_guessOf_22 : decode cX10_guessOf 22 = .ok (.if_icmp .eq 9, 3) := by decide +kernel
theorem dX10_guessOf_25 : decode cX10_guessOf 25 = .ok (.iinc 5 1, 3) := by decide +kernel
theorem dX10_guessOf_28 : decode cX10_guessOf 28 = .ok (.goto (-18), 3) := by decide +kernel
theorem dX10_guessOf_31 : decode cX10_guessOf 31 = .ok (.iload 5, 2) := by decide +kernel
theorem dX10_guessOf_33 : decode cX10_guessOf 33 = .ok (.iconst 5, 1) := by decide +kernel
theorem dX10_guessOf_34 : decode cX10_guessOf 34 = .ok (.if_icmp .ne 5, 3) := by decide +kernel
theorem dX10_guessOf_37 : decode cX10_guessOf 37 = .ok (.iconst (-1), 1) := by decide +kernel
theorem dX10_guessOf_38 : decode cX10_guessOf 38 = .ok (.ireturn, 1) := by decide +kernel
theorem dX10_guessOf_39 : decode cX10_guessOf 39 = .ok (.aload_n 0, 1) := by decide +kernel
theorem dX10_guessOf_40 : decode cX10_guessOf 40 = .ok (.invokevirtual 229, 3) := by decide +kernel
theorem dX10_guessOf_43 : decode cX10_guessOf 43 = .ok (.iconst (-1), 1) := by decide +kernel
theorem dX10_guessOf_44 : decode cX10_guessOf 44 = .ok (.istore 6, 2) := by decide +kernel
theorem dX10_guessOf_46 : decode cX10_guessOf 46 = .ok (.lconst 0, 1) := by decide +kernel
theorem dX10_guessOf_47 : decode cX10_guessOf 47 = .ok (.lstore 7, 2) := by decide +kernel
theorem dX10_guessOf_49 : decode cX10_guessOf 49 = .ok (.iconst 0, 1) := by decide +kernel
theorem dX10_guessOf_50 : decode cX10_guessOf 50 = .ok (.istore 9, 2) := by decide +kernel
theorem dX10_guessOf_52 : decode cX10_guessOf 52 = .ok (.iload 9, 2) := by decide +kernel
theorem dX10_guessOf_54 : decode cX10_guessOf 54 = .ok (.bipush 12, 2) := by decide +kernel
theorem dX10_guessOf_56 : decode cX10_guessOf 56 = .ok (.if_icmp .gt 76, 3) := by decide +kernel
theorem dX10_guessOf_59 : decode cX10_guessOf 59 = .ok (.iload 9, 2) := by decide +kernel
theorem dX10_guessOf_61 : decode cX10_guessOf 61 = .ok (.iload_n 2, 1) := by decide +kernel
theorem dX10_guessOf_62 : decode cX10_guessOf 62 = .ok (.if_icmp .lt 64, 3) := by decide +kernel
theorem dX10_guessOf_65 : decode cX10_guessOf 65 = .ok (.aload_n 0, 1) := by decide +kernel
theorem dX10_guessOf_66 : decode cX10_guessOf 66 = .ok (.getfield 24, 3) := by decide +kernel
theorem dX10_guessOf_69 : decode cX10_guessOf 69 = .ok (.bipush 13, 2) := by decide +kernel
theorem dX10_guessOf_71 : decode cX10_guessOf 71 = .ok (.iload_n 3, 1) := by decide +kernel
theorem dX10_guessOf_72 : decode cX10_guessOf 72 = .ok (.imul, 1) := by decide +kernel
theorem dX10_guessOf_73 : decode cX10_guessOf 73 = .ok (.iload 9, 2) := by decide +kernel
theorem dX10_guessOf_75 : decode cX10_guessOf 75 = .ok (.iadd, 1) := by decide +kernel
theorem dX10_guessOf_76 : decode cX10_guessOf 76 = .ok (.iload_n 2, 1) := by decide +kernel
theorem dX10_guessOf_77 : decode cX10_guessOf 77 = .ok (.isub, 1) := by decide +kernel
theorem dX10_guessOf_78 : decode cX10_guessOf 78 = .ok (.laload, 1) := by decide +kernel
theorem dX10_guessOf_79 : decode cX10_guessOf 79 = .ok (.lconst 0, 1) := by decide +kernel
theorem dX10_guessOf_80 : decode cX10_guessOf 80 = .ok (.lcmp, 1) := by decide +kernel
theorem dX10_guessOf_81 : decode cX10_guessOf 81 = .ok (.ifCond .ne 6, 3) := by decide +kernel
theorem dX10_guessOf_84 : decode cX10_guessOf 84 = .ok (.goto 42, 3) := by decide +kernel
theorem dX10_guessOf_87 : decode cX10_guessOf 87 = .ok (.aload_n 0, 1) := by decide +kernel
theorem dX10_guessOf_88 : decode cX10_guessOf 88 = .ok (.iload 9, 2) := by decide +kernel
theorem dX10_guessOf_90 : decode cX10_guessOf 90 = .ok (.iload_n 1, 1) := by decide +kernel
theorem dX10_guessOf_91 : decode cX10_guessOf 91 = .ok (.iload_n 2, 1) := by decide +kernel
theorem dX10_guessOf_92 : decode cX10_guessOf 92 = .ok (.iload_n 3, 1) := by decide +kernel
theorem dX10_guessOf_93 : decode cX10_guessOf 93 = .ok (.invokevirtual 232, 3) := by decide +kernel
theorem dX10_guessOf_96 : decode cX10_guessOf 96 = .ok (.iload 5, 2) := by decide +kernel
theorem dX10_guessOf_98 : decode cX10_guessOf 98 = .ok (.bipush 12, 2) := by decide +kernel
theorem dX10_guessOf_100 : decode cX10_guessOf 100 = .ok (.iload 9, 2) := by decide +kernel
theorem dX10_guessOf_102 : decode cX10_guessOf 102 = .ok (.isub, 1) := by decide +kernel
theorem dX10_guessOf_103 : decode cX10_guessOf 103 = .ok (.imul, 1) := by decide +kernel
theorem dX10_guessOf_104 : decode cX10_guessOf 104 = .ok (.lshl, 1) := by decide +kernel
theorem dX10_guessOf_105 : decode cX10_guessOf 105 = .ok (.lstore 10, 2) := by decide +kernel
theorem dX10_guessOf_107 : decode cX10_guessOf 107 = .ok (.lload 10, 2) := by decide +kernel
theorem dX10_guessOf_109 : decode cX10_guessOf 109 = .ok (.lload 7, 2) := by decide +kernel
theorem dX10_guessOf_111 : decode cX10_guessOf 111 = .ok (.lcmp, 1) := by decide +kernel
theorem dX10_guessOf_112 : decode cX10_guessOf 112 = .ok (.ifCond .gt 6, 3) := by decide +kernel
theorem dX10_guessOf_115 : decode cX10_guessOf 115 = .ok (.goto 11, 3) := by decide +kernel
theorem dX10_guessOf_118 : decode cX10_guessOf 118 = .ok (.lload 10, 2) := by decide +kernel
theorem dX10_guessOf_120 : decode cX10_guessOf 120 = .ok (.lstore 7, 2) := by decide +kernel
theorem dX10_guessOf_122 : decode cX10_guessOf 122 = .ok (.iload 9, 2) := by decide +kernel
theorem dX10_guessOf_124 : decode cX10_guessOf 124 = .ok (.istore 6, 2) := by decide +kernel
theorem dX10_guessOf_126 : decode cX10_guessOf 126 = .ok (.iinc 9 1, 3) := by decide +kernel
theorem dX10_guessOf_129 : decode cX10_guessOf 129 = .ok (.goto (-77), 3) := by decide +kernel
theorem dX10_guessOf_132 : decode cX10_guessOf 132 = .ok (.iload 6, 2) := by decide +kernel
theorem dX10_guessOf_134 : decode cX10_guessOf 134 = .ok (.ireturn, 1) := by decide +kernel
set_option maxRecDepth 20000 in
theorem zl_X10_guessOf_1 : z_All z_tab cX10_guessOf 12 (some .int) RX10 pc_X10_guessOf 40 (k_X10_guessOf.drop 40) := z_cons (ok_iload_n dX10_guessOf_71 rfl rfl) <| z_cons (ok_imul dX10_guessOf_72 rfl rfl) <| z_cons (ok_iload dX10_guessOf_73 rfl rfl) <| z_cons (ok_iadd dX10_guessOf_75 rfl rfl) <| z_cons (ok_iload_n dX10_guessOf_76 rfl rfl) <| z_cons (ok_isub dX10_guessOf_77 rfl rfl) <| z_cons (ok_lald dX10_guessOf_78 rfl rfl) <| z_cons (ok_lconst (by decide) dX10_guessOf_79 rfl rfl) <| z_cons (ok_lcmp dX10_guessOf_80 rfl rfl) <| z_cons (ok_if_ne (tgt := 87) (by decide) rfl dX10_guessOf_81 rfl rfl) <| z_cons (ok_goto (tgt := 126) (by decide) rfl dX10_guessOf_84 rfl) <| z_cons (ok_aload_n dX10_guessOf_87 rfl rfl) <| z_cons (ok_iload dX10_guessOf_88 rfl rfl) <| z_cons (ok_iload_n dX10_guessOf_90 rfl rfl) <| z_cons (ok_iload_n dX10_guessOf_91 rfl rfl) <| z_cons (ok_iload_n dX10_guessOf_92 rfl rfl) <| z_cons (ok_callv ⟨by decide, by decide, by decide⟩ (ci := 8) (C := RX10) (T := TX10) rfl go_11 (k := 244) (n := 4) qw_847 qw_618 ⟨by decide +kernel, by decide +kernel, by decide +kernel⟩ (Nat.le_of_ble_eq_true rfl) qw_848 qw_849 qw_850 dX10_guessOf_93 rfl rfl) <| z_cons (ok_iload dX10_guessOf_96 rfl rfl) <| z_cons (ok_bipush (by decide) dX10_guessOf_98 rfl rfl) <| z_cons (ok_iload dX10_guessOf_100 rfl rfl) <| z_cons (ok_isub dX10_guessOf_102 rfl rfl) <| z_cons (ok_imul dX10_guessOf_103 rfl rfl) <| z_cons (ok_lshl dX10_guessOf_104 rfl rfl) <| z_cons (ok_lstore (Nat.le_of_ble_eq_true rfl) dX10_guessOf_105 rfl rfl) <| z_cons (ok_lload dX10_guessOf_107 rfl rfl) <| z_cons (ok_lload dX10_guessOf_109 rfl rfl) <| z_cons (ok_lcmp dX10_guessOf_111 rfl rfl) <| z_cons (ok_if_gt (tgt := 118) (by decide) rfl dX10_guessOf_112 rfl rfl) <| z_cons (ok_goto (tgt := 126) (by decide) rfl dX10_guessOf_115 rfl) <| z_cons (ok_lload dX10_guessOf_118 rfl rfl) <| z_cons (ok_lstore (Nat.le_of_ble_eq_true rfl) dX10_guessOf_120 rfl rfl) <| z_cons (ok_iload dX10_guessOf_122 rfl rfl) <| z_cons (ok_istore (Nat.le_of_ble_eq_true rfl) dX10_guessOf_124 rfl rfl) <| z_cons (ok_iinc (by decide) (Nat.le_of_ble_eq_true rfl) dX10_guessOf_126 rfl rfl) <| z_cons (ok_goto (tgt := 52) (by decide) rfl dX10_guessOf_129 rfl) <| z_cons (ok_iload dX10_guessOf_132 rfl rfl) <| z_cons (ok_iret rfl dX10_guessOf_134 rfl) <| z_nil
set_option maxRecDepth 20000 in
theorem zl_X10_guessOf_0 : z_All z_tab cX10_guessOf 12 (some .int) RX10 pc_X10_guessOf 0 (k_X10_guessOf.drop 0) := z_cons (ok_iload_n dX10_guessOf_0 rfl rfl) <| z_cons (ok_iload_n dX10_guessOf_1 rfl rfl) <| z_cons (ok_iadd dX10_guessOf_2 rfl rfl) <| z_cons (ok_iload_n dX10_guessOf_3 rfl rfl) <| z_cons (ok_iadd dX10_guessOf_4 rfl rfl) <| z_cons (ok_istore (Nat.le_of_ble_eq_true rfl) dX10_guessOf_5 rfl rfl) <| z_cons (ok_iconst (by decide) dX10_guessOf_7 rfl rfl) <| z_cons (ok_istore (Nat.le_of_ble_eq_true rfl) dX10_guessOf_8 rfl rfl) <| z_cons (ok_iload dX10_guessOf_10 rfl rfl) <| z_cons (ok_iconst (by decide) dX10_guessOf_12 rfl rfl) <| z_cons (ok_icmp_ge (tgt := 31) (by decide) rfl dX10_guessOf_13 rfl rfl) <| z_cons (ok_iconst (by decide) dX10_guessOf_16 rfl rfl) <| z_cons (ok_iload dX10_guessOf_17 rfl rfl) <| z_cons (ok_ishl dX10_guessOf_19 rfl rfl) <| z_cons (ok_iload dX10_guessOf_20 rfl rfl) <| z_cons (ok_icmp_eq (tgt := 31) (by decide) rfl dX10_guessOf_22 rfl rfl) <| z_cons (ok_iinc (by decide) (Nat.le_of_ble_eq_true rfl) dX10_guessOf_25 rfl rfl) <| z_cons (ok_goto (tgt := 10) (by decide) rfl dX10_guessOf_28 rfl) <| z_cons (ok_iload dX10_guessOf_31 rfl rfl) <| z_cons (ok_iconst (by decide) dX10_guessOf_33 rfl rfl) <| z_cons (ok_icmp_ne (tgt := 39) (by decide) rfl dX10_guessOf_34 rfl rfl) <| z_cons (ok_iconst (by decide) dX10_guessOf_37 rfl rfl) <| z_cons (ok_iret rfl dX10_guessOf_38 rfl) <| z_cons (ok_aload_n dX10_guessOf_39 rfl rfl) <| z_cons (ok_callv ⟨by decide, by decide, by decide⟩ (ci := 8) (C := RX10) (T := TX10) rfl go_11 (k := 243) (n := 0) qw_843 qw_618 ⟨by decide +kernel, by decide +kernel, by decide +kernel⟩ (Nat.le_of_ble_eq_true rfl) qw_844 qw_845 qw_846 dX10_guessOf_40 rfl rfl) <| z_cons (ok_iconst (by decide) dX10_guessOf_43 rfl rfl) <| z_cons (ok_istore (Nat.le_of_ble_eq_true rfl) dX10_guessOf_44 rfl rfl) <| z_cons (ok_lconst (by decide) dX10_guessOf_46 rfl rfl) <| z_cons (ok_lstore (Nat.le_of_ble_eq_true rfl) dX10_guessOf_47 rfl rfl) <| z_cons (ok_iconst (by decide) dX10_guessOf_49 rfl rfl) <| z_cons (ok_istore (Nat.le_of_ble_eq_true rfl) dX10_guessOf_50 rfl rfl) <| z_cons (ok_iload dX10_guessOf_52 rfl rfl) <| z_cons (ok_bipush (by decide) dX10_guessOf_54 rfl rfl) <| z_cons (ok_icmp_gt (tgt := 132) (by decide) rfl dX10_guessOf_56 rfl rfl) <| z_cons (ok_iload dX10_guessOf_59 rfl rfl) <| z_cons (ok_iload_n dX10_guessOf_61 rfl rfl) <| z_cons (ok_icmp_lt (tgt := 126) (by decide) rfl dX10_guessOf_62 rfl rfl) <| z_cons (ok_aload_n dX10_guessOf_65 rfl rfl) <| z_cons (ok_getr (k := 7) ⟨by decide, by decide, by decide⟩ (ci := 8) (T := TX10) rfl rfl (Nat.le_of_ble_eq_true rfl) iw_X10 qw_841 gr_11_7 (fun _ _ => by simp) (fun w i => List.mem_of_getElem? (i := 4) rfl) dX10_guessOf_66 rfl rfl) <| z_cons (ok_bipush (by decide) dX10_guessOf_69 rfl rfl) <| zl_X10_guessOf_1
theorem dX10_guess_0 : decode cX10_guess 0 = .ok (.iload_n 1, 1) := by decide +kernel
theorem dX10_guess_1 : decode cX10_guess 1 = .ok (.iconst 0, 1) := by decide +kernel
theorem dX10_guess_2 : decode cX10_guess 2 = .ok (.bipush 16, 2) := by decide +kernel
theorem dX10_guess_4 : decode cX10_guess 4 = .ok (.invokestatic 32, 3) := by decide +kernel
theorem dX10_guess_7 : decode cX10_guess 7 = .ok (.ifCond .eq 33, 3) := by decide +kernel
theorem dX10_guess_10 : decode cX10_guess 10 = .ok (.iload_n 2, 1) := by decide +kernel
theorem dX10_guess_11 : decode cX10_guess 11 = .ok (.iconst 0, 1) := by decide +kernel
theorem dX10_guess_12 : decode cX10_guess 12 = .ok (.bipush 16, 2) := by decide +kernel
theorem dX10_guess_14 : decode cX10_guess 14 = .ok (.invokestatic 32, 3) := by decide +kernel
theorem dX10_guess_17 : decode cX10_guess 17 = .ok (.ifCond .eq 23, 3) := by decide +kernel
theorem dX10_guess_20 : decode cX10_guess 20 = .ok (.iload_n 3, 1) := by decide +kernel
theorem dX10_guess_21 : decode cX10_guess 21 = .ok (.iconst 0, 1) := by decide +kernel
theorem dX10_guess_22 : decode cX10_guess 22 = .ok (.bipush 16, 2) := by decide +kernel
theorem dX10_guess_24 : decode cX10_guess 24 = .ok (.invokestatic 32, 3) := by decide +kernel
theorem dX10_guess_27 : decode cX10_guess 27 = .ok (.ifCond .eq 13, 3) := by decide +kernel
theorem dX10_guess_30 : decode cX10_guess 30 = .ok (.aload_n 0, 1) := by decide +kernel
theorem dX10_guess_31 : decode cX10_guess 31 = .ok (.iload_n 1, 1) := by decide +kernel
theorem dX10_guess_32 : decode cX10_guess 32 = .ok (.iload_n 2, 1) := by decide +kernel
theorem dX10_guess_33 : decode cX10_guess 33 = .ok (.iload_n 3, 1) := by decide +kernel
theorem dX10_guess_34 : decode cX10_guess 34 = .ok (.invokevirtual 170, 3) := by decide +kernel
theorem dX10_guess_37 : decode cX10_guess 37 = .ok (.goto 4, 3) := by decide +kernel
theorem dX10_guess_40 : decode cX10_guess 40 = .ok (.iconst (-1), 1) := by decide +kernel
theorem dX10_guess_41 : decode cX10_guess 41 = .ok (.ireturn, 1) := by decide +kernel
set_option maxRecDepth 20000 in
theorem zl_X10_guess_0 : z_All z_tab cX10_guess 4 (some .int) RX10 pc_X10_guess 0 (k_X10_guess.drop 0) := z_cons (ok_iload_n dX10_guess_0 rfl rfl) <| z_cons (ok_iconst (by decide) dX10_guess_1 rfl rfl) <| z_cons (ok_bipush (by decide) dX10_guess_2 rfl rfl) <| z_cons (ok_callS (k := 162) (n := 3) qw_617 qw_618 ⟨by decide +kernel, by decide +kernel, by decide +kernel⟩ (Nat.le_of_ble_eq_true rfl) qw_620 qw_619 dX10_guess_4 rfl rfl) <| z_cons (ok_if_eq (tgt := 40) (by decide) rfl dX10_guess_7 rfl rfl) <| z_cons (ok_iload_n dX10_guess_10 rfl rfl) <| z_cons (ok_iconst (by decide) dX10_guess_11 rfl rfl) <| z_cons (ok_bipush (by decide) dX10_guess_12 rfl rfl) <| z_cons (ok_callS (k := 162) (n := 3) qw_617 qw_618 ⟨by decide +kernel, by decide +kernel, by decide +kernel⟩ (Nat.le_of_ble_eq_true rfl) qw_620 qw_619 dX10_guess_14 rfl rfl) <| z_cons (ok_if_eq (tgt := 40) (by decide) rfl dX10_guess_17 rfl rfl) <| z_cons (ok_iload_n dX10_guess_20 rfl rfl) <| z_cons (ok_iconst (by decide) dX10_guess_21 rfl rfl) <| z_cons (ok_bipush (by decide) dX10_guess_22 rfl rfl) <| z_cons (ok_callS (k := 162) (n := 3) qw_617 qw_618 ⟨by decide +kernel, by decide +kernel, by decide +kernel⟩ (Nat.le_of_ble_eq_true rfl) qw_620 qw_619 dX10_guess_24 rfl rfl) <| z_cons (ok_if_eq (tgt := 40) (by decide) rfl dX10_guess_27 rfl rfl) <| z_cons (ok_aload_n dX10_guess_30 rfl rfl) <| z_cons (ok_iload_n dX10_guess_31 rfl rfl) <| z_cons (ok_iload_n dX10_guess_32 rfl rfl) <| z_cons (ok_iload_n dX10_guess_33 rfl rfl) <| z_cons (ok_callv ⟨by decide, by decide, by decide⟩ (ci := 8) (C := RX10) (T := TX10) rfl go_11 (k := 251) (n := 3) qw_775 qw_618 ⟨by decide +kernel, by decide +kernel, by decide +kernel⟩ (Nat.le_of_ble_eq_true rfl) qw_776 qw_777 qw_778 dX10_guess_34 rfl rfl) <| z_cons (ok_goto (tgt := 41) (by decide) rfl dX10_guess_37 rfl) <| z_cons (ok_iconst (by decide) dX10_guess_40 rfl rfl) <| z_cons (ok_iret rfl dX10_guess_41 rfl) <| z_nil
theorem dX10_thereMany_0 : decode cX10_thereMany 0 = .ok (.iconst 0, 1) := by decide +kernel
theorem dX10_thereMany_1 : decode cX10_thereMany 1 = .ok (.istore_n 1, 1) := by decide +kernel
theorem dX10_thereMany_2 : decode cX10_thereMany 2 = .ok (.iconst 0, 1) := by decide +kernel
theorem dX10_thereMany_3 : decode cX10_thereMany 3 = .ok (.istore_n 2, 1) := by decide +kernel
theorem dX10_thereMany_4 : decode cX10_thereMany 4 = .ok (.iload_n 2, 1) := by decide +kernel
theorem dX10_thereMany_5 : decode cX10_thereMany 5 = .ok (.bipush 24, 2) := by decide +kernel
theorem dX10_thereMany_7 : decode cX10_thereMany 7 = .ok (.if_icmp .ge 22, 3) := by decide +kernel
theorem dX10_thereMany_10 : decode cX10_thereMany 10 = .ok (.iload_n 1, 1) := by decide +kernel
theorem dX10_thereMany_11 : decode cX10_thereMany 11 = .ok (.aload_n 0, 1) := by decide +kernel
theorem dX10_thereMany_12 : decode cX10_thereMany 12 = .ok (.getfield 10, 3) := by decide +kernel
theorem dX10_thereMany_15 : decode cX10_thereMany 15 = .ok (.sipush 454, 3) := by decide +kernel
theorem dX10_thereMany_18 : decode cX10_thereMany 18 = .ok (.iload_n 2, 1) := by decide +kernel
theorem dX10_thereMany_19 : decode cX10_thereMany 19 = .ok (.iadd, 1) := by decide +kernel
theorem dX10_thereMany_20 : decode cX10_thereMany 20 = .ok (.iaload, 1) := by decide +kernel
theorem dX10_thereMany_21 : decode cX10_thereMany 21 = .ok (.iadd, 1) := by decide +kernel
theorem dX10_thereMany_22 : decode cX10_thereMany 22 = .ok (.istore_n 1, 1) := by decide +kernel
theorem dX10_thereMany_23 : decode cX10_thereMany 23 = .ok (.iinc 2 1, 3) := by decide +kernel
theorem dX10_thereMany_26 : decode cX10_thereMany 26 = .ok (.goto (-22), 3) := by decide +kernel
theorem dX10_thereMany_29 : decode cX10_thereMany 29 = .ok (.iload_n 1, 1) := by decide +kernel
theorem dX10_thereMany_30 : decode cX10_thereMany 30 = .ok (.ireturn, 1) := by decide +kernel
set_option maxRecDepth 20000 in
theorem zl_X10_thereMany_0 : z_All z_tab cX10_thereMany 3 (some .int) RX10 pc_X10_thereMany 0 (k_X10_thereMany.drop 0) := z_cons (ok_iconst (by decide) dX10_thereMany_0 rfl rfl) <| z_cons (ok_istore_n (Nat.le_of_ble_eq_true rfl) dX10_thereMany_1 rfl rfl) <| z_cons (ok_iconst (by decide) dX10_thereMany_2 rfl rfl) <| z_cons (ok_istore_n (Nat.le_of_ble_eq_true rfl) dX10_thereMany_3 rfl rfl) <| z_cons (ok_iload_n dX10_thereMany_4 rfl rfl) <| z_cons (ok_bipush (by decide) dX10_thereMany_5 rfl rfl) <| z_cons (ok_icmp_ge (tgt := 29) (by decide) rfl dX10_thereMany_7 rfl rfl) <| z_cons (ok_iload_n dX10_thereMany_10 rfl rfl) <| z_cons (ok_aload_n dX10_thereMany_11 rfl rfl) <| z_cons (ok_getr (k := 0) ⟨by decide, by decide, by decide⟩ (ci := 8) (T := TX10) rfl rfl (Nat.le_of_ble_eq_true rfl) iw_X10 qw_616 gr_11_0 (fun _ _ => by simp) (fun w i => List.mem_of_getElem? (i := 0) rfl) dX10_thereMany_12 rfl rfl) <| z_cons (ok_sipush (by decide) dX10_thereMany_15 rfl rfl) <| z_cons (ok_iload_n dX10_thereMany_18 rfl rfl) <| z_cons (ok_iadd dX10_thereMany_19 rfl rfl) <| z_cons (ok_iald dX10_thereMany_20 rfl rfl) <| z_cons (ok_iadd dX10_thereMany_21 rfl rfl) <| z_cons (ok_istore_n (Nat.le_of_ble_eq_true rfl) dX10_thereMany_22 rfl rfl) <| z_cons (ok_iinc (by decide) (Nat.le_of_ble_eq_true rfl) dX10_thereMany_23 rfl rfl) <| z_cons (ok_goto (tgt := 4) (by decide) rfl dX10_thereMany_26 rfl) <| z_cons (ok_iload_n dX10_thereMany_29 rfl rfl) <| z_cons (ok_iret rfl dX10_thereMany_30 rfl) <| z_nil
theorem dX10_valuesIn_0 : decode cX10_valuesIn 0 = .ok (.iconst 0, 1) := by decide +kernel
theorem dX10_valuesIn_1 : decode cX10_valuesIn 1 = .ok (.istore_n 3, 1) := by decide +kernel
theorem dX10_valuesIn_2 : decode cX10_valuesIn 2 = .ok (.iconst 0, 1) := by decide +kernel
theorem dX10_valuesIn_3 : decode cX10_valuesIn 3 = .ok (.istore 4, 2) := by decide +kernel
theorem dX10_valuesIn_5 : decode cX10_valuesIn 5 = .ok (.iload 4, 2) := by decide +kernel
theorem dX10_valuesIn_7 : decode cX10_valuesIn 7 = .ok (.bipush 24, 2) := by decide +kernel
theorem dX10_valuesIn_9 : decode cX10_valuesIn 9 = .ok (.if_icmp .ge 103, 3) := by decide +kernel
theorem dX10_valuesIn_12 : decode cX10_valuesIn 12 = .ok (.aload_n 0, 1) := by decide +kernel
theorem dX10_valuesIn_13 : decode cX10_valuesIn 13 = .ok (.getfield 10, 3) := by decide +kernel
theorem dX10_valuesIn_16 : decode cX10_valuesIn 16 = .ok (.sipush 454, 3) := by decide +kernel
theorem dX10_valuesIn_19 : decode cX10_valuesIn 19 = .ok (.iload 4, 2) := by decide +kernel
theorem dX10_valuesIn_21 : decode cX10_valuesIn 21 = .ok (.iadd, 1) := by decide +kernel
theorem dX10_valuesIn_22 : decode cX10_valuesIn 22 = .ok (.iaload, 1) := by decide +kernel
theorem dX10_valuesIn_23 : decode cX10_valuesIn 23 = .ok (.ifCond .ne 6, 3) := by decide +kernel
theorem dX10_valuesIn_26 : decode cX10_valuesIn 26 = .ok (.goto 80, 3) := by decide +kernel
theorem dX10_valuesIn_29 : decode cX10_valuesIn 29 = .ok (.iconst 1, 1) := by decide +kernel
theorem dX10_valuesIn_30 : decode cX10_valuesIn 30 = .ok (.istore 5, 2) := by decide +kernel
theorem dX10_valuesIn_32 : decode cX10_valuesIn 32 = .ok (.iconst 0, 1) := by decide +kernel
theorem dX10_valuesIn_33 : decode cX10_valuesIn 33 = .ok (.istore 6, 2) := by decide +kernel
theorem dX10_valuesIn_35 : decode cX10_valuesIn 35 = .ok (.iload 6, 2) := by decide +kernel
theorem dX10_valuesIn_37 : decode cX10_valuesIn 37 = .ok (.iload 4, 2) := by decide +kernel
theorem dX10_valuesIn_39 : decode cX10_valuesIn 39 = .ok (.if_icmp .ge 54, 3) := by decide +kernel
theorem dX10_valuesIn_42 : decode cX10_valuesIn 42 = .ok (.iload 5, 2) := by decide +kernel
theorem dX10_valuesIn_44 : decode cX10_valuesIn 44 = .ok (.ifCond .eq 40, 3) := by decide +kernel
theorem dX10_valuesIn_47 : decode cX10_valuesIn 47 = .ok (.aload_n 0, 1) := by decide +kernel
theorem dX10_valuesIn_48 : decode cX10_valuesIn 48 = .ok (.getfield 10, 3) := by decide +kernel
theorem dX10_valuesIn_51 : decode cX10_valuesIn 51 = .ok (.sipush 454, 3) := by decide +kernel
theorem dX10_valuesIn_54 : decode cX10_valuesIn 54 = .ok (.iload 6, 2) := by decide +kernel
theorem dX10_valuesIn_56 : decode cX10_valuesIn 56 = .ok (.iadd, 1) := by decide +kernel
theorem dX10_valuesIn_57 : decode cX10_valuesIn 57 = .ok (.iaload, 1) := by decide +kernel
theorem dX10_valuesIn_58 : decode cX10_valuesIn 58 = .ok (.ifCond .eq 22, 3) := by decide +kernel
theorem dX10_valuesIn_61 : decode cX10_valuesIn 61 = .ok (.aload_n 0, 1) := by decide +kernel
theorem dX10_valuesIn_62 : decode cX10_valuesIn 62 = .ok (.iload 6, 2) := by decide +kernel
theorem dX10_valuesIn_64 : decode cX10_valuesIn 64 = .ok (.iload_n 1, 1) := by decide +kernel
theorem dX10_valuesIn_65 : decode cX10_valuesIn 65 = .ok (.iload_n 2, 1) := by decide +kernel
theorem dX10_valuesIn_66 : decode cX10_valuesIn 66 = .ok (.invokevirtual 98, 3) := by decide +kernel
theorem dX10_valuesIn_69 : decode cX10_valuesIn 69 = .ok (.aload_n 0, 1) := by decide +kernel
theorem dX10_valuesIn_70 : decode cX10_valuesIn 70 = .ok (.iload 4, 2) := by decide +kernel
theorem dX10_valuesIn_72 : decode cX10_valuesIn 72 = .ok (.iload_n 1, 1) := by decide +kernel
theorem dX10_valuesIn_73 : decode cX10_valuesIn 73 = .ok (.iload_n 2, 1) := by decide +kernel
theorem dX10_valuesIn_74 : decode cX10_valuesIn 74 = .ok (.invokevirtual 98, 3) := by decide +kernel
theorem dX10_valuesIn_77 : decode cX10_valuesIn 77 = .ok (.if_icmp .eq 7, 3) := by decide +kernel
theorem dX10_valuesIn_80 : decode cX10_valuesIn 80 = .ok (.iconst 1, 1) := by decide +kernel
theorem dX10_valuesIn_81 : decode cX10_valuesIn 81 = .ok (.goto 4, 3) := by decide +kernel
theorem dX10_valuesIn_84 : decode cX10_valuesIn 84 = .ok (.iconst 0, 1) := by decide +kernel
theorem dX10_valuesIn_85 : decode cX10_valuesIn 85 = .ok (.istore 5, 2) := by decide +kernel
theorem dX10_valuesIn_87 : decode cX10_valuesIn 87 = .ok (.iinc 6 1, 3) := by decide +kernel
theorem dX10_valuesIn_90 : decode cX10_valuesIn 90 = .ok (.goto (-55), 3) := by decide +kernel
theorem dX10_valuesIn_93 : decode cX10_valuesIn 93 = .ok (.iload_n 3, 1) := by decide +kernel
theorem dX10_valuesIn_94 : decode cX10_valuesIn 94 = .ok (.iload 5, 2) := by decide +kernel
theorem dX10_valuesIn_96 : decode cX10_valuesIn 96 = .ok (.ifCond .eq 7, 3) := by decide +kernel
theorem dX10_valuesIn_99 : decode cX10_valuesIn 99 = .ok (.iconst 1, 1) := by decide +kernel
theorem dX10_valuesIn_100 : decode cX10_valuesIn 100 = .ok (.goto 4, 3) := by decide +kernel
theorem dX10_valuesIn_103 : decode cX10_valuesIn 103 = .ok (.iconst 0, 1) := by decide +kernel
theorem dX10_valuesIn_104 : decode cX10_valuesIn 104 = .ok (.iadd, 1) := by decide +kernel
theorem dX10_valuesIn_105 : decode cX10_valuesIn 105 = .ok (.istore_n 3, 1) := by decide +kernel
theorem dX10_valuesIn_106 : decode cX10_valuesIn 106 = .ok (.iinc 4 1, 3) := by decide +kernel
theorem dX10_valuesIn_109 : decode cX10_valuesIn 109 = .ok (.goto (-104), 3) := by decide +kernel
theorem dX10_valuesIn_112 : decode cX10_valuesIn 112 = .ok (.iload_n 3, 1) := by decide +kernel
theorem dX10_valuesIn_113 : decode cX10_valuesIn 113 = .ok (.ireturn, 1) := by decide +kernel
set_option maxRecDepth 20000 in
theorem zl_X10_valuesIn_1 : z_All z_tab cX10_valuesIn 7 (some .int) RX10 pc_X10_valuesIn 40 (k_X10_valuesIn.drop 40) := z_cons (ok_callv ⟨by decide, by decide, by decide⟩ (ci := 8) (C := RX10) (T := TX10) rfl go_11 (k := 193) (n := 3) qw_696 qw_618 ⟨by decide +kernel, by decide +kernel, by decide +kernel⟩ (Nat.le_of_ble_eq_true rfl) qw_697 qw_698 qw_699 dX10_valuesIn_74 rfl rfl) <| z_cons (ok_icmp_eq (tgt := 84) (by decide) rfl dX10_valuesIn_77 rfl rfl) <| z_cons (ok_iconst (by decide) dX10_valuesIn_80 rfl rfl) <| z_cons (ok_goto (tgt := 85) (by decide) rfl dX10_valuesIn_81 rfl) <| z_cons (ok_iconst (by decide) dX10_valuesIn_84 rfl rfl) <| z_cons (ok_istore (Nat.le_of_ble_eq_true rfl) dX10_valuesIn_85 rfl rfl) <| z_cons (ok_iinc (by decide) (Nat.le_of_ble_eq_true rfl) dX10_valuesIn_87 rfl rfl) <| z_cons (ok_goto (tgt := 35) (by decide) rfl dX10_valuesIn_90 rfl) <| z_cons (ok_iload_n dX10_valuesIn_93 rfl rfl) <| z_cons (ok_iload dX10_valuesIn_94 rfl rfl) <| z_cons (ok_if_eq (tgt := 103) (by decide) rfl dX10_valuesIn_96 rfl rfl) <| z_cons (ok_iconst (by decide) dX10_valuesIn_99 rfl rfl) <| z_cons (ok_goto (tgt := 104) (by decide) rfl dX10_valuesIn_100 rfl) <| z_cons (ok_iconst (by decide) dX10_valuesIn_103 rfl rfl) <| z_cons (ok_iadd dX10_valuesIn_104 rfl rfl) <| z_cons (ok_istore_n (Nat.le_of_ble_eq_true rfl) dX10_valuesIn_105 rfl rfl) <| z_cons (ok_iinc (by decide) (Nat.le_of_ble_eq_true rfl) dX10_valuesIn_106 rfl rfl) <| z_cons (ok_goto (tgt := 5) (by decide) rfl dX10_valuesIn_109 rfl) <| z_cons (ok_iload_n dX10_valuesIn_112 rfl rfl) <| z_cons (ok_iret rfl dX10_valuesIn_113 rfl) <| z_nil
set_option maxRecDepth 20000 in
theorem zl_X10_valuesIn_0 : z_All z_tab cX10_valuesIn 7 (some .int) RX10 pc_X10_valuesIn 0 (k_X10_valuesIn.drop 0) := z_cons (ok_iconst (by decide) dX10_valuesIn_0 rfl rfl) <| z_cons (ok_istore_n (Nat.le_of_ble_eq_true rfl) dX10_valuesIn_1 rfl rfl) <| z_cons (ok_iconst (by decide) dX10_valuesIn_2 rfl rfl) <| z_cons (ok_istore (Nat.le_of_ble_eq_true rfl) dX10_valuesIn_3 rfl rfl) <| z_cons (ok_iload dX10_valuesIn_5 rfl rfl) <| z_cons (ok_bipush (by decide) dX10_valuesIn_7 rfl rfl) <| z_cons (ok_icmp_ge (tgt := 112) (by decide) rfl dX10_valuesIn_9 rfl rfl) <| z_cons (ok_aload_n dX10_valuesIn_12 rfl rfl) <| z_cons (ok_getr (k := 0) ⟨by decide, by decide, by decide⟩ (ci := 8) (T := TX10) rfl rfl (Nat.le_of_ble_eq_true rfl) iw_X10 qw_616 gr_11_0 (fun _ _ => by simp) (fun w i => List.mem_of_getElem? (i := 0) rfl) dX10_valuesIn_13 rfl rfl) <| z_cons (ok_sipush (by decide) dX10_valuesIn_16 rfl rfl) <| z_cons (ok_iload dX10_valuesIn_19 rfl rfl) <| z_cons (ok_iadd dX10_valuesIn_21 rfl rfl) <| z_cons (ok_iald dX10_valuesIn_22 rfl rfl) <| z_cons (ok_if_ne (tgt := 29) (by decide) rfl dX10_valuesIn_23 rfl rfl) <| z_cons (ok_goto (tgt := 106) (by decide) rfl dX10_valuesIn_26 rfl) <| z_cons (ok_iconst (by decide) dX10_valuesIn_29 rfl rfl) <| z_cons (ok_istore (Nat.le_of_ble_eq_true rfl) dX10_valuesIn_30 rfl rfl) <| z_cons (ok_iconst (by decide) dX10_valuesIn_32 rfl rfl) <| z_cons (ok_istore (Nat.le_of_ble_eq_true rfl) dX10_valuesIn_33 rfl rfl) <| z_cons (ok_iload dX10_valuesIn_35 rfl rfl) <| z_cons (ok_iload dX10_valuesIn_37 rfl rfl) <| z_cons (ok_icmp_ge (tgt := 93) (by decide) rfl dX10_valuesIn_39 rfl rfl) <| z_cons (ok_iload dX10_valuesIn_42 rfl rfl) <| z_cons (ok_if_eq (tgt := 84) (by decide) rfl dX10_valuesIn_44 rfl rfl) <| z_cons (ok_aload_n dX10_valuesIn_47 rfl rfl) <| z_cons (ok_getr (k := 0) ⟨by decide, by decide, by decide⟩ (ci := 8) (T := TX10) rfl rfl (Nat.le_of_ble_eq_true rfl) iw_X10 qw_616 gr_11_0 (fun _ _ => by simp) (fun w i => List.mem_of_getElem? (i := 0) rfl) dX10_valuesIn_48 rfl rfl) <| z_cons (ok_sipush (by decide) dX10_valuesIn_51 rfl rfl) <| z_cons (ok_iload dX10_valuesIn_54 rfl rfl) <| z_cons (ok_iadd dX10_valuesIn_56 rfl rfl) <| z_cons (ok_iald dX10_valuesIn_57 rfl rfl) <| z_cons (ok_if_eq (tgt := 80) (by decide) rfl dX10_valuesIn_58 rfl rfl) <| z_cons (ok_aload_n dX10_valuesIn_61 rfl rfl) <| z_cons (ok_iload dX10_valuesIn_62 rfl rfl) <| z_cons (ok_iload_n dX10_valuesIn_64 rfl rfl) <| z_cons (ok_iload_n dX10_valuesIn_65 rfl rfl) <| z_cons (ok_callv ⟨by decide, by decide, by decide⟩ (ci := 8) (C := RX10) (T := TX10) rfl go_11 (k := 193) (n := 3) qw_696 qw_618 ⟨by decide +kernel, by decide +kernel, by decide +kernel⟩ (Nat.le_of_ble_eq_true rfl) qw_697 qw_698 qw_699 dX10_valuesIn_66 rfl rfl) <| z_cons (ok_aload_n dX10_valuesIn_69 rfl rfl) <| z_cons (ok_iload dX10_valuesIn_70 rfl rfl) <| z_cons (ok_iload_n dX10_valuesIn_72 rfl rfl) <| z_cons (ok_iload_n dX10_valuesIn_73 rfl rfl) <| zl_X10_valuesIn_1
theorem dX10_doesPart_0 : decode cX10_doesPart 0 = .ok (.aload_n 0, 1) := by decide +kernel
theorem dX10_doesPart_1 : decode cX10_doesPart 1 = .ok (.invokevirtual 247, 3) := by decide +kernel
theorem dX10_doesPart_4 : decode cX10_doesPart 4 = .ok (.istore_n 3, 1) := by decide +kernel
theorem dX10_doesPart_5 : decode cX10_doesPart 5 = .ok (.iconst 0, 1) := by decide +kernel
theorem dX10_doesPart_6 : decode cX10_doesPart 6 = .ok (.istore 4, 2) := by decide +kernel
theorem dX10_doesPart_8 : decode cX10_doesPart 8 = .ok (.iload 4, 2) := by decide +kernel
theorem dX10_doesPart_10 : decode cX10_doesPart 10 = .ok (.bipush 24, 2) := by decide +kernel
theorem dX10_doesPart_12 : decode cX10_doesPart 12 = .ok (.if_icmp .ge 68, 3) := by decide +kernel
theorem dX10_doesPart_15 : decode cX10_doesPart 15 = .ok (.aload_n 0, 1) := by decide +kernel
theorem dX10_doesPart_16 : decode cX10_doesPart 16 = .ok (.getfield 10, 3) := by decide +kernel
theorem dX10_doesPart_19 : decode cX10_doesPart 19 = .ok (.sipush 454, 3) := by decide +kernel
theorem dX10_doesPart_22 : decode cX10_doesPart 22 = .ok (.iload 4, 2) := by decide +kernel
theorem dX10_doesPart_24 : decode cX10_doesPart 24 = .ok (.iadd, 1) := by decide +kernel
theorem dX10_doesPart_25 : decode cX10_doesPart 25 = .ok (.iaload, 1) := by decide +kernel
theorem dX10_doesPart_26 : decode cX10_doesPart 26 = .ok (.iconst 1, 1) := by decide +kernel
theorem dX10_doesPart_27 : decode cX10_doesPart 27 = .ok (.if_icmp .ne 47, 3) := by decide +kernel
theorem dX10_doesPart_30 : decode cX10_doesPart 30 = .ok (.aload_n 0, 1) := by decide +kernel
theorem dX10_doesPart_31 : decode cX10_doesPart 31 = .ok (.iload 4, 2) := by decide +kernel
theorem dX10_doesPart_33 : decode cX10_doesPart 33 = .ok (.iload_n 1, 1) := by decide +kernel
theorem dX10_doesPart_34 : decode cX10_doesPart 34 = .ok (.iload_n 2, 1) := by decide +kernel
theorem dX10_doesPart_35 : decode cX10_doesPart 35 = .ok (.invokevirtual 98, 3) := by decide +kernel
theorem dX10_doesPart_38 : decode cX10_doesPart 38 = .ok (.aload_n 0, 1) := by decide +kernel
theorem dX10_doesPart_39 : decode cX10_doesPart 39 = .ok (.iload_n 3, 1) := by decide +kernel
theorem dX10_doesPart_40 : decode cX10_doesPart 40 = .ok (.iload_n 1, 1) := by decide +kernel
theorem dX10_doesPart_41 : decode cX10_doesPart 41 = .ok (.iload_n 2, 1) := by decide +kernel
theorem dX10_doesPart_42 : decode cX10_doesPart 42 = .ok (.invokevirtual 98, 3) := by decide +kernel
theorem dX10_doesPart_45 : decode cX10_doesPart 45 = .ok (.if_icmp .ne 7, 3) := by decide +kernel
theorem dX10_doesPart_48 : decode cX10_doesPart 48 = .ok (.iconst 1, 1) := by decide +kernel
theorem dX10_doesPart_49 : decode cX10_doesPart 49 = .ok (.goto 4, 3) := by decide +kernel
theorem dX10_doesPart_52 : decode cX10_doesPart 52 = .ok (.iconst 0, 1) := by decide +kernel
theorem dX10_doesPart_53 : decode cX10_doesPart 53 = .ok (.aload_n 0, 1) := by decide +kernel
theorem dX10_doesPart_54 : decode cX10_doesPart 54 = .ok (.iload 4, 2) := by decide +kernel
theorem dX10_doesPart_56 : decode cX10_doesPart 56 = .ok (.iconst 4, 1) := by decide +kernel
theorem dX10_doesPart_57 : decode cX10_doesPart 57 = .ok (.invokevirtual 45, 3) := by decide +kernel
theorem dX10_doesPart_60 : decode cX10_doesPart 60 = .ok (.iconst 1, 1) := by decide +kernel
theorem dX10_doesPart_61 : decode cX10_doesPart 61 = .ok (.if_icmp .ne 7, 3) := by decide +kernel
theorem dX10_doesPart_64 : decode cX10_doesPart 64 = .ok (.iconst 1, 1) := by decide +kernel
theorem dX10_doesPart_65 : decode cX10_doesPart 65 = .ok (.goto 4, 3) := by decide +kernel
theorem dX10_doesPart_68 : decode cX10_doesPart 68 = .ok (.iconst 0, 1) := by decide +kernel
theorem dX10_doesPart_69 : decode cX10_doesPart 69 = .ok (.if_icmp .eq 5, 3) := by decide +kernel
theorem dX10_doesPart_72 : decode cX10_doesPart 72 = .ok (.iconst 0, 1) := by decide +kernel
theorem dX10_doesPart_73 : decode cX10_doesPart 73 = .ok (.ireturn, 1) := by decide +kernel
theorem dX10_doesPart_74 : decode cX10_doesPart 74 = .ok (.iinc 4 1, 3) := by decide +kernel
theorem dX10_doesPart_77 : decode cX10_doesPart 77 = .ok (.goto (-69), 3) := by decide +kernel
theorem dX10_doesPart_80 : decode cX10_doesPart 80 = .ok (.iconst 1, 1) := by decide +kernel
theorem dX10_doesPart_81 : decode cX10_doesPart 81 = .ok (.ireturn, 1) := by decide +kernel
set_option maxRecDepth 20000 in
theorem zl_X10_doesPart_1 : z_All z_tab cX10_doesPart 5 (some .boolean) RX10 pc_X10_doesPart 40 (k_X10_doesPart.drop 40) := z_cons (ok_iconst (by decide) dX10_doesPart_72 rfl rfl) <| z_cons (ok_zret rfl dX10_doesPart_73 rfl) <| z_cons (ok_iinc (by decide) (Nat.le_of_ble_eq_true rfl) dX10_doesPart_74 rfl rfl) <| z_cons (ok_goto (tgt := 8) (by decide) rfl dX10_doesPart_77 rfl) <| z_cons (ok_iconst (by decide) dX10_doesPart_80 rfl rfl) <| z_cons (ok_zret rfl dX10_doesPart_81 rfl) <| z_nil
set_option maxRecDepth 20000 in
theorem zl_X10_doesPart_0 : z_All z_tab cX10_doesPart 5 (some .boolean) RX10 pc_X10_doesPart 0 (k_X10_doesPart.drop 0) := z_cons (ok_aload_n dX10_doesPart_0 rfl rfl) <| z_cons (ok_callv ⟨by decide, by decide, by decide⟩ (ci := 8) (C := RX10) (T := TX10) rfl go_11 (k := 256) (n := 0) qw_860 qw_618 ⟨by decide +kernel, by decide +kernel, by decide +kernel⟩ (Nat.le_of_ble_eq_true rfl) qw_861 qw_862 qw_863 dX10_doesPart_1 rfl rfl) <| z_cons (ok_istore_n (Nat.le_of_ble_eq_true rfl) dX10_doesPart_4 rfl rfl) <| z_cons (ok_iconst (by decide) dX10_doesPart_5 rfl rfl) <| z_cons (ok_istore (Nat.le_of_ble_eq_true rfl) dX10_doesPart_6 rfl rfl) <| z_cons (ok_iload dX10_doesPart_8 rfl rfl) <| z_cons (ok_bipush (by decide) dX10_doesPart_10 rfl rfl) <| z_cons (ok_icmp_ge (tgt := 80) (by decide) rfl dX10_doesPart_12 rfl rfl) <| z_cons (ok_aload_n dX10_doesPart_15 rfl rfl) <| z_cons (ok_getr (k := 0) ⟨by decide, by decide, by decide⟩ (ci := 8) (T := TX10) rfl rfl (Nat.le_of_ble_eq_true rfl) iw_X10 qw_616 gr_11_0 (fun _ _ => by simp) (fun w i => List.mem_of_getElem? (i := 0) rfl) dX10_doesPart_16 rfl rfl) <| z_cons (ok_sipush (by decide) dX10_doesPart_19 rfl rfl) <| z_cons (ok_iload dX10_doesPart_22 rfl rfl) <| z_cons (ok_iadd dX10_doesPart_24 rfl rfl) <| z_cons (ok_iald dX10_doesPart_25 rfl rfl) <| z_cons (ok_iconst (by decide) dX10_doesPart_26 rfl rfl) <| z_cons (ok_icmp_ne (tgt := 74) (by decide) rfl dX10_doesPart_27 rfl rfl) <| z_cons (ok_aload_n dX10_doesPart_30 rfl rfl) <| z_cons (ok_iload dX10_doesPart_31 rfl rfl) <| z_cons (ok_iload_n dX10_doesPart_33 rfl rfl) <| z_cons (ok_iload_n dX10_doesPart_34 rfl rfl) <| z_cons (ok_callv ⟨by decide, by decide, by decide⟩ (ci := 8) (C := RX10) (T := TX10) rfl go_11 (k := 193) (n := 3) qw_696 qw_618 ⟨by decide +kernel, by decide +kernel, by decide +kernel⟩ (Nat.le_of_ble_eq_true rfl) qw_697 qw_698 qw_699 dX10_doesPart_35 rfl rfl) <| z_cons (ok_aload_n dX10_doesPart_38 rfl rfl) <| z_cons (ok_iload_n dX10_doesPart_39 rfl rfl) <| z_cons (ok_iload_n dX10_doesPart_40 rfl rfl) <| z_cons (ok_iload_n dX10_doesPart_41 rfl rfl) <| z_cons (ok_callv ⟨by decide, by decide, by decide⟩ (ci := 8) (C := RX10) (T := TX10) rfl go_11 (k := 193) (n := 3) qw_696 qw_618 ⟨by decide +kernel, by decide +kernel, by decide +kernel⟩ (Nat.le_of_ble_eq_true rfl) qw_697 qw_698 qw_699 dX10_doesPart_42 rfl rfl) <| z_cons (ok_icmp_ne (tgt := 52) (by decide) rfl dX10_doesPart_45 rfl rfl) <| z_cons (ok_iconst (by decide) dX10_doesPart_48 rfl rfl) <| z_cons (ok_goto (tgt := 53) (by decide) rfl dX10_doesPart_49 rfl) <| z_cons (ok_iconst (by decide) dX10_doesPart_52 rfl rfl) <| z_cons (ok_aload_n dX10_doesPart_53 rfl rfl) <| z_cons (ok_iload dX10_doesPart_54 rfl rfl) <| z_cons (ok_iconst (by decide) dX10_doesPart_56 rfl rfl) <| z_cons (ok_callv ⟨by decide, by decide, by decide⟩ (ci := 8) (C := RX10) (T := TX10) rfl go_11 (k := 174) (n := 2) qw_630 qw_618 ⟨by decide +kernel, by decide +kernel, by decide +kernel⟩ (Nat.le_of_ble_eq_true rfl) qw_631 qw_632 qw_633 dX10_doesPart_57 rfl rfl) <| z_cons (ok_iconst (by decide) dX10_doesPart_60 rfl rfl) <| z_cons (ok_icmp_ne (tgt := 68) (by decide) rfl dX10_doesPart_61 rfl rfl) <| z_cons (ok_iconst (by decide) dX10_doesPart_64 rfl rfl) <| z_cons (ok_goto (tgt := 69) (by decide) rfl dX10_doesPart_65 rfl) <| z_cons (ok_iconst (by decide) dX10_doesPart_68 rfl rfl) <| z_cons (ok_icmp_eq (tgt := 74) (by decide) rfl dX10_doesPart_69 rfl rfl) <| zl_X10_doesPart_1
theorem dX10_firstSelected_0 : decode cX10_firstSelected 0 = .ok (.iconst 0, 1) := by decide +kernel
theorem dX10_firstSelected_1 : decode cX10_firstSelected 1 = .ok (.istore_n 1, 1) := by decide +kernel
theorem dX10_firstSelected_2 : decode cX10_firstSelected 2 = .ok (.iload_n 1, 1) := by decide +kernel
theorem dX10_firstSelected_3 : decode cX10_firstSelected 3 = .ok (.bipush 24, 2) := by decide +kernel
theorem dX10_firstSelected_5 : decode cX10_firstSelected 5 = .ok (.if_icmp .ge 35, 3) := by decide +kernel
theorem dX10_firstSelected_8 : decode cX10_firstSelected 8 = .ok (.aload_n 0, 1) := by decide +kernel
theorem dX10_firstSelected_9 : decode cX10_firstSelected 9 = .ok (.getfield 10, 3) := by decide +kernel
theorem dX10_firstSelected_12 : decode cX10_firstSelected 12 = .ok (.sipush 454, 3) := by decide +kernel
theorem dX10_firstSelected_15 : decode cX10_firstSelected 15 = .ok (.iload_n 1, 1) := by decide +kernel
theorem dX10_firstSelected_16 : decode cX10_firstSelected 16 = .ok (.iadd, 1) := by decide +kernel
theorem dX10_firstSelected_17 : decode cX10_firstSelected 17 = .ok (.iaload, 1) := by decide +kernel
theorem dX10_firstSelected_18 : decode cX10_firstSelected 18 = .ok (.iconst 1, 1) := by decide +kernel
theorem dX10_firstSelected_19 : decode cX10_firstSelected 19 = .ok (.if_icmp .ne 15, 3) := by decide +kernel
theorem dX10_firstSelected_22 : decode cX10_firstSelected 22 = .ok (.aload_n 0, 1) := by decide +kernel
theorem dX10_firstSelected_23 : decode cX10_firstSelected 23 = .ok (.iload_n 1, 1) := by decide +kernel
theorem dX10_firstSelected_24 : decode cX10_firstSelected 24 = .ok (.iconst 4, 1) := by decide +kernel
theorem dX10_firstSelected_25 : decode cX10_firstSelected 25 = .ok (.invokevirtual 45, 3) := by decide +kernel
theorem dX10_firstSelected_28 : decode cX10_firstSelected 28 = .ok (.iconst 1, 1) := by decide +kernel
theorem dX10_firstSelected_29 : decode cX10_firstSelected 29 = .ok (.if_icmp .ne 5, 3) := by decide +kernel
theorem dX10_firstSelected_32 : decode cX10_firstSelected 32 = .ok (.iload_n 1, 1) := by decide +kernel
theorem dX10_firstSelected_33 : decode cX10_firstSelected 33 = .ok (.ireturn, 1) := by decide +kernel
theorem dX10_firstSelected_34 : decode cX10_firstSelected 34 = .ok (.iinc 1 1, 3) := by decide +kernel
theorem dX10_firstSelected_37 : decode cX10_firstSelected 37 = .ok (.goto (-35), 3) := by decide +kernel
theorem dX10_firstSelected_40 : decode cX10_firstSelected 40 = .ok (.iconst (-1), 1) := by decide +kernel
theorem dX10_firstSelected_41 : decode cX10_firstSelected 41 = .ok (.ireturn, 1) := by decide +kernel
set_option maxRecDepth 20000 in
theorem zl_X10_firstSelected_0 : z_All z_tab cX10_firstSelected 2 (some .int) RX10 pc_X10_firstSelected 0 (k_X10_firstSelected.drop 0) := z_cons (ok_iconst (by decide) dX10_firstSelected_0 rfl rfl) <| z_cons (ok_istore_n (Nat.le_of_ble_eq_true rfl) dX10_firstSelected_1 rfl rfl) <| z_cons (ok_iload_n dX10_firstSelected_2 rfl rfl) <| z_cons (ok_bipush (by decide) dX10_firstSelected_3 rfl rfl) <| z_cons (ok_icmp_ge (tgt := 40) (by decide) rfl dX10_firstSelected_5 rfl rfl) <| z_cons (ok_aload_n dX10_firstSelected_8 rfl rfl) <| z_cons (ok_getr (k := 0) ⟨by decide, by decide, by decide⟩ (ci := 8) (T := TX10) rfl rfl (Nat.le_of_ble_eq_true rfl) iw_X10 qw_616 gr_11_0 (fun _ _ => by simp) (fun w i => List.mem_of_getElem? (i := 0) rfl) dX10_firstSelected_9 rfl rfl) <| z_cons (ok_sipush (by decide) dX10_firstSelected_12 rfl rfl) <| z_cons (ok_iload_n dX10_firstSelected_15 rfl rfl) <| z_cons (ok_iadd dX10_firstSelected_16 rfl rfl) <| z_cons (ok_iald dX10_firstSelected_17 rfl rfl) <| z_cons (ok_iconst (by decide) dX10_firstSelected_18 rfl rfl) <| z_cons (ok_icmp_ne (tgt := 34) (by decide) rfl dX10_firstSelected_19 rfl rfl) <| z_cons (ok_aload_n dX10_firstSelected_22 rfl rfl) <| z_cons (ok_iload_n dX10_firstSelected_23 rfl rfl) <| z_cons (ok_iconst (by decide) dX10_firstSelected_24 rfl rfl) <| z_cons (ok_callv ⟨by decide, by decide, by decide⟩ (ci := 8) (C := RX10) (T := TX10) rfl go_11 (k := 174) (n := 2) qw_630 qw_618 ⟨by decide +kernel, by decide +kernel, by decide +kernel⟩ (Nat.le_of_ble_eq_true rfl) qw_631 qw_632 qw_633 dX10_firstSelected_25 rfl rfl) <| z_cons (ok_iconst (by decide) dX10_firstSelected_28 rfl rfl) <| z_cons (ok_icmp_ne (tgt := 34) (by decide) rfl dX10_firstSelected_29 rfl rfl) <| z_cons (ok_iload_n dX10_firstSelected_32 rfl rfl) <| z_cons (ok_iret rfl dX10_firstSelected_33 rfl) <| z_cons (ok_iinc (by decide) (Nat.le_of_ble_eq_true rfl) dX10_firstSelected_34 rfl rfl) <| z_cons (ok_goto (tgt := 2) (by decide) rfl dX10_firstSelected_37 rfl) <| z_cons (ok_iconst (by decide) dX10_firstSelected_40 rfl rfl) <| z_cons (ok_iret rfl dX10_firstSelected_41 rfl) <| z_nil
theorem dX10_least_0 : decode cX10_least 0 = .ok (.iload_n 1, 1) := by decide +kernel
theorem dX10_least_1 : decode cX10_least 1 = .ok (.iconst 0, 1) := by decide +kernel
theorem dX10_least_2 : decode cX10_least 2 = .ok (.iconst 2, 1) := by decide +kernel
theorem dX10_least_3 : decode cX10_least 3 = .ok (.invokestatic 32, 3) := by decide +kernel
theorem dX10_least_6 : decode cX10_least 6 = .ok (.ifCond .eq 11, 3) := by decide +kernel
theorem dX10_least_9 : decode cX10_least 9 = .ok (.aload_n 0, 1) := by decide +kernel
theorem dX10_least_10 : decode cX10_least 10 = .ok (.invokevirtual 247, 3) := by decide +kernel
theorem dX10_least_13 : decode cX10_least 13 = .ok (.iconst (-1), 1) := by decide +kernel
theorem dX10_least_14 : decode cX10_least 14 = .ok (.if_icmp .ne 5, 3) := by decide +kernel
theorem dX10_least_17 : decode cX10_least 17 = .ok (.iconst (-1), 1) := by decide +kernel
theorem dX10_least_18 : decode cX10_least 18 = .ok (.ireturn, 1) := by decide +kernel
theorem dX10_least_19 : decode cX10_least 19 = .ok (.iconst 0, 1) := by decide +kernel
theorem dX10_least_20 : decode cX10_least 20 = .ok (.istore_n 2, 1) := by decide +kernel
theorem dX10_least_21 : decode cX10_least 21 = .ok (.iload_n 2, 1) := by decide +kernel
theorem dX10_least_22 : decode cX10_least 22 = .ok (.bipush 32, 2) := by decide +kernel
theorem dX10_least_24 : decode cX10_least 24 = .ok (.if_icmp .gt 62, 3) := by decide +kernel
theorem dX10_least_27 : decode cX10_least 27 = .ok (.iconst 0, 1) := by decide +kernel
theorem dX10_least_28 : decode cX10_least 28 = .ok (.istore_n 3, 1) := by decide +kernel
theorem dX10_least_29 : decode cX10_least 29 = .ok (.iload_n 3, 1) := by decide +kernel
theorem dX10_least_30 : decode cX10_least 30 = .ok (.iload_n 2, 1) := by decide +kernel
theorem dX10_least_31 : decode cX10_least 31 = .ok (.iadd, 1) := by decide +kernel
theorem dX10_least_32 : decode cX10_least 32 = .ok (.bipush 32, 2) := by decide +kernel
theorem dX10_least_34 : decode cX10_least 34 = .ok (.if_icmp .gt 46, 3) := by decide +kernel
theorem dX10_least_37 : decode cX10_least 37 = .ok (.aload_n 0, 1) := by decide +kernel
theorem dX10_least_38 : decode cX10_least 38 = .ok (.iload_n 3, 1) := by decide +kernel
theorem dX10_least_39 : decode cX10_least 39 = .ok (.iload_n 2, 1) := by decide +kernel
theorem dX10_least_40 : decode cX10_least 40 = .ok (.invokevirtual 250, 3) := by decide +kernel
theorem dX10_least_43 : decode cX10_least 43 = .ok (.ifCond .eq 31, 3) := by decide +kernel
theorem dX10_least_46 : decode cX10_least 46 = .ok (.iload_n 1, 1) := by decide +kernel
theorem dX10_least_47 : decode cX10_least 47 = .ok (.ifCond .ne 7, 3) := by decide +kernel
theorem dX10_least_50 : decode cX10_least 50 = .ok (.iload_n 2, 1) := by decide +kernel
theorem dX10_least_51 : decode cX10_least 51 = .ok (.goto 22, 3) := by decide +kernel
theorem dX10_least_54 : decode cX10_least 54 = .ok (.iload_n 1, 1) := by decide +kernel
theorem dX10_least_55 : decode cX10_least 55 = .ok (.iconst 1, 1) := by decide +kernel
theorem dX10_least_56 : decode cX10_least 56 = .ok (.if_icmp .ne 7, 3) := by decide +kernel
theorem dX10_least_59 : decode cX10_least 59 = .ok (.iload_n 3, 1) := by decide +kernel
theorem dX10_least_60 : decode cX10_least 60 = .ok (.goto 13, 3) := by decide +kernel
theorem dX10_least_63 : decode cX10_least 63 = .ok (.aload_n 0, 1) := by decide +kernel
theorem dX10_least_64 : decode cX10_least 64 = .ok (.aload_n 0, 1) := by decide +kernel
theorem dX10_least_65 : decode cX10_least 65 = .ok (.invokevirtual 247, 3) := by decide +kernel
theorem dX10_least_68 : decode cX10_least 68 = .ok (.iload_n 3, 1) := by decide +kernel
theorem dX10_least_69 : decode cX10_least 69 = .ok (.iload_n 2, 1) := by decide +kernel
theorem dX10_least_70 : decode cX10_least 70 = .ok (.invokevirtual 98, 3) := by decide +kernel
theorem dX10_least_73 : decode cX10_least 73 = .ok (.ireturn, 1) := by decide +kernel
theorem dX10_least_74 : decode cX10_least 74 = .ok (.iinc 3 1, 3) := by decide +kernel
theorem dX10_least_77 : decode cX10_least 77 = .ok (.goto (-48), 3) := by decide +kernel
theorem dX10_least_80 : decode cX10_least 80 = .ok (.iinc 2 1, 3) := by decide +kernel
theorem dX10_least_83 : decode cX10_least 83 = .ok (.goto (-62), 3) := by decide +kernel
theorem dX10_least_86 : decode cX10_least 86 = .ok (.iconst (-1), 1) := by decide +kernel
theorem dX10_least_87 : decode cX10_least 87 = .ok (.ireturn, 1) := by decide +kernel
set_option maxRecDepth 20000 in
theorem zl_X10_least_1 : z_All z_tab cX10_least 4 (some .int) RX10 pc_X10_least 40 (k_X10_least.drop 40) := z_cons (ok_iload_n dX10_least_68 rfl rfl) <| z_cons (ok_iload_n dX10_least_69 rfl rfl) <| z_cons (ok_callv ⟨by decide, by decide, by decide⟩ (ci := 8) (C := RX10) (T := TX10) rfl go_11 (k := 193) (n := 3) qw_696 qw_618 ⟨by decide +kernel, by decide +kernel, by decide +kernel⟩ (Nat.le_of_ble_eq_true rfl) qw_697 qw_698 qw_699 dX10_least_70 rfl rfl) <| z_cons (ok_iret rfl dX10_least_73 rfl) <| z_cons (ok_iinc (by decide) (Nat.le_of_ble_eq_true rfl) dX10_least_74 rfl rfl) <| z_cons (ok_goto (tgt := 29) (by decide) rfl dX10_least_77 rfl) <| z_cons (ok_iinc (by decide) (Nat.le_of_ble_eq_true rfl) dX10_least_80 rfl rfl) <| z_cons (ok_goto (tgt := 21) (by decide) rfl dX10_least_83 rfl) <| z_cons (ok_iconst (by decide) dX10_least_86 rfl rfl) <| z_cons (ok_iret rfl dX10_least_87 rfl) <| z_nil
set_option maxRecDepth 20000 in
theorem zl_X10_least_0 : z_All z_tab cX10_least 4 (some .int) RX10 pc_X10_least 0 (k_X10_least.drop 0) := z_cons (ok_iload_n dX10_least_0 rfl rfl) <| z_cons (ok_iconst (by decide) dX10_least_1 rfl rfl) <| z_cons (ok_iconst (by decide) dX10_least_2 rfl rfl) <| z_cons (ok_callS (k := 162) (n := 3) qw_617 qw_618 ⟨by decide +kernel, by decide +kernel, by decide +kernel⟩ (Nat.le_of_ble_eq_true rfl) qw_620 qw_619 dX10_least_3 rfl rfl) <| z_cons (ok_if_eq (tgt := 17) (by decide) rfl dX10_least_6 rfl rfl) <| z_cons (ok_aload_n dX10_least_9 rfl rfl) <| z_cons (ok_callv ⟨by decide, by decide, by decide⟩ (ci := 8) (C := RX10) (T := TX10) rfl go_11 (k := 256) (n := 0) qw_860 qw_618 ⟨by decide +kernel, by decide +kernel, by decide +kernel⟩ (Nat.le_of_ble_eq_true rfl) qw_861 qw_862 qw_863 dX10_least_10 rfl rfl) <| z_cons (ok_iconst (by decide) dX10_least_13 rfl rfl) <| z_cons (ok_icmp_ne (tgt := 19) (by decide) rfl dX10_least_14 rfl rfl) <| z_cons (ok_iconst (by decide) dX10_least_17 rfl rfl) <| z_cons (ok_iret rfl dX10_least_18 rfl) <| z_cons (ok_iconst (by decide) dX10_least_19 rfl rfl) <| z_cons (ok_istore_n (Nat.le_of_ble_eq_true rfl) dX10_least_20 rfl rfl) <| z_cons (ok_iload_n dX10_least_21 rfl rfl) <| z_cons (ok_bipush (by decide) dX10_least_22 rfl rfl) <| z_cons (ok_icmp_gt (tgt := 86) (by decide) rfl dX10_least_24 rfl rfl) <| z_cons (ok_iconst (by decide) dX10_least_27 rfl rfl) <| z_cons (ok_istore_n (Nat.le_of_ble_eq_true rfl) dX10_least_28 rfl rfl) <| z_cons (ok_iload_n dX10_least_29 rfl rfl) <| z_cons (ok_iload_n dX10_least_30 rfl rfl) <| z_cons (ok_iadd dX10_least_31 rfl rfl) <| z_cons (ok_bipush (by decide) dX10_least_32 rfl rfl) <| z_cons (ok_icmp_gt (tgt := 80) (by decide) rfl dX10_least_34 rfl rfl) <| z_cons (ok_aload_n dX10_least_37 rfl rfl) <| z_cons (ok_iload_n dX10_least_38 rfl rfl) <| z_cons (ok_iload_n dX10_least_39 rfl rfl) <| z_cons (ok_callv ⟨by decide, by decide, by decide⟩ (ci := 8) (C := RX10) (T := TX10) rfl go_11 (k := 255) (n := 2) qw_864 qw_618 ⟨by decide +kernel, by decide +kernel, by decide +kernel⟩ (Nat.le_of_ble_eq_true rfl) qw_865 qw_866 qw_867 dX10_least_40 rfl rfl) <| z_cons (ok_if_eq (tgt := 74) (by decide) rfl dX10_least_43 rfl rfl) <| z_cons (ok_iload_n dX10_least_46 rfl rfl) <| z_cons (ok_if_ne (tgt := 54) (by decide) rfl dX10_least_47 rfl rfl) <| z_cons (ok_iload_n dX10_least_50 rfl rfl) <| z_cons (ok_goto (tgt := 73) (by decide) rfl dX10_least_51 rfl) <| z_cons (ok_iload_n dX10_least_54 rfl rfl) <| z_cons (ok_iconst (by decide) dX10_least_55 rfl rfl) <| z_cons (ok_icmp_ne (tgt := 63) (by decide) rfl dX10_least_56 rfl rfl) <| z_cons (ok_iload_n dX10_least_59 rfl rfl) <| z_cons (ok_goto (tgt := 73) (by decide) rfl dX10_least_60 rfl) <| z_cons (ok_aload_n dX10_least_63 rfl rfl) <| z_cons (ok_aload_n dX10_least_64 rfl rfl) <| z_cons (ok_callv ⟨by decide, by decide, by decide⟩ (ci := 8) (C := RX10) (T := TX10) rfl go_11 (k := 256) (n := 0) qw_860 qw_618 ⟨by decide +kernel, by decide +kernel, by decide +kernel⟩ (Nat.le_of_ble_eq_true rfl) qw_861 qw_862 qw_863 dX10_least_65 rfl rfl) <| zl_X10_least_1
theorem dX10_sharp_0 : decode cX10_sharp 0 = .ok (.iload_n 1, 1) := by decide +kernel
theorem dX10_sharp_1 : decode cX10_sharp 1 = .ok (.iconst 0, 1) := by decide +kernel
theorem dX10_sharp_2 : decode cX10_sharp 2 = .ok (.iconst 2, 1) := by decide +kernel
theorem dX10_sharp_3 : decode cX10_sharp 3 = .ok (.invokestatic 32, 3) := by decide +kernel
theorem dX10_sharp_6 : decode cX10_sharp 6 = .ok (.ifCond .eq 10, 3) := by decide +kernel
theorem dX10_sharp_9 : decode cX10_sharp 9 = .ok (.aload_n 0, 1) := by decide +kernel
theorem dX10_sharp_10 : decode cX10_sharp 10 = .ok (.invokevirtual 253, 3) := by decide +kernel
theorem dX10_sharp_13 : decode cX10_sharp 13 = .ok (.ifCond .ne 5, 3) := by decide +kernel
theorem dX10_sharp_16 : decode cX10_sharp 16 = .ok (.iconst (-1), 1) := by decide +kernel
theorem dX10_sharp_17 : decode cX10_sharp 17 = .ok (.ireturn, 1) := by decide +kernel
theorem dX10_sharp_18 : decode cX10_sharp 18 = .ok (.iconst 0, 1) := by decide +kernel
theorem dX10_sharp_19 : decode cX10_sharp 19 = .ok (.istore_n 2, 1) := by decide +kernel
theorem dX10_sharp_20 : decode cX10_sharp 20 = .ok (.iload_n 2, 1) := by decide +kernel
theorem dX10_sharp_21 : decode cX10_sharp 21 = .ok (.bipush 32, 2) := by decide +kernel
theorem dX10_sharp_23 : decode cX10_sharp 23 = .ok (.if_icmp .gt 60, 3) := by decide +kernel
theorem dX10_sharp_26 : decode cX10_sharp 26 = .ok (.iconst 0, 1) := by decide +kernel
theorem dX10_sharp_27 : decode cX10_sharp 27 = .ok (.istore_n 3, 1) := by decide +kernel
theorem dX10_sharp_28 : decode cX10_sharp 28 = .ok (.iload_n 3, 1) := by decide +kernel
theorem dX10_sharp_29 : decode cX10_sharp 29 = .ok (.iload_n 2, 1) := by decide +kernel
theorem dX10_sharp_30 : decode cX10_sharp 30 = .ok (.iadd, 1) := by decide +kernel
theorem dX10_sharp_31 : decode cX10_sharp 31 = .ok (.bipush 32, 2) := by decide +kernel
theorem dX10_sharp_33 : decode cX10_sharp 33 = .ok (.if_icmp .gt 44, 3) := by decide +kernel
theorem dX10_sharp_36 : decode cX10_sharp 36 = .ok (.aload_n 0, 1) := by decide +kernel
theorem dX10_sharp_37 : decode cX10_sharp 37 = .ok (.iload_n 3, 1) := by decide +kernel
theorem dX10_sharp_38 : decode cX10_sharp 38 = .ok (.iload_n 2, 1) := by decide +kernel
theorem dX10_sharp_39 : decode cX10_sharp 39 = .ok (.invokevirtual 256, 3) := by decide +kernel
theorem dX10_sharp_42 : decode cX10_sharp 42 = .ok (.aload_n 0, 1) := by decide +kernel
theorem dX10_sharp_43 : decode cX10_sharp 43 = .ok (.invokevirtual 253, 3) := by decide +kernel
theorem dX10_sharp_46 : decode cX10_sharp 46 = .ok (.if_icmp .ne 25, 3) := by decide +kernel
theorem dX10_sharp_49 : decode cX10_sharp 49 = .ok (.iload_n 1, 1) := by decide +kernel
theorem dX10_sharp_50 : decode cX10_sharp 50 = .ok (.ifCond .ne 7, 3) := by decide +kernel
theorem dX10_sharp_53 : decode cX10_sharp 53 = .ok (.iload_n 2, 1) := by decide +kernel
theorem dX10_sharp_54 : decode cX10_sharp 54 = .ok (.goto 16, 3) := by decide +kernel
theorem dX10_sharp_57 : decode cX10_sharp 57 = .ok (.iload_n 1, 1) := by decide +kernel
theorem dX10_sharp_58 : decode cX10_sharp 58 = .ok (.iconst 1, 1) := by decide +kernel
theorem dX10_sharp_59 : decode cX10_sharp 59 = .ok (.if_icmp .ne 7, 3) := by decide +kernel
theorem dX10_sharp_62 : decode cX10_sharp 62 = .ok (.iload_n 3, 1) := by decide +kernel
theorem dX10_sharp_63 : decode cX10_sharp 63 = .ok (.goto 7, 3) := by decide +kernel
theorem dX10_sharp_66 : decode cX10_sharp 66 = .ok (.aload_n 0, 1) := by decide +kernel
theorem dX10_sharp_67 : decode cX10_sharp 67 = .ok (.invokevirtual 253, 3) := by decide +kernel
theorem dX10_sharp_70 : decode cX10_sharp 70 = .ok (.ireturn, 1) := by decide +kernel
theorem dX10_sharp_71 : decode cX10_sharp 71 = .ok (.iinc 3 1, 3) := by decide +kernel
theorem dX10_sharp_74 : decode cX10_sharp 74 = .ok (.goto (-46), 3) := by decide +kernel
theorem dX10_sharp_77 : decode cX10_sharp 77 = .ok (.iinc 2 1, 3) := by decide +kernel
theorem dX10_sharp_80 : decode cX10_sharp 80 = .ok (.goto (-60), 3) := by decide +kernel
theorem dX10_sharp_83 : decode cX10_sharp 83 = .ok (.iconst (-1), 1) := by decide +kernel
theorem dX10_sharp_84 : decode cX10_sharp 84 = .ok (.ireturn, 1) := by decide +kernel
set_option maxRecDepth 20000 in
theorem zl_X10_sharp_1 : z_All z_tab cX10_sharp 4 (some .int) RX10 pc_X10_sharp 40 (k_X10_sharp.drop 40) := z_cons (ok_iret rfl dX10_sharp_70 rfl) <| z_cons (ok_iinc (by decide) (Nat.le_of_ble_eq_true rfl) dX10_sharp_71 rfl rfl) <| z_cons (ok_goto (tgt := 28) (by decide) rfl dX10_sharp_74 rfl) <| z_cons (ok_iinc (by decide) (Nat.le_of_ble_eq_true rfl) dX10_sharp_77 rfl rfl) <| z_cons (ok_goto (tgt := 20) (by decide) rfl dX10_sharp_80 rfl) <| z_cons (ok_iconst (by decide) dX10_sharp_83 rfl rfl) <| z_cons (ok_iret rfl dX10_sharp_84 rfl) <| z_nil
set_option maxRecDepth 20000 in
theorem zl_X10_sharp_0 : z_All z_tab cX10_sharp 4 (some .int) RX10 pc_X10_sharp 0 (k_X10_sharp.drop 0) := z_cons (ok_iload_n dX10_sharp_0 rfl rfl) <| z_cons (ok_iconst (by decide) dX10_sharp_1 rfl rfl) <| z_cons (ok_iconst (by decide) dX10_sharp_2 rfl rfl) <| z_cons (ok_callS (k := 162) (n := 3) qw_617 qw_618 ⟨by decide +kernel, by decide +kernel, by decide +kernel⟩ (Nat.le_of_ble_eq_true rfl) qw_620 qw_619 dX10_sharp_3 rfl rfl) <| z_cons (ok_if_eq (tgt := 16) (by decide) rfl dX10_sharp_6 rfl rfl) <| z_cons (ok_aload_n dX10_sharp_9 rfl rfl) <| z_cons (ok_callv ⟨by decide, by decide, by decide⟩ (ci := 8) (C := RX10) (T := TX10) rfl go_11 (k := 253) (n := 0) qw_868 qw_618 ⟨by decide +kernel, by decide +kernel, by decide +kernel⟩ (Nat.le_of_ble_eq_true rfl) qw_869 qw_870 qw_871 dX10_sharp_10 rfl rfl) <| z_cons (ok_if_ne (tgt := 18) (by decide) rfl dX10_sharp_13 rfl rfl) <| z_cons (ok_iconst (by decide) dX10_sharp_16 rfl rfl) <| z_cons (ok_iret rfl dX10_sharp_17 rfl) <| z_cons (ok_iconst (by decide) dX10_sharp_18 rfl rfl) <| z_cons (ok_istore_n (Nat.le_of_ble_eq_true rfl) dX10_sharp_19 rfl rfl) <| z_cons (ok_iload_n dX10_sharp_20 rfl rfl) <| z_cons (ok_bipush (by decide) dX10_sharp_21 rfl rfl) <| z_cons (ok_icmp_gt (tgt := 83) (by decide) rfl dX10_sharp_23 rfl rfl) <| z_cons (ok_iconst (by decide) dX10_sharp_26 rfl rfl) <| z_cons (ok_istore_n (Nat.le_of_ble_eq_true rfl) dX10_sharp_27 rfl rfl) <| z_cons (ok_iload_n dX10_sharp_28 rfl rfl) <| z_cons (ok_iload_n dX10_sharp_29 rfl rfl) <| z_cons (ok_iadd dX10_sharp_30 rfl rfl) <| z_cons (ok_bipush (by decide) dX10_sharp_31 rfl rfl) <| z_cons (ok_icmp_gt (tgt := 77) (by decide) rfl dX10_sharp_33 rfl rfl) <| z_cons (ok_aload_n dX10_sharp_36 rfl rfl) <| z_cons (ok_iload_n dX10_sharp_37 rfl rfl) <| z_cons (ok_iload_n dX10_sharp_38 rfl rfl) <| z_cons (ok_callv ⟨by decide, by decide, by decide⟩ (ci := 8) (C := RX10) (T := TX10) rfl go_11 (k := 254) (n := 2) qw_872 qw_618 ⟨by decide +kernel, by decide +kernel, by decide +kernel⟩ (Nat.le_of_ble_eq_true rfl) qw_873 qw_874 qw_875 dX10_sharp_39 rfl rfl) <| z_cons (ok_aload_n dX10_sharp_42 rfl rfl) <| z_cons (ok_callv ⟨by decide, by decide, by decide⟩ (ci := 8) (C := RX10) (T := TX10) rfl go_11 (k := 253) (n := 0) qw_868 qw_618 ⟨by decide +kernel, by decide +kernel, by decide +kernel⟩ (Nat.le_of_ble_eq_true rfl) qw_869 qw_870 qw_871 dX10_sharp_43 rfl rfl) <| z_cons (ok_icmp_ne (tgt := 71) (by decide) rfl dX10_sharp_46 rfl rfl) <| z_cons (ok_iload_n dX10_sharp_49 rfl rfl) <| z_cons (ok_if_ne (tgt := 57) (by decide) rfl dX10_sharp_50 rfl rfl) <| z_cons (ok_iload_n dX10_sharp_53 rfl rfl) <| z_cons (ok_goto (tgt := 70) (by decide) rfl dX10_sharp_54 rfl) <| z_cons (ok_iload_n dX10_sharp_57 rfl rfl) <| z_cons (ok_iconst (by decide) dX10_sharp_58 rfl rfl) <| z_cons (ok_icmp_ne (tgt := 66) (by decide) rfl dX10_sharp_59 rfl rfl) <| z_cons (ok_iload_n dX10_sharp_62 rfl rfl) <| z_cons (ok_goto (tgt := 70) (by decide) rfl dX10_sharp_63 rfl) <| z_cons (ok_aload_n dX10_sharp_66 rfl rfl) <| z_cons (ok_callv ⟨by decide, by decide, by decide⟩ (ci := 8) (C := RX10) (T := TX10) rfl go_11 (k := 253) (n := 0) qw_868 qw_618 ⟨by decide +kernel, by decide +kernel, by decide +kernel⟩ (Nat.le_of_ble_eq_true rfl) qw_869 qw_870 qw_871 dX10_sharp_67 rfl rfl) <| zl_X10_sharp_1
theorem dX10_values_0 : decode cX10_values 0 = .ok (.iload_n 1, 1) := by decide +kernel
theorem dX10_values_1 : decode cX10_values 1 = .ok (.iconst 0, 1) := by decide +kernel
theorem dX10_values_2 : decode cX10_values 2 = .ok (.bipush 31, 2) := by decide +kernel
theorem dX10_values_4 : decode cX10_values 4 = .ok (.invokestatic 32, 3) := by decide +kernel
theorem dX10_values_7 : decode cX10_values 7 = .ok (.ifCond .eq 30, 3) := by decide +kernel
theorem dX10_values_10 : decode cX10_values 10 = .ok (.iload_n 2, 1) := by decide +kernel
theorem dX10_values_11 : decode cX10_values 11 = .ok (.iconst 1, 1) := by decide +kernel
theorem dX10_values_12 : decode cX10_values 12 = .ok (.bipush 32, 2) := by decide +kernel
theorem dX10_values_14 : decode cX10_values 14 = .ok (.invokestatic 32, 3) := by decide +kernel
theorem dX10_values_17 : decode cX10_values 17 = .ok (.ifCond .eq 20, 3) := by decide +kernel
theorem dX10_values_20 : decode cX10_values 20 = .ok (.iload_n 1, 1) := by decide +kernel
theorem dX10_values_21 : decode cX10_values 21 = .ok (.iload_n 2, 1) := by decide +kernel
theorem dX10_values_22 : decode cX10_values 22 = .ok (.iadd, 1) := by decide +kernel
theorem dX10_values_23 : decode cX10_values 23 = .ok (.bipush 32, 2) := by decide +kernel
theorem dX10_values_25 : decode cX10_values 25 = .ok (.if_icmp .gt 12, 3) := by decide +kernel
theorem dX10_values_28 : decode cX10_values 28 = .ok (.aload_n 0, 1) := by decide +kernel
theorem dX10_values_29 : decode cX10_values 29 = .ok (.iload_n 1, 1) := by decide +kernel
theorem dX10_values_30 : decode cX10_values 30 = .ok (.iload_n 2, 1) := by decide +kernel
theorem dX10_values_31 : decode cX10_values 31 = .ok (.invokevirtual 256, 3) := by decide +kernel
theorem dX10_values_34 : decode cX10_values 34 = .ok (.goto 4, 3) := by decide +kernel
theorem dX10_values_37 : decode cX10_values 37 = .ok (.iconst (-1), 1) := by decide +kernel
theorem dX10_values_38 : decode cX10_values 38 = .ok (.ireturn, 1) := by decide +kernel
set_option maxRecDepth 20000 in
theorem zl_X10_values_0 : z_All z_tab cX10_values 3 (some .int) RX10 pc_X10_values 0 (k_X10_values.drop 0) := z_cons (ok_iload_n dX10_values_0 rfl rfl) <| z_cons (ok_iconst (by decide) dX10_values_1 rfl rfl) <| z_cons (ok_bipush (by decide) dX10_values_2 rfl rfl) <| z_cons (ok_callS (k := 162) (n := 3) qw_617 qw_618 ⟨by decide +kernel, by decide +kernel, by decide +kernel⟩ (Nat.le_of_ble_eq_true rfl) qw_620 qw_619 dX10_values_4 rfl rfl) <| z_cons (ok_if_eq (tgt := 37) (by decide) rfl dX10_values_7 rfl rfl) <| z_cons (ok_iload_n dX10_values_10 rfl rfl) <| z_cons (ok_iconst (by decide) dX10_values_11 rfl rfl) <| z_cons (ok_bipush (by decide) dX10_values_12 rfl rfl) <| z_cons (ok_callS (k := 162) (n := 3) qw_617 qw_618 ⟨by decide +kernel, by decide +kernel, by decide +kernel⟩ (Nat.le_of_ble_eq_true rfl) qw_620 qw_619 dX10_values_14 rfl rfl) <| z_cons (ok_if_eq (tgt := 37) (by decide) rfl dX10_values_17 rfl rfl) <| z_cons (ok_iload_n dX10_values_20 rfl rfl) <| z_cons (ok_iload_n dX10_values_21 rfl rfl) <| z_cons (ok_iadd dX10_values_22 rfl rfl) <| z_cons (ok_bipush (by decide) dX10_values_23 rfl rfl) <| z_cons (ok_icmp_gt (tgt := 37) (by decide) rfl dX10_values_25 rfl rfl) <| z_cons (ok_aload_n dX10_values_28 rfl rfl) <| z_cons (ok_iload_n dX10_values_29 rfl rfl) <| z_cons (ok_iload_n dX10_values_30 rfl rfl) <| z_cons (ok_callv ⟨by decide, by decide, by decide⟩ (ci := 8) (C := RX10) (T := TX10) rfl go_11 (k := 254) (n := 2) qw_872 qw_618 ⟨by decide +kernel, by decide +kernel, by decide +kernel⟩ (Nat.le_of_ble_eq_true rfl) qw_873 qw_874 qw_875 dX10_values_31 rfl rfl) <| z_cons (ok_goto (tgt := 38) (by decide) rfl dX10_values_34 rfl) <| z_cons (ok_iconst (by decide) dX10_values_37 rfl rfl) <| z_cons (ok_iret rfl dX10_values_38 rfl) <| z_nil
