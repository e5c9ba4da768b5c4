theorem dX0_cell_0 : decode cX0_cell 0 = .ok (.iload_n 0, 1) := by decide +kernel
theorem dX0_cell_1 : decode cX0_cell 1 = .ok (.bipush 13, 2) := by decide +kernel
theorem dX0_cell_3 : decode cX0_cell 3 = .ok (.imul, 1) := by decide +kernel
theorem dX0_cell_4 : decode cX0_cell 4 = .ok (.iload_n 1, 1) := by decide +kernel
theorem dX0_cell_5 : decode cX0_cell 5 = .ok (.iadd, 1) := by decide +kernel
theorem dX0_cell_6 : decode cX0_cell 6 = .ok (.ireturn, 1) := by decide +kernel
set_option maxRecDepth 20000 in
theorem zl_X0_cell_0 : z_All z_tab cX0_cell 2 (some .int) RX0 pc_X0_cell 0 (k_X0_cell.drop 0) := z_cons (ok_iload_n dX0_cell_0 rfl rfl) <| z_cons (ok_bipush (by decide) dX0_cell_1 rfl rfl) <| z_cons (ok_imul dX0_cell_3 rfl rfl) <| z_cons (ok_iload_n dX0_cell_4 rfl rfl) <| z_cons (ok_iadd dX0_cell_5 rfl rfl) <| z_cons (ok_iret rfl dX0_cell_6 rfl) <| z_nil
theorem dX0_fill_0 : decode cX0_fill 0 = .ok (.aload_n 0, 1) := by decide +kernel
theorem dX0_fill_1 : decode cX0_fill 1 = .ok (.iconst 0, 1) := by decide +kernel
theorem dX0_fill_2 : decode cX0_fill 2 = .ok (.iconst 0, 1) := by decide +kernel
theorem dX0_fill_3 : decode cX0_fill 3 = .ok (.invokestatic 30, 3) := by decide +kernel
theorem dX0_fill_6 : decode cX0_fill 6 = .ok (.lconst 1, 1) := by decide +kernel
theorem dX0_fill_7 : decode cX0_fill 7 = .ok (.lastore, 1) := by decide +kernel
theorem dX0_fill_8 : decode cX0_fill 8 = .ok (.iconst 1, 1) := by decide +kernel
theorem dX0_fill_9 : decode cX0_fill 9 = .ok (.istore_n 2, 1) := by decide +kernel
theorem dX0_fill_10 : decode cX0_fill 10 = .ok (.iload_n 2, 1) := by decide +kernel
theorem dX0_fill_11 : decode cX0_fill 11 = .ok (.bipush 16, 2) := by decide +kernel
theorem dX0_fill_13 : decode cX0_fill 13 = .ok (.if_icmp .gt 84, 3) := by decide +kernel
theorem dX0_fill_16 : decode cX0_fill 16 = .ok (.iconst 0, 1) := by decide +kernel
theorem dX0_fill_17 : decode cX0_fill 17 = .ok (.istore_n 3, 1) := by decide +kernel
theorem dX0_fill_18 : decode cX0_fill 18 = .ok (.iload_n 3, 1) := by decide +kernel
theorem dX0_fill_19 : decode cX0_fill 19 = .ok (.bipush 12, 2) := by decide +kernel
theorem dX0_fill_21 : decode cX0_fill 21 = .ok (.if_icmp .gt 70, 3) := by decide +kernel
theorem dX0_fill_24 : decode cX0_fill 24 = .ok (.lconst 0, 1) := by decide +kernel
theorem dX0_fill_25 : decode cX0_fill 25 = .ok (.lstore 4, 2) := by decide +kernel
theorem dX0_fill_27 : decode cX0_fill 27 = .ok (.iload_n 1, 1) := by decide +kernel
theorem dX0_fill_28 : decode cX0_fill 28 = .ok (.istore 6, 2) := by decide +kernel
theorem dX0_fill_30 : decode cX0_fill 30 = .ok (.iload 6, 2) := by decide +kernel
theorem dX0_fill_32 : decode cX0_fill 32 = .ok (.iload_n 3, 1) := by decide +kernel
theorem dX0_fill_33 : decode cX0_fill 33 = .ok (.if_icmp .gt 43, 3) := by decide +kernel
theorem dX0_fill_36 : decode cX0_fill 36 = .ok (.lload 4, 2) := by decide +kernel
theorem dX0_fill_38 : decode cX0_fill 38 = .ok (.iload 6, 2) := by decide +kernel
theorem dX0_fill_40 : decode cX0_fill 40 = .ok (.iconst 1, 1) := by decide +kernel
theorem dX0_fill_41 : decode cX0_fill 41 = .ok (.if_icmp .ne 7, 3) := by decide +kernel
theorem dX0_fill_44 : decode cX0_fill 44 = .ok (.lconst 0, 1) := by decide +kernel
theorem dX0_fill_45 : decode cX0_fill 45 = .ok (.goto 22, 3) := by decide +kernel
theorem dX0_fill_48 : decode cX0_fill 48 = .ok (.iload_n 3, 1) := by decide +kernel
theorem dX0_fill_49 : decode cX0_fill 49 = .ok (.iload 6, 2) := by decide +kernel
theorem dX0_fill_51 : decode cX0_fill 51 = .ok (.invokestatic 34, 3) := by decide +kernel
theorem dX0_fill_54 : decode cX0_fill 54 = .ok (.aload_n 0, 1) := by decide +kernel
theorem dX0_fill_55 : decode cX0_fill 55 = .ok (.iload_n 2, 1) := by decide +kernel
theorem dX0_fill_56 : decode cX0_fill 56 = .ok (.iconst 1, 1) := by decide +kernel
theorem dX0_fill_57 : decode cX0_fill 57 = .ok (.isub, 1) := by decide +kernel
theorem dX0_fill_58 : decode cX0_fill 58 = .ok (.iload_n 3, 1) := by decide +kernel
theorem dX0_fill_59 : decode cX0_fill 59 = .ok (.iload 6, 2) := by decide +kernel
theorem dX0_fill_61 : decode cX0_fill 61 = .ok (.isub, 1) := by decide +kernel
theorem dX0_fill_62 : decode cX0_fill 62 = .ok (.invokestatic 30, 3) := by decide +kernel
theorem dX0_fill_65 : decode cX0_fill 65 = .ok (.laload, 1) := by decide +kernel
theorem dX0_fill_66 : decode cX0_fill 66 = .ok (.lmul, 1) := by decide +kernel
theorem dX0_fill_67 : decode cX0_fill 67 = .ok (.ladd, 1) := by decide +kernel
theorem dX0_fill_68 : decode cX0_fill 68 = .ok (.lstore 4, 2) := by decide +kernel
theorem dX0_fill_70 : decode cX0_fill 70 = .ok (.iinc 6 1, 3) := by decide +kernel
theorem dX0_fill_73 : decode cX0_fill 73 = .ok (.goto (-43), 3) := by decide +kernel
theorem dX0_fill_76 : decode cX0_fill 76 = .ok (.aload_n 0, 1) := by decide +kernel
theorem dX0_fill_77 : decode cX0_fill 77 = .ok (.iload_n 2, 1) := by decide +kernel
theorem dX0_fill_78 : decode cX0_fill 78 = .ok (.iload_n 3, 1) := by decide +kernel
theorem dX0_fill_79 : decode cX0_fill 79 = .ok (.invokestatic 30, 3) := by decide +kernel
theorem dX0_fill_82 : decode cX0_fill 82 = .ok (.lload 4, 2) := by decide +kernel
theorem dX0_fill_84 : decode cX0_fill 84 = .ok (.lastore, 1) := by decide +kernel
theorem dX0_fill_85 : decode cX0_fill 85 = .ok (.iinc 3 1, 3) := by decide +kernel
theorem dX0_fill_88 : decode cX0_fill 88 = .ok (.goto (-70), 3) := by decide +kernel
theorem dX0_fill_91 : decode cX0_fill 91 = .ok (.iinc 2 1, 3) := by decide +kernel
theorem dX0_fill_94 : decode cX0_fill 94 = .ok (.goto (-84), 3) := by decide +kernel
theorem dX0_fill_97 : decode cX0_fill 97 = .ok (.return_, 1) := by decide +kernel
set_option maxRecDepth 20000 in
theorem zl_X0_fill_1 : z_All z_tab cX0_fill 7 none RX0 pc_X0_fill 40 (k_X0_fill.drop 40) := z_cons (ok_lald dX0_fill_65 rfl rfl) <| z_cons (ok_lmul dX0_fill_66 rfl rfl) <| z_cons (ok_ladd dX0_fill_67 rfl rfl) <| z_cons (ok_lstore (Nat.le_of_ble_eq_true rfl) dX0_fill_68 rfl rfl) <| z_cons (ok_iinc (by decide) (Nat.le_of_ble_eq_true rfl) dX0_fill_70 rfl rfl) <| z_cons (ok_goto (tgt := 30) (by decide) rfl dX0_fill_73 rfl) <| z_cons (ok_aload_n dX0_fill_76 rfl rfl) <| z_cons (ok_iload_n dX0_fill_77 rfl rfl) <| z_cons (ok_iload_n dX0_fill_78 rfl rfl) <| z_cons (ok_callS (k := 0) (n := 2) qw_0 qw_1 ⟨by decide +kernel, by decide +kernel, by decide +kernel⟩ (Nat.le_of_ble_eq_true rfl) qw_3 qw_2 dX0_fill_79 rfl rfl) <| z_cons (ok_lload dX0_fill_82 rfl rfl) <| z_cons (ok_last dX0_fill_84 rfl rfl) <| z_cons (ok_iinc (by decide) (Nat.le_of_ble_eq_true rfl) dX0_fill_85 rfl rfl) <| z_cons (ok_goto (tgt := 18) (by decide) rfl dX0_fill_88 rfl) <| z_cons (ok_iinc (by decide) (Nat.le_of_ble_eq_true rfl) dX0_fill_91 rfl rfl) <| z_cons (ok_goto (tgt := 10) (by decide) rfl dX0_fill_94 rfl) <| z_cons (ok_ret rfl dX0_fill_97 rfl) <| z_nil
set_option maxRecDepth 20000 in
theorem zl_X0_fill_0 : z_All z_tab cX0_fill 7 none RX0 pc_X0_fill 0 (k_X0_fill.drop 0) := z_cons (ok_aload_n dX0_fill_0 rfl rfl) <| z_cons (ok_iconst (by decide) dX0_fill_1 rfl rfl) <| z_cons (ok_iconst (by decide) dX0_fill_2 rfl rfl) <| z_cons (ok_callS (k := 0) (n := 2) qw_0 qw_1 ⟨by decide +kernel, by decide +kernel, by decide +kernel⟩ (Nat.le_of_ble_eq_true rfl) qw_3 qw_2 dX0_fill_3 rfl rfl) <| z_cons (ok_lconst (by decide) dX0_fill_6 rfl rfl) <| z_cons (ok_last dX0_fill_7 rfl rfl) <| z_cons (ok_iconst (by decide) dX0_fill_8 rfl rfl) <| z_cons (ok_istore_n (Nat.le_of_ble_eq_true rfl) dX0_fill_9 rfl rfl) <| z_cons (ok_iload_n dX0_fill_10 rfl rfl) <| z_cons (ok_bipush (by decide) dX0_fill_11 rfl rfl) <| z_cons (ok_icmp_gt (tgt := 97) (by decide) rfl dX0_fill_13 rfl rfl) <| z_cons (ok_iconst (by decide) dX0_fill_16 rfl rfl) <| z_cons (ok_istore_n (Nat.le_of_ble_eq_true rfl) dX0_fill_17 rfl rfl) <| z_cons (ok_iload_n dX0_fill_18 rfl rfl) <| z_cons (ok_bipush (by decide) dX0_fill_19 rfl rfl) <| z_cons (ok_icmp_gt (tgt := 91) (by decide) rfl dX0_fill_21 rfl rfl) <| z_cons (ok_lconst (by decide) dX0_fill_24 rfl rfl) <| z_cons (ok_lstore (Nat.le_of_ble_eq_true rfl) dX0_fill_25 rfl rfl) <| z_cons (ok_iload_n dX0_fill_27 rfl rfl) <| z_cons (ok_istore (Nat.le_of_ble_eq_true rfl) dX0_fill_28 rfl rfl) <| z_cons (ok_iload dX0_fill_30 rfl rfl) <| z_cons (ok_iload_n dX0_fill_32 rfl rfl) <| z_cons (ok_icmp_gt (tgt := 76) (by decide) rfl dX0_fill_33 rfl rfl) <| z_cons (ok_lload dX0_fill_36 rfl rfl) <| z_cons (ok_iload dX0_fill_38 rfl rfl) <| z_cons (ok_iconst (by decide) dX0_fill_40 rfl rfl) <| z_cons (ok_icmp_ne (tgt := 48) (by decide) rfl dX0_fill_41 rfl rfl) <| z_cons (ok_lconst (by decide) dX0_fill_44 rfl rfl) <| z_cons (ok_goto (tgt := 67) (by decide) rfl dX0_fill_45 rfl) <| z_cons (ok_iload_n dX0_fill_48 rfl rfl) <| z_cons (ok_iload dX0_fill_49 rfl rfl) <| z_cons (ok_callS (k := 2) (n := 2) qw_4 qw_1 ⟨by decide +kernel, by decide +kernel, by decide +kernel⟩ (Nat.le_of_ble_eq_true rfl) qw_6 qw_5 dX0_fill_51 rfl rfl) <| z_cons (ok_aload_n dX0_fill_54 rfl rfl) <| z_cons (ok_iload_n dX0_fill_55 rfl rfl) <| z_cons (ok_iconst (by decide) dX0_fill_56 rfl rfl) <| z_cons (ok_isub dX0_fill_57 rfl rfl) <| z_cons (ok_iload_n dX0_fill_58 rfl rfl) <| z_cons (ok_iload dX0_fill_59 rfl rfl) <| z_cons (ok_isub dX0_fill_61 rfl rfl) <| z_cons (ok_callS (k := 0) (n := 2) qw_0 qw_1 ⟨by decide +kernel, by decide +kernel, by decide +kernel⟩ (Nat.le_of_ble_eq_true rfl) qw_3 qw_2 dX0_fill_62 rfl rfl) <| zl_X0_fill_1
theorem dX0_choose_0 : decode cX0_choose 0 = .ok (.lconst 1, 1) := by decide +kernel
theorem dX0_choose_1 : decode cX0_choose 1 = .ok (.lstore_n 2, 1) := by decide +kernel
theorem dX0_choose_2 : decode cX0_choose 2 = .ok (.iconst 0, 1) := by decide +kernel
theorem dX0_choose_3 : decode cX0_choose 3 = .ok (.istore 4, 2) := by decide +kernel
theorem dX0_choose_5 : decode cX0_choose 5 = .ok (.iload 4, 2) := by decide +kernel
theorem dX0_choose_7 : decode cX0_choose 7 = .ok (.iload_n 1, 1) := by decide +kernel
theorem dX0_choose_8 : decode cX0_choose 8 = .ok (.if_icmp .ge 23, 3) := by decide +kernel
theorem dX0_choose_11 : decode cX0_choose 11 = .ok (.lload_n 2, 1) := by decide +kernel
theorem dX0_choose_12 : decode cX0_choose 12 = .ok (.iload_n 0, 1) := by decide +kernel
theorem dX0_choose_13 : decode cX0_choose 13 = .ok (.iload 4, 2) := by decide +kernel
theorem dX0_choose_15 : decode cX0_choose 15 = .ok (.isub, 1) := by decide +kernel
theorem dX0_choose_16 : decode cX0_choose 16 = .ok (.i2l, 1) := by decide +kernel
theorem dX0_choose_17 : decode cX0_choose 17 = .ok (.lmul, 1) := by decide +kernel
theorem dX0_choose_18 : decode cX0_choose 18 = .ok (.iload 4, 2) := by decide +kernel
theorem dX0_choose_20 : decode cX0_choose 20 = .ok (.iconst 1, 1) := by decide +kernel
theorem dX0_choose_21 : decode cX0_choose 21 = .ok (.iadd, 1) := by decide +kernel
theorem dX0_choose_22 : decode cX0_choose 22 = .ok (.i2l, 1) := by decide +kernel
theorem dX0_choose_23 : decode cX0_choose 23 = .ok (.ldiv, 1) := by decide +kernel
theorem dX0_choose_24 : decode cX0_choose 24 = .ok (.lstore_n 2, 1) := by decide +kernel
theorem dX0_choose_25 : decode cX0_choose 25 = .ok (.iinc 4 1, 3) := by decide +kernel
theorem dX0_choose_28 : decode cX0_choose 28 = .ok (.goto (-23), 3) := by decide +kernel
theorem dX0_choose_31 : decode cX0_choose 31 = .ok (.lload_n 2, 1) := by decide +kernel
theorem dX0_choose_32 : decode cX0_choose 32 = .ok (.lreturn, 1) := by decide +kernel
set_option maxRecDepth 20000 in
theorem zl_X0_choose_0 : z_All z_tab cX0_choose 5 (some .long) RX0 pc_X0_choose 0 (k_X0_choose.drop 0) := z_cons (ok_lconst (by decide) dX0_choose_0 rfl rfl) <| z_cons (ok_lstore_n (Nat.le_of_ble_eq_true rfl) dX0_choose_1 rfl rfl) <| z_cons (ok_iconst (by decide) dX0_choose_2 rfl rfl) <| z_cons (ok_istore (Nat.le_of_ble_eq_true rfl) dX0_choose_3 rfl rfl) <| z_cons (ok_iload dX0_choose_5 rfl rfl) <| z_cons (ok_iload_n dX0_choose_7 rfl rfl) <| z_cons (ok_icmp_ge (tgt := 31) (by decide) rfl dX0_choose_8 rfl rfl) <| z_cons (ok_lload_n dX0_choose_11 rfl rfl) <| z_cons (ok_iload_n dX0_choose_12 rfl rfl) <| z_cons (ok_iload dX0_choose_13 rfl rfl) <| z_cons (ok_isub dX0_choose_15 rfl rfl) <| z_cons (ok_i2l dX0_choose_16 rfl rfl) <| z_cons (ok_lmul dX0_choose_17 rfl rfl) <| z_cons (ok_iload dX0_choose_18 rfl rfl) <| z_cons (ok_iconst (by decide) dX0_choose_20 rfl rfl) <| z_cons (ok_iadd dX0_choose_21 rfl rfl) <| z_cons (ok_i2l dX0_choose_22 rfl rfl) <| z_cons (ok_ldiv dX0_choose_23 rfl rfl) <| z_cons (ok_lstore_n (Nat.le_of_ble_eq_true rfl) dX0_choose_24 rfl rfl) <| z_cons (ok_iinc (by decide) (Nat.le_of_ble_eq_true rfl) dX0_choose_25 rfl rfl) <| z_cons (ok_goto (tgt := 5) (by decide) rfl dX0_choose_28 rfl) <| z_cons (ok_lload_n dX0_choose_31 rfl rfl) <| z_cons (ok_lret rfl dX0_choose_32 rfl) <| z_nil
theorem dX0_inRow_0 : decode cX0_inRow 0 = .ok (.lconst 1, 1) := by decide +kernel
theorem dX0_inRow_1 : decode cX0_inRow 1 = .ok (.lstore_n 2, 1) := by decide +kernel
theorem dX0_inRow_2 : decode cX0_inRow 2 = .ok (.iconst 0, 1) := by decide +kernel
theorem dX0_inRow_3 : decode cX0_inRow 3 = .ok (.istore 4, 2) := by decide +kernel
theorem dX0_inRow_5 : decode cX0_inRow 5 = .ok (.iload 4, 2) := by decide +kernel
theorem dX0_inRow_7 : decode cX0_inRow 7 = .ok (.iload_n 1, 1) := by decide +kernel
theorem dX0_inRow_8 : decode cX0_inRow 8 = .ok (.if_icmp .ge 17, 3) := by decide +kernel
theorem dX0_inRow_11 : decode cX0_inRow 11 = .ok (.lload_n 2, 1) := by decide +kernel
theorem dX0_inRow_12 : decode cX0_inRow 12 = .ok (.iload_n 0, 1) := by decide +kernel
theorem dX0_inRow_13 : decode cX0_inRow 13 = .ok (.iload 4, 2) := by decide +kernel
theorem dX0_inRow_15 : decode cX0_inRow 15 = .ok (.isub, 1) := by decide +kernel
theorem dX0_inRow_16 : decode cX0_inRow 16 = .ok (.i2l, 1) := by decide +kernel
theorem dX0_inRow_17 : decode cX0_inRow 17 = .ok (.lmul, 1) := by decide +kernel
theorem dX0_inRow_18 : decode cX0_inRow 18 = .ok (.lstore_n 2, 1) := by decide +kernel
theorem dX0_inRow_19 : decode cX0_inRow 19 = .ok (.iinc 4 1, 3) := by decide +kernel
theorem dX0_inRow_22 : decode cX0_inRow 22 = .ok (.goto (-17), 3) := by decide +kernel
theorem dX0_inRow_25 : decode cX0_inRow 25 = .ok (.lload_n 2, 1) := by decide +kernel
theorem dX0_inRow_26 : decode cX0_inRow 26 = .ok (.lreturn, 1) := by decide +kernel
set_option maxRecDepth 20000 in
theorem zl_X0_inRow_0 : z_All z_tab cX0_inRow 5 (some .long) RX0 pc_X0_inRow 0 (k_X0_inRow.drop 0) := z_cons (ok_lconst (by decide) dX0_inRow_0 rfl rfl) <| z_cons (ok_lstore_n (Nat.le_of_ble_eq_true rfl) dX0_inRow_1 rfl rfl) <| z_cons (ok_iconst (by decide) dX0_inRow_2 rfl rfl) <| z_cons (ok_istore (Nat.le_of_ble_eq_true rfl) dX0_inRow_3 rfl rfl) <| z_cons (ok_iload dX0_inRow_5 rfl rfl) <| z_cons (ok_iload_n dX0_inRow_7 rfl rfl) <| z_cons (ok_icmp_ge (tgt := 25) (by decide) rfl dX0_inRow_8 rfl rfl) <| z_cons (ok_lload_n dX0_inRow_11 rfl rfl) <| z_cons (ok_iload_n dX0_inRow_12 rfl rfl) <| z_cons (ok_iload dX0_inRow_13 rfl rfl) <| z_cons (ok_isub dX0_inRow_15 rfl rfl) <| z_cons (ok_i2l dX0_inRow_16 rfl rfl) <| z_cons (ok_lmul dX0_inRow_17 rfl rfl) <| z_cons (ok_lstore_n (Nat.le_of_ble_eq_true rfl) dX0_inRow_18 rfl rfl) <| z_cons (ok_iinc (by decide) (Nat.le_of_ble_eq_true rfl) dX0_inRow_19 rfl rfl) <| z_cons (ok_goto (tgt := 5) (by decide) rfl dX0_inRow_22 rfl) <| z_cons (ok_lload_n dX0_inRow_25 rfl rfl) <| z_cons (ok_lret rfl dX0_inRow_26 rfl) <| z_nil
theorem dX0_raised_0 : decode cX0_raised 0 = .ok (.lconst 1, 1) := by decide +kernel
theorem dX0_raised_1 : decode cX0_raised 1 = .ok (.lstore_n 3, 1) := by decide +kernel
theorem dX0_raised_2 : decode cX0_raised 2 = .ok (.iconst 0, 1) := by decide +kernel
theorem dX0_raised_3 : decode cX0_raised 3 = .ok (.istore 5, 2) := by decide +kernel
theorem dX0_raised_5 : decode cX0_raised 5 = .ok (.iload 5, 2) := by decide +kernel
theorem dX0_raised_7 : decode cX0_raised 7 = .ok (.iload_n 2, 1) := by decide +kernel
theorem dX0_raised_8 : decode cX0_raised 8 = .ok (.if_icmp .ge 13, 3) := by decide +kernel
theorem dX0_raised_11 : decode cX0_raised 11 = .ok (.lload_n 3, 1) := by decide +kernel
theorem dX0_raised_12 : decode cX0_raised 12 = .ok (.lload_n 0, 1) := by decide +kernel
theorem dX0_raised_13 : decode cX0_raised 13 = .ok (.lmul, 1) := by decide +kernel
theorem dX0_raised_14 : decode cX0_raised 14 = .ok (.lstore_n 3, 1) := by decide +kernel
theorem dX0_raised_15 : decode cX0_raised 15 = .ok (.iinc 5 1, 3) := by decide +kernel
theorem dX0_raised_18 : decode cX0_raised 18 = .ok (.goto (-13), 3) := by decide +kernel
theorem dX0_raised_21 : decode cX0_raised 21 = .ok (.lload_n 3, 1) := by decide +kernel
theorem dX0_raised_22 : decode cX0_raised 22 = .ok (.lreturn, 1) := by decide +kernel
set_option maxRecDepth 20000 in
theorem zl_X0_raised_0 : z_All z_tab cX0_raised 6 (some .long) RX0 pc_X0_raised 0 (k_X0_raised.drop 0) := z_cons (ok_lconst (by decide) dX0_raised_0 rfl rfl) <| z_cons (ok_lstore_n (Nat.le_of_ble_eq_true rfl) dX0_raised_1 rfl rfl) <| z_cons (ok_iconst (by decide) dX0_raised_2 rfl rfl) <| z_cons (ok_istore (Nat.le_of_ble_eq_true rfl) dX0_raised_3 rfl rfl) <| z_cons (ok_iload dX0_raised_5 rfl rfl) <| z_cons (ok_iload_n dX0_raised_7 rfl rfl) <| z_cons (ok_icmp_ge (tgt := 21) (by decide) rfl dX0_raised_8 rfl rfl) <| z_cons (ok_lload_n dX0_raised_11 rfl rfl) <| z_cons (ok_lload_n dX0_raised_12 rfl rfl) <| z_cons (ok_lmul dX0_raised_13 rfl rfl) <| z_cons (ok_lstore_n (Nat.le_of_ble_eq_true rfl) dX0_raised_14 rfl rfl) <| z_cons (ok_iinc (by decide) (Nat.le_of_ble_eq_true rfl) dX0_raised_15 rfl rfl) <| z_cons (ok_goto (tgt := 5) (by decide) rfl dX0_raised_18 rfl) <| z_cons (ok_lload_n dX0_raised_21 rfl rfl) <| z_cons (ok_lret rfl dX0_raised_22 rfl) <| z_nil
theorem dX0_isKnown_0 : decode cX0_isKnown 0 = .ok (.iload_n 0, 1) := by decide +kernel
theorem dX0_isKnown_1 : decode cX0_isKnown 1 = .ok (.ifCond .lt 22, 3) := by decide +kernel
theorem dX0_isKnown_4 : decode cX0_isKnown 4 = .ok (.iload_n 0, 1) := by decide +kernel
theorem dX0_isKnown_5 : decode cX0_isKnown 5 = .ok (.bipush 12, 2) := by decide +kernel
theorem dX0_isKnown_7 : decode cX0_isKnown 7 = .ok (.if_icmp .gt 16, 3) := by decide +kernel
theorem dX0_isKnown_10 : decode cX0_isKnown 10 = .ok (.iload_n 1, 1) := by decide +kernel
theorem dX0_isKnown_11 : decode cX0_isKnown 11 = .ok (.ifCond .lt 12, 3) := by decide +kernel
theorem dX0_isKnown_14 : decode cX0_isKnown 14 = .ok (.iload_n 1, 1) := by decide +kernel
theorem dX0_isKnown_15 : decode cX0_isKnown 15 = .ok (.iconst 4, 1) := by decide +kernel
theorem dX0_isKnown_16 : decode cX0_isKnown 16 = .ok (.if_icmp .gt 7, 3) := by decide +kernel
theorem dX0_isKnown_19 : decode cX0_isKnown 19 = .ok (.iconst 1, 1) := by decide +kernel
theorem dX0_isKnown_20 : decode cX0_isKnown 20 = .ok (.goto 4, 3) := by decide +kernel
theorem dX0_isKnown_23 : decode cX0_isKnown 23 = .ok (.iconst 0, 1) := by decide +kernel
theorem dX0_isKnown_24 : decode cX0_isKnown 24 = .ok (.ireturn, 1) := by decide +kernel
set_option maxRecDepth 20000 in
theorem zl_X0_isKnown_0 : z_All z_tab cX0_isKnown 2 (some .boolean) RX0 pc_X0_isKnown 0 (k_X0_isKnown.drop 0) := z_cons (ok_iload_n dX0_isKnown_0 rfl rfl) <| z_cons (ok_if_lt (tgt := 23) (by decide) rfl dX0_isKnown_1 rfl rfl) <| z_cons (ok_iload_n dX0_isKnown_4 rfl rfl) <| z_cons (ok_bipush (by decide) dX0_isKnown_5 rfl rfl) <| z_cons (ok_icmp_gt (tgt := 23) (by decide) rfl dX0_isKnown_7 rfl rfl) <| z_cons (ok_iload_n dX0_isKnown_10 rfl rfl) <| z_cons (ok_if_lt (tgt := 23) (by decide) rfl dX0_isKnown_11 rfl rfl) <| z_cons (ok_iload_n dX0_isKnown_14 rfl rfl) <| z_cons (ok_iconst (by decide) dX0_isKnown_15 rfl rfl) <| z_cons (ok_icmp_gt (tgt := 23) (by decide) rfl dX0_isKnown_16 rfl rfl) <| z_cons (ok_iconst (by decide) dX0_isKnown_19 rfl rfl) <| z_cons (ok_goto (tgt := 24) (by decide) rfl dX0_isKnown_20 rfl) <| z_cons (ok_iconst (by decide) dX0_isKnown_23 rfl rfl) <| z_cons (ok_zret rfl dX0_isKnown_24 rfl) <| z_nil
theorem dX0_waysOf_0 : decode cX0_waysOf 0 = .ok (.iload_n 1, 1) := by decide +kernel
theorem dX0_waysOf_1 : decode cX0_waysOf 1 = .ok (.iload_n 2, 1) := by decide +kernel
theorem dX0_waysOf_2 : decode cX0_waysOf 2 = .ok (.invokestatic 38, 3) := by decide +kernel
theorem dX0_waysOf_5 : decode cX0_waysOf 5 = .ok (.ifCond .eq 12, 3) := by decide +kernel
theorem dX0_waysOf_8 : decode cX0_waysOf 8 = .ok (.iload_n 3, 1) := by decide +kernel
theorem dX0_waysOf_9 : decode cX0_waysOf 9 = .ok (.ifCond .lt 8, 3) := by decide +kernel
theorem dX0_waysOf_12 : decode cX0_waysOf 12 = .ok (.iload_n 3, 1) := by decide +kernel
theorem dX0_waysOf_13 : decode cX0_waysOf 13 = .ok (.iload_n 1, 1) := by decide +kernel
theorem dX0_waysOf_14 : decode cX0_waysOf 14 = .ok (.if_icmp .le 7, 3) := by decide +kernel
theorem dX0_waysOf_17 : decode cX0_waysOf 17 = .ok (.ldc2_w 42, 3) := by decide +kernel
theorem dX0_waysOf_20 : decode cX0_waysOf 20 = .ok (.lreturn, 1) := by decide +kernel
theorem dX0_waysOf_21 : decode cX0_waysOf 21 = .ok (.iconst 1, 1) := by decide +kernel
theorem dX0_waysOf_22 : decode cX0_waysOf 22 = .ok (.iload_n 2, 1) := by decide +kernel
theorem dX0_waysOf_23 : decode cX0_waysOf 23 = .ok (.ishl, 1) := by decide +kernel
theorem dX0_waysOf_24 : decode cX0_waysOf 24 = .ok (.istore 4, 2) := by decide +kernel
theorem dX0_waysOf_26 : decode cX0_waysOf 26 = .ok (.iload_n 3, 1) := by decide +kernel
theorem dX0_waysOf_27 : decode cX0_waysOf 27 = .ok (.iload 4, 2) := by decide +kernel
theorem dX0_waysOf_29 : decode cX0_waysOf 29 = .ok (.if_icmp .le 5, 3) := by decide +kernel
theorem dX0_waysOf_32 : decode cX0_waysOf 32 = .ok (.lconst 0, 1) := by decide +kernel
theorem dX0_waysOf_33 : decode cX0_waysOf 33 = .ok (.lreturn, 1) := by decide +kernel
theorem dX0_waysOf_34 : decode cX0_waysOf 34 = .ok (.iload 4, 2) := by decide +kernel
theorem dX0_waysOf_36 : decode cX0_waysOf 36 = .ok (.iload_n 3, 1) := by decide +kernel
theorem dX0_waysOf_37 : decode cX0_waysOf 37 = .ok (.invokestatic 34, 3) := by decide +kernel
theorem dX0_waysOf_40 : decode cX0_waysOf 40 = .ok (.iload_n 1, 1) := by decide +kernel
theorem dX0_waysOf_41 : decode cX0_waysOf 41 = .ok (.iload_n 3, 1) := by decide +kernel
theorem dX0_waysOf_42 : decode cX0_waysOf 42 = .ok (.invokestatic 44, 3) := by decide +kernel
theorem dX0_waysOf_45 : decode cX0_waysOf 45 = .ok (.lmul, 1) := by decide +kernel
theorem dX0_waysOf_46 : decode cX0_waysOf 46 = .ok (.aload_n 0, 1) := by decide +kernel
theorem dX0_waysOf_47 : decode cX0_waysOf 47 = .ok (.getfield 11, 3) := by decide +kernel
theorem dX0_waysOf_50 : decode cX0_waysOf 50 = .ok (.iload 4, 2) := by decide +kernel
theorem dX0_waysOf_52 : decode cX0_waysOf 52 = .ok (.iload_n 3, 1) := by decide +kernel
theorem dX0_waysOf_53 : decode cX0_waysOf 53 = .ok (.isub, 1) := by decide +kernel
theorem dX0_waysOf_54 : decode cX0_waysOf 54 = .ok (.iload_n 1, 1) := by decide +kernel
theorem dX0_waysOf_55 : decode cX0_waysOf 55 = .ok (.iload_n 3, 1) := by decide +kernel
theorem dX0_waysOf_56 : decode cX0_waysOf 56 = .ok (.isub, 1) := by decide +kernel
theorem dX0_waysOf_57 : decode cX0_waysOf 57 = .ok (.invokestatic 30, 3) := by decide +kernel
theorem dX0_waysOf_60 : decode cX0_waysOf 60 = .ok (.laload, 1) := by decide +kernel
theorem dX0_waysOf_61 : decode cX0_waysOf 61 = .ok (.lmul, 1) := by decide +kernel
theorem dX0_waysOf_62 : decode cX0_waysOf 62 = .ok (.lreturn, 1) := by decide +kernel
set_option maxRecDepth 20000 in
theorem zl_X0_waysOf_0 : z_All z_tab cX0_waysOf 5 (some .long) RX0 pc_X0_waysOf 0 (k_X0_waysOf.drop 0) := z_cons (ok_iload_n dX0_waysOf_0 rfl rfl) <| z_cons (ok_iload_n dX0_waysOf_1 rfl rfl) <| z_cons (ok_callS (k := 5) (n := 2) qw_7 qw_1 ⟨by decide +kernel, by decide +kernel, by decide +kernel⟩ (Nat.le_of_ble_eq_true rfl) qw_9 qw_8 dX0_waysOf_2 rfl rfl) <| z_cons (ok_if_eq (tgt := 17) (by decide) rfl dX0_waysOf_5 rfl rfl) <| z_cons (ok_iload_n dX0_waysOf_8 rfl rfl) <| z_cons (ok_if_lt (tgt := 17) (by decide) rfl dX0_waysOf_9 rfl rfl) <| z_cons (ok_iload_n dX0_waysOf_12 rfl rfl) <| z_cons (ok_iload_n dX0_waysOf_13 rfl rfl) <| z_cons (ok_icmp_le (tgt := 21) (by decide) rfl dX0_waysOf_14 rfl rfl) <| z_cons (ok_ldc2 qw_10 dX0_waysOf_17 rfl rfl) <| z_cons (ok_lret rfl dX0_waysOf_20 rfl) <| z_cons (ok_iconst (by decide) dX0_waysOf_21 rfl rfl) <| z_cons (ok_iload_n dX0_waysOf_22 rfl rfl) <| z_cons (ok_ishl dX0_waysOf_23 rfl rfl) <| z_cons (ok_istore (Nat.le_of_ble_eq_true rfl) dX0_waysOf_24 rfl rfl) <| z_cons (ok_iload_n dX0_waysOf_26 rfl rfl) <| z_cons (ok_iload dX0_waysOf_27 rfl rfl) <| z_cons (ok_icmp_le (tgt := 34) (by decide) rfl dX0_waysOf_29 rfl rfl) <| z_cons (ok_lconst (by decide) dX0_waysOf_32 rfl rfl) <| z_cons (ok_lret rfl dX0_waysOf_33 rfl) <| z_cons (ok_iload dX0_waysOf_34 rfl rfl) <| z_cons (ok_iload_n dX0_waysOf_36 rfl rfl) <| z_cons (ok_callS (k := 2) (n := 2) qw_4 qw_1 ⟨by decide +kernel, by decide +kernel, by decide +kernel⟩ (Nat.le_of_ble_eq_true rfl) qw_6 qw_5 dX0_waysOf_37 rfl rfl) <| z_cons (ok_iload_n dX0_waysOf_40 rfl rfl) <| z_cons (ok_iload_n dX0_waysOf_41 rfl rfl) <| z_cons (ok_callS (k := 3) (n := 2) qw_11 qw_1 ⟨by decide +kernel, by decide +kernel, by decide +kernel⟩ (Nat.le_of_ble_eq_true rfl) qw_13 qw_12 dX0_waysOf_42 rfl rfl) <| z_cons (ok_lmul dX0_waysOf_45 rfl rfl) <| z_cons (ok_aload_n dX0_waysOf_46 rfl rfl) <| z_cons (ok_getr (k := 0) ⟨by decide, by decide, by decide⟩ (ci := 0) (T := TX0) rfl rfl (Nat.le_of_ble_eq_true rfl) iw_X0 qw_14 gr_1_0 (fun _ _ => by simp) (fun w i => List.mem_of_getElem? (i := 0) rfl) dX0_waysOf_47 rfl rfl) <| z_cons (ok_iload dX0_waysOf_50 rfl rfl) <| z_cons (ok_iload_n dX0_waysOf_52 rfl rfl) <| z_cons (ok_isub dX0_waysOf_53 rfl rfl) <| z_cons (ok_iload_n dX0_waysOf_54 rfl rfl) <| z_cons (ok_iload_n dX0_waysOf_55 rfl rfl) <| z_cons (ok_isub dX0_waysOf_56 rfl rfl) <| z_cons (ok_callS (k := 0) (n := 2) qw_0 qw_1 ⟨by decide +kernel, by decide +kernel, by decide +kernel⟩ (Nat.le_of_ble_eq_true rfl) qw_3 qw_2 dX0_waysOf_57 rfl rfl) <| z_cons (ok_lald dX0_waysOf_60 rfl rfl) <| z_cons (ok_lmul dX0_waysOf_61 rfl rfl) <| z_cons (ok_lret rfl dX0_waysOf_62 rfl) <| z_nil
theorem dX0_hopeAbove_0 : decode cX0_hopeAbove 0 = .ok (.iload_n 0, 1) := by decide +kernel
theorem dX0_hopeAbove_1 : decode cX0_hopeAbove 1 = .ok (.i2l, 1) := by decide +kernel
theorem dX0_hopeAbove_2 : decode cX0_hopeAbove 2 = .ok (.iload_n 1, 1) := by decide +kernel
theorem dX0_hopeAbove_3 : decode cX0_hopeAbove 3 = .ok (.iconst 1, 1) := by decide +kernel
theorem dX0_hopeAbove_4 : decode cX0_hopeAbove 4 = .ok (.isub, 1) := by decide +kernel
theorem dX0_hopeAbove_5 : decode cX0_hopeAbove 5 = .ok (.i2l, 1) := by decide +kernel
theorem dX0_hopeAbove_6 : decode cX0_hopeAbove 6 = .ok (.iload_n 0, 1) := by decide +kernel
theorem dX0_hopeAbove_7 : decode cX0_hopeAbove 7 = .ok (.iconst 1, 1) := by decide +kernel
theorem dX0_hopeAbove_8 : decode cX0_hopeAbove 8 = .ok (.isub, 1) := by decide +kernel
theorem dX0_hopeAbove_9 : decode cX0_hopeAbove 9 = .ok (.invokestatic 47, 3) := by decide +kernel
theorem dX0_hopeAbove_12 : decode cX0_hopeAbove 12 = .ok (.lmul, 1) := by decide +kernel
theorem dX0_hopeAbove_13 : decode cX0_hopeAbove 13 = .ok (.lreturn, 1) := by decide +kernel
set_option maxRecDepth 20000 in
theorem zl_X0_hopeAbove_0 : z_All z_tab cX0_hopeAbove 2 (some .long) RX0 pc_X0_hopeAbove 0 (k_X0_hopeAbove.drop 0) := z_cons (ok_iload_n dX0_hopeAbove_0 rfl rfl) <| z_cons (ok_i2l dX0_hopeAbove_1 rfl rfl) <| z_cons (ok_iload_n dX0_hopeAbove_2 rfl rfl) <| z_cons (ok_iconst (by decide) dX0_hopeAbove_3 rfl rfl) <| z_cons (ok_isub dX0_hopeAbove_4 rfl rfl) <| z_cons (ok_i2l dX0_hopeAbove_5 rfl rfl) <| z_cons (ok_iload_n dX0_hopeAbove_6 rfl rfl) <| z_cons (ok_iconst (by decide) dX0_hopeAbove_7 rfl rfl) <| z_cons (ok_isub dX0_hopeAbove_8 rfl rfl) <| z_cons (ok_callS (k := 4) (n := 2) qw_15 qw_1 ⟨by decide +kernel, by decide +kernel, by decide +kernel⟩ (Nat.le_of_ble_eq_true rfl) qw_17 qw_16 dX0_hopeAbove_9 rfl rfl) <| z_cons (ok_lmul dX0_hopeAbove_12 rfl rfl) <| z_cons (ok_lret rfl dX0_hopeAbove_13 rfl) <| z_nil
theorem dX0_hopeOf_0 : decode cX0_hopeOf 0 = .ok (.iload_n 1, 1) := by decide +kernel
theorem dX0_hopeOf_1 : decode cX0_hopeOf 1 = .ok (.iload_n 2, 1) := by decide +kernel
theorem dX0_hopeOf_2 : decode cX0_hopeOf 2 = .ok (.invokestatic 38, 3) := by decide +kernel
theorem dX0_hopeOf_5 : decode cX0_hopeOf 5 = .ok (.ifCond .eq 12, 3) := by decide +kernel
theorem dX0_hopeOf_8 : decode cX0_hopeOf 8 = .ok (.iload_n 3, 1) := by decide +kernel
theorem dX0_hopeOf_9 : decode cX0_hopeOf 9 = .ok (.ifCond .lt 8, 3) := by decide +kernel
theorem dX0_hopeOf_12 : decode cX0_hopeOf 12 = .ok (.iload_n 3, 1) := by decide +kernel
theorem dX0_hopeOf_13 : decode cX0_hopeOf 13 = .ok (.iconst 1, 1) := by decide +kernel
theorem dX0_hopeOf_14 : decode cX0_hopeOf 14 = .ok (.if_icmp .le 7, 3) := by decide +kernel
theorem dX0_hopeOf_17 : decode cX0_hopeOf 17 = .ok (.ldc2_w 42, 3) := by decide +kernel
theorem dX0_hopeOf_20 : decode cX0_hopeOf 20 = .ok (.lreturn, 1) := by decide +kernel
theorem dX0_hopeOf_21 : decode cX0_hopeOf 21 = .ok (.iload_n 1, 1) := by decide +kernel
theorem dX0_hopeOf_22 : decode cX0_hopeOf 22 = .ok (.iconst 1, 1) := by decide +kernel
theorem dX0_hopeOf_23 : decode cX0_hopeOf 23 = .ok (.iload_n 2, 1) := by decide +kernel
theorem dX0_hopeOf_24 : decode cX0_hopeOf 24 = .ok (.ishl, 1) := by decide +kernel
theorem dX0_hopeOf_25 : decode cX0_hopeOf 25 = .ok (.invokestatic 51, 3) := by decide +kernel
theorem dX0_hopeOf_28 : decode cX0_hopeOf 28 = .ok (.lstore 4, 2) := by decide +kernel
theorem dX0_hopeOf_30 : decode cX0_hopeOf 30 = .ok (.iconst 1, 1) := by decide +kernel
theorem dX0_hopeOf_31 : decode cX0_hopeOf 31 = .ok (.iload_n 2, 1) := by decide +kernel
theorem dX0_hopeOf_32 : decode cX0_hopeOf 32 = .ok (.ishl, 1) := by decide +kernel
theorem dX0_hopeOf_33 : decode cX0_hopeOf 33 = .ok (.i2l, 1) := by decide +kernel
theorem dX0_hopeOf_34 : decode cX0_hopeOf 34 = .ok (.iload_n 1, 1) := by decide +kernel
theorem dX0_hopeOf_35 : decode cX0_hopeOf 35 = .ok (.iconst 1, 1) := by decide +kernel
theorem dX0_hopeOf_36 : decode cX0_hopeOf 36 = .ok (.isub, 1) := by decide +kernel
theorem dX0_hopeOf_37 : decode cX0_hopeOf 37 = .ok (.invokestatic 47, 3) := by decide +kernel
theorem dX0_hopeOf_40 : decode cX0_hopeOf 40 = .ok (.lstore 6, 2) := by decide +kernel
theorem dX0_hopeOf_42 : decode cX0_hopeOf 42 = .ok (.lload 4, 2) := by decide +kernel
theorem dX0_hopeOf_44 : decode cX0_hopeOf 44 = .ok (.lload 6, 2) := by decide +kernel
theorem dX0_hopeOf_46 : decode cX0_hopeOf 46 = .ok (.invokestatic 54, 3) := by decide +kernel
theorem dX0_hopeOf_49 : decode cX0_hopeOf 49 = .ok (.lstore 8, 2) := by decide +kernel
theorem dX0_hopeOf_51 : decode cX0_hopeOf 51 = .ok (.lload 8, 2) := by decide +kernel
theorem dX0_hopeOf_53 : decode cX0_hopeOf 53 = .ok (.lconst 0, 1) := by decide +kernel
theorem dX0_hopeOf_54 : decode cX0_hopeOf 54 = .ok (.lcmp, 1) := by decide +kernel
theorem dX0_hopeOf_55 : decode cX0_hopeOf 55 = .ok (.ifCond .ne 9, 3) := by decide +kernel
theorem dX0_hopeOf_58 : decode cX0_hopeOf 58 = .ok (.ldc2_w 42, 3) := by decide +kernel
theorem dX0_hopeOf_61 : decode cX0_hopeOf 61 = .ok (.goto 17, 3) := by decide +kernel
theorem dX0_hopeOf_64 : decode cX0_hopeOf 64 = .ok (.iload_n 3, 1) := by decide +kernel
theorem dX0_hopeOf_65 : decode cX0_hopeOf 65 = .ok (.ifCond .ne 8, 3) := by decide +kernel
theorem dX0_hopeOf_68 : decode cX0_hopeOf 68 = .ok (.lload 4, 2) := by decide +kernel
theorem dX0_hopeOf_70 : decode cX0_hopeOf 70 = .ok (.goto 5, 3) := by decide +kernel
theorem dX0_hopeOf_73 : decode cX0_hopeOf 73 = .ok (.lload 6, 2) := by decide +kernel
theorem dX0_hopeOf_75 : decode cX0_hopeOf 75 = .ok (.lload 8, 2) := by decide +kernel
theorem dX0_hopeOf_77 : decode cX0_hopeOf 77 = .ok (.ldiv, 1) := by decide +kernel
theorem dX0_hopeOf_78 : decode cX0_hopeOf 78 = .ok (.lreturn, 1) := by decide +kernel
set_option maxRecDepth 20000 in
theorem zl_X0_hopeOf_1 : z_All z_tab cX0_hopeOf 10 (some .long) RX0 pc_X0_hopeOf 40 (k_X0_hopeOf.drop 40) := z_cons (ok_lload dX0_hopeOf_73 rfl rfl) <| z_cons (ok_lload dX0_hopeOf_75 rfl rfl) <| z_cons (ok_ldiv dX0_hopeOf_77 rfl rfl) <| z_cons (ok_lret rfl dX0_hopeOf_78 rfl) <| z_nil
set_option maxRecDepth 20000 in
theorem zl_X0_hopeOf_0 : z_All z_tab cX0_hopeOf 10 (some .long) RX0 pc_X0_hopeOf 0 (k_X0_hopeOf.drop 0) := z_cons (ok_iload_n dX0_hopeOf_0 rfl rfl) <| z_cons (ok_iload_n dX0_hopeOf_1 rfl rfl) <| z_cons (ok_callS (k := 5) (n := 2) qw_7 qw_1 ⟨by decide +kernel, by decide +kernel, by decide +kernel⟩ (Nat.le_of_ble_eq_true rfl) qw_9 qw_8 dX0_hopeOf_2 rfl rfl) <| z_cons (ok_if_eq (tgt := 17) (by decide) rfl dX0_hopeOf_5 rfl rfl) <| z_cons (ok_iload_n dX0_hopeOf_8 rfl rfl) <| z_cons (ok_if_lt (tgt := 17) (by decide) rfl dX0_hopeOf_9 rfl rfl) <| z_cons (ok_iload_n dX0_hopeOf_12 rfl rfl) <| z_cons (ok_iconst (by decide) dX0_hopeOf_13 rfl rfl) <| z_cons (ok_icmp_le (tgt := 21) (by decide) rfl dX0_hopeOf_14 rfl rfl) <| z_cons (ok_ldc2 qw_10 dX0_hopeOf_17 rfl rfl) <| z_cons (ok_lret rfl dX0_hopeOf_20 rfl) <| z_cons (ok_iload_n dX0_hopeOf_21 rfl rfl) <| z_cons (ok_iconst (by decide) dX0_hopeOf_22 rfl rfl) <| z_cons (ok_iload_n dX0_hopeOf_23 rfl rfl) <| z_cons (ok_ishl dX0_hopeOf_24 rfl rfl) <| z_cons (ok_callS (k := 7) (n := 2) qw_18 qw_1 ⟨by decide +kernel, by decide +kernel, by decide +kernel⟩ (Nat.le_of_ble_eq_true rfl) qw_20 qw_19 dX0_hopeOf_25 rfl rfl) <| z_cons (ok_lstore (Nat.le_of_ble_eq_true rfl) dX0_hopeOf_28 rfl rfl) <| z_cons (ok_iconst (by decide) dX0_hopeOf_30 rfl rfl) <| z_cons (ok_iload_n dX0_hopeOf_31 rfl rfl) <| z_cons (ok_ishl dX0_hopeOf_32 rfl rfl) <| z_cons (ok_i2l dX0_hopeOf_33 rfl rfl) <| z_cons (ok_iload_n dX0_hopeOf_34 rfl rfl) <| z_cons (ok_iconst (by decide) dX0_hopeOf_35 rfl rfl) <| z_cons (ok_isub dX0_hopeOf_36 rfl rfl) <| z_cons (ok_callS (k := 4) (n := 2) qw_15 qw_1 ⟨by decide +kernel, by decide +kernel, by decide +kernel⟩ (Nat.le_of_ble_eq_true rfl) qw_17 qw_16 dX0_hopeOf_37 rfl rfl) <| z_cons (ok_lstore (Nat.le_of_ble_eq_true rfl) dX0_hopeOf_40 rfl rfl) <| z_cons (ok_lload dX0_hopeOf_42 rfl rfl) <| z_cons (ok_lload dX0_hopeOf_44 rfl rfl) <| z_cons (ok_callN (k := 161) (n := 2) qw_21 qw_22 ⟨by decide +kernel, by decide +kernel, by decide +kernel⟩ (Nat.le_of_ble_eq_true rfl) (host := "TagReaders") (by decide +kernel) qw_23 dX0_hopeOf_46 rfl rfl) <| z_cons (ok_lstore (Nat.le_of_ble_eq_true rfl) dX0_hopeOf_49 rfl rfl) <| z_cons (ok_lload dX0_hopeOf_51 rfl rfl) <| z_cons (ok_lconst (by decide) dX0_hopeOf_53 rfl rfl) <| z_cons (ok_lcmp dX0_hopeOf_54 rfl rfl) <| z_cons (ok_if_ne (tgt := 64) (by decide) rfl dX0_hopeOf_55 rfl rfl) <| z_cons (ok_ldc2 qw_10 dX0_hopeOf_58 rfl rfl) <| z_cons (ok_goto (tgt := 78) (by decide) rfl dX0_hopeOf_61 rfl) <| z_cons (ok_iload_n dX0_hopeOf_64 rfl rfl) <| z_cons (ok_if_ne (tgt := 73) (by decide) rfl dX0_hopeOf_65 rfl rfl) <| z_cons (ok_lload dX0_hopeOf_68 rfl rfl) <| z_cons (ok_goto (tgt := 75) (by decide) rfl dX0_hopeOf_70 rfl) <| zl_X0_hopeOf_1
theorem dX0_bestFor_0 : decode cX0_bestFor 0 = .ok (.iload_n 1, 1) := by decide +kernel
theorem dX0_bestFor_1 : decode cX0_bestFor 1 = .ok (.iconst 1, 1) := by decide +kernel
theorem dX0_bestFor_2 : decode cX0_bestFor 2 = .ok (.if_icmp .lt 9, 3) := by decide +kernel
theorem dX0_bestFor_5 : decode cX0_bestFor 5 = .ok (.iload_n 1, 1) := by decide +kernel
theorem dX0_bestFor_6 : decode cX0_bestFor 6 = .ok (.bipush 12, 2) := by decide +kernel
theorem dX0_bestFor_8 : decode cX0_bestFor 8 = .ok (.if_icmp .le 7, 3) := by decide +kernel
theorem dX0_bestFor_11 : decode cX0_bestFor 11 = .ok (.iconst (-1), 1) := by decide +kernel
theorem dX0_bestFor_12 : decode cX0_bestFor 12 = .ok (.goto 9, 3) := by decide +kernel
theorem dX0_bestFor_15 : decode cX0_bestFor 15 = .ok (.aload_n 0, 1) := by decide +kernel
theorem dX0_bestFor_16 : decode cX0_bestFor 16 = .ok (.getfield 18, 3) := by decide +kernel
theorem dX0_bestFor_19 : decode cX0_bestFor 19 = .ok (.iload_n 1, 1) := by decide +kernel
theorem dX0_bestFor_20 : decode cX0_bestFor 20 = .ok (.iaload, 1) := by decide +kernel
theorem dX0_bestFor_21 : decode cX0_bestFor 21 = .ok (.ireturn, 1) := by decide +kernel
set_option maxRecDepth 20000 in
theorem zl_X0_bestFor_0 : z_All z_tab cX0_bestFor 2 (some .int) RX0 pc_X0_bestFor 0 (k_X0_bestFor.drop 0) := z_cons (ok_iload_n dX0_bestFor_0 rfl rfl) <| z_cons (ok_iconst (by decide) dX0_bestFor_1 rfl rfl) <| z_cons (ok_icmp_lt (tgt := 11) (by decide) rfl dX0_bestFor_2 rfl rfl) <| z_cons (ok_iload_n dX0_bestFor_5 rfl rfl) <| z_cons (ok_bipush (by decide) dX0_bestFor_6 rfl rfl) <| z_cons (ok_icmp_le (tgt := 15) (by decide) rfl dX0_bestFor_8 rfl rfl) <| z_cons (ok_iconst (by decide) dX0_bestFor_11 rfl rfl) <| z_cons (ok_goto (tgt := 21) (by decide) rfl dX0_bestFor_12 rfl) <| z_cons (ok_aload_n dX0_bestFor_15 rfl rfl) <| z_cons (ok_getr (k := 2) ⟨by decide, by decide, by decide⟩ (ci := 0) (T := TX0) rfl rfl (Nat.le_of_ble_eq_true rfl) iw_X0 qw_24 gr_1_2 (fun _ _ => by simp) (fun w i => List.mem_of_getElem? (i := 2) rfl) dX0_bestFor_16 rfl rfl) <| z_cons (ok_iload_n dX0_bestFor_19 rfl rfl) <| z_cons (ok_cald dX0_bestFor_20 rfl rfl) <| z_cons (ok_iret rfl dX0_bestFor_21 rfl) <| z_nil
theorem dX0_hopeInSixteenths_0 : decode cX0_hopeInSixteenths 0 = .ok (.iload_n 0, 1) := by decide +kernel
theorem dX0_hopeInSixteenths_1 : decode cX0_hopeInSixteenths 1 = .ok (.iconst 1, 1) := by decide +kernel
theorem dX0_hopeInSixteenths_2 : decode cX0_hopeInSixteenths 2 = .ok (.iload_n 1, 1) := by decide +kernel
theorem dX0_hopeInSixteenths_3 : decode cX0_hopeInSixteenths 3 = .ok (.ishl, 1) := by decide +kernel
theorem dX0_hopeInSixteenths_4 : decode cX0_hopeInSixteenths 4 = .ok (.invokestatic 51, 3) := by decide +kernel
theorem dX0_hopeInSixteenths_7 : decode cX0_hopeInSixteenths 7 = .ok (.iconst 1, 1) := by decide +kernel
theorem dX0_hopeInSixteenths_8 : decode cX0_hopeInSixteenths 8 = .ok (.iconst 4, 1) := by decide +kernel
theorem dX0_hopeInSixteenths_9 : decode cX0_hopeInSixteenths 9 = .ok (.iload_n 1, 1) := by decide +kernel
theorem dX0_hopeInSixteenths_10 : decode cX0_hopeInSixteenths 10 = .ok (.isub, 1) := by decide +kernel
theorem dX0_hopeInSixteenths_11 : decode cX0_hopeInSixteenths 11 = .ok (.ishl, 1) := by decide +kernel
theorem dX0_hopeInSixteenths_12 : decode cX0_hopeInSixteenths 12 = .ok (.i2l, 1) := by decide +kernel
theorem dX0_hopeInSixteenths_13 : decode cX0_hopeInSixteenths 13 = .ok (.iload_n 0, 1) := by decide +kernel
theorem dX0_hopeInSixteenths_14 : decode cX0_hopeInSixteenths 14 = .ok (.invokestatic 47, 3) := by decide +kernel
theorem dX0_hopeInSixteenths_17 : decode cX0_hopeInSixteenths 17 = .ok (.lmul, 1) := by decide +kernel
theorem dX0_hopeInSixteenths_18 : decode cX0_hopeInSixteenths 18 = .ok (.lreturn, 1) := by decide +kernel
set_option maxRecDepth 20000 in
theorem zl_X0_hopeInSixteenths_0 : z_All z_tab cX0_hopeInSixteenths 2 (some .long) RX0 pc_X0_hopeInSixteenths 0 (k_X0_hopeInSixteenths.drop 0) := z_cons (ok_iload_n dX0_hopeInSixteenths_0 rfl rfl) <| z_cons (ok_iconst (by decide) dX0_hopeInSixteenths_1 rfl rfl) <| z_cons (ok_iload_n dX0_hopeInSixteenths_2 rfl rfl) <| z_cons (ok_ishl dX0_hopeInSixteenths_3 rfl rfl) <| z_cons (ok_callS (k := 7) (n := 2) qw_18 qw_1 ⟨by decide +kernel, by decide +kernel, by decide +kernel⟩ (Nat.le_of_ble_eq_true rfl) qw_20 qw_19 dX0_hopeInSixteenths_4 rfl rfl) <| z_cons (ok_iconst (by decide) dX0_hopeInSixteenths_7 rfl rfl) <| z_cons (ok_iconst (by decide) dX0_hopeInSixteenths_8 rfl rfl) <| z_cons (ok_iload_n dX0_hopeInSixteenths_9 rfl rfl) <| z_cons (ok_isub dX0_hopeInSixteenths_10 rfl rfl) <| z_cons (ok_ishl dX0_hopeInSixteenths_11 rfl rfl) <| z_cons (ok_i2l dX0_hopeInSixteenths_12 rfl rfl) <| z_cons (ok_iload_n dX0_hopeInSixteenths_13 rfl rfl) <| z_cons (ok_callS (k := 4) (n := 2) qw_15 qw_1 ⟨by decide +kernel, by decide +kernel, by decide +kernel⟩ (Nat.le_of_ble_eq_true rfl) qw_17 qw_16 dX0_hopeInSixteenths_14 rfl rfl) <| z_cons (ok_lmul dX0_hopeInSixteenths_17 rfl rfl) <| z_cons (ok_lret rfl dX0_hopeInSixteenths_18 rfl) <| z_nil
theorem dX0_guessBy_0 : decode cX0_guessBy 0 = .ok (.iload_n 1, 1) := by decide +kernel
theorem dX0_guessBy_1 : decode cX0_guessBy 1 = .ok (.ifCond .lt 33, 3) := by decide +kernel
theorem dX0_guessBy_4 : decode cX0_guessBy 4 = .ok (.iload_n 1, 1) := by decide +kernel
theorem dX0_guessBy_5 : decode cX0_guessBy 5 = .ok (.bipush 16, 2) := by decide +kernel
theorem dX0_guessBy_7 : decode cX0_guessBy 7 = .ok (.if_icmp .gt 27, 3) := by decide +kernel
theorem dX0_guessBy_10 : decode cX0_guessBy 10 = .ok (.iload_n 2, 1) := by decide +kernel
theorem dX0_guessBy_11 : decode cX0_guessBy 11 = .ok (.ifCond .lt 23, 3) := by decide +kernel
theorem dX0_guessBy_14 : decode cX0_guessBy 14 = .ok (.iload_n 2, 1) := by decide +kernel
theorem dX0_guessBy_15 : decode cX0_guessBy 15 = .ok (.bipush 16, 2) := by decide +kernel
theorem dX0_guessBy_17 : decode cX0_guessBy 17 = .ok (.if_icmp .gt 17, 3) := by decide +kernel
theorem dX0_guessBy_20 : decode cX0_guessBy 20 = .ok (.iload_n 3, 1) := by decide +kernel
theorem dX0_guessBy_21 : decode cX0_guessBy 21 = .ok (.ifCond .lt 13, 3) := by decide +kernel
theorem dX0_guessBy_24 : decode cX0_guessBy 24 = .ok (.iload_n 3, 1) := by decide +kernel
theorem dX0_guessBy_25 : decode cX0_guessBy 25 = .ok (.bipush 16, 2) := by decide +kernel
theorem dX0_guessBy_27 : decode cX0_guessBy 27 = .ok (.if_icmp .gt 7, 3) := by decide +kernel
theorem dX0_guessBy_30 : decode cX0_guessBy 30 = .ok (.iconst 1, 1) := by decide +kernel
theorem dX0_guessBy_31 : decode cX0_guessBy 31 = .ok (.goto 4, 3) := by decide +kernel
theorem dX0_guessBy_34 : decode cX0_guessBy 34 = .ok (.iconst 0, 1) := by decide +kernel
theorem dX0_guessBy_35 : decode cX0_guessBy 35 = .ok (.istore 4, 2) := by decide +kernel
theorem dX0_guessBy_37 : decode cX0_guessBy 37 = .ok (.iload 4, 2) := by decide +kernel
theorem dX0_guessBy_39 : decode cX0_guessBy 39 = .ok (.ifCond .eq 25, 3) := by decide +kernel
theorem dX0_guessBy_42 : decode cX0_guessBy 42 = .ok (.iload_n 1, 1) := by decide +kernel
theorem dX0_guessBy_43 : decode cX0_guessBy 43 = .ok (.iload_n 2, 1) := by decide +kernel
theorem dX0_guessBy_44 : decode cX0_guessBy 44 = .ok (.iadd, 1) := by decide +kernel
theorem dX0_guessBy_45 : decode cX0_guessBy 45 = .ok (.iload_n 3, 1) := by decide +kernel
theorem dX0_guessBy_46 : decode cX0_guessBy 46 = .ok (.iadd, 1) := by decide +kernel
theorem dX0_guessBy_47 : decode cX0_guessBy 47 = .ok (.bipush 16, 2) := by decide +kernel
theorem dX0_guessBy_49 : decode cX0_guessBy 49 = .ok (.if_icmp .gt 15, 3) := by decide +kernel
theorem dX0_guessBy_52 : decode cX0_guessBy 52 = .ok (.iload_n 1, 1) := by decide +kernel
theorem dX0_guessBy_53 : decode cX0_guessBy 53 = .ok (.iload_n 2, 1) := by decide +kernel
theorem dX0_guessBy_54 : decode cX0_guessBy 54 = .ok (.iadd, 1) := by decide +kernel
theorem dX0_guessBy_55 : decode cX0_guessBy 55 = .ok (.iload_n 3, 1) := by decide +kernel
theorem dX0_guessBy_56 : decode cX0_guessBy 56 = .ok (.iadd, 1) := by decide +kernel
theorem dX0_guessBy_57 : decode cX0_guessBy 57 = .ok (.invokestatic 61, 3) := by decide +kernel
theorem dX0_guessBy_60 : decode cX0_guessBy 60 = .ok (.iconst 1, 1) := by decide +kernel
theorem dX0_guessBy_61 : decode cX0_guessBy 61 = .ok (.if_icmp .eq 5, 3) := by decide +kernel
theorem dX0_guessBy_64 : decode cX0_guessBy 64 = .ok (.iconst (-1), 1) := by decide +kernel
theorem dX0_guessBy_65 : decode cX0_guessBy 65 = .ok (.ireturn, 1) := by decide +kernel
theorem dX0_guessBy_66 : decode cX0_guessBy 66 = .ok (.iconst (-1), 1) := by decide +kernel
theorem dX0_guessBy_67 : decode cX0_guessBy 67 = .ok (.istore 5, 2) := by decide +kernel
theorem dX0_guessBy_69 : decode cX0_guessBy 69 = .ok (.lconst 0, 1) := by decide +kernel
theorem dX0_guessBy_70 : decode cX0_guessBy 70 = .ok (.lstore 6, 2) := by decide +kernel
theorem dX0_guessBy_72 : decode cX0_guessBy 72 = .ok (.iload_n 2, 1) := by decide +kernel
theorem dX0_guessBy_73 : decode cX0_guessBy 73 = .ok (.istore 8, 2) := by decide +kernel
theorem dX0_guessBy_75 : decode cX0_guessBy 75 = .ok (.iload 8, 2) := by decide +kernel
theorem dX0_guessBy_77 : decode cX0_guessBy 77 = .ok (.bipush 12, 2) := by decide +kernel
theorem dX0_guessBy_79 : decode cX0_guessBy 79 = .ok (.if_icmp .gt 62, 3) := by decide +kernel
theorem dX0_guessBy_82 : decode cX0_guessBy 82 = .ok (.iload 8, 2) := by decide +kernel
theorem dX0_guessBy_84 : decode cX0_guessBy 84 = .ok (.iload_n 2, 1) := by decide +kernel
theorem dX0_guessBy_85 : decode cX0_guessBy 85 = .ok (.invokestatic 44, 3) := by decide +kernel
theorem dX0_guessBy_88 : decode cX0_guessBy 88 = .ok (.aload_n 0, 1) := by decide +kernel
theorem dX0_guessBy_89 : decode cX0_guessBy 89 = .ok (.getfield 15, 3) := by decide +kernel
theorem dX0_guessBy_92 : decode cX0_guessBy 92 = .ok (.iload_n 3, 1) := by decide +kernel
theorem dX0_guessBy_93 : decode cX0_guessBy 93 = .ok (.iload 8, 2) := by decide +kernel
theorem dX0_guessBy_95 : decode cX0_guessBy 95 = .ok (.iload_n 2, 1) := by decide +kernel
theorem dX0_guessBy_96 : decode cX0_guessBy 96 = .ok (.isub, 1) := by decide +kernel
theorem dX0_guessBy_97 : decode cX0_guessBy 97 = .ok (.invokestatic 30, 3) := by decide +kernel
theorem dX0_guessBy_100 : decode cX0_guessBy 100 = .ok (.laload, 1) := by decide +kernel
theorem dX0_guessBy_101 : decode cX0_guessBy 101 = .ok (.lmul, 1) := by decide +kernel
theorem dX0_guessBy_102 : decode cX0_guessBy 102 = .ok (.iload_n 1, 1) := by decide +kernel
theorem dX0_guessBy_103 : decode cX0_guessBy 103 = .ok (.iload_n 2, 1) := by decide +kernel
theorem dX0_guessBy_104 : decode cX0_guessBy 104 = .ok (.iadd, 1) := by decide +kernel
theorem dX0_guessBy_105 : decode cX0_guessBy 105 = .ok (.iload_n 3, 1) := by decide +kernel
theorem dX0_guessBy_106 : decode cX0_guessBy 106 = .ok (.iadd, 1) := by decide +kernel
theorem dX0_guessBy_107 : decode cX0_guessBy 107 = .ok (.i2l, 1) := by decide +kernel
theorem dX0_guessBy_108 : decode cX0_guessBy 108 = .ok (.bipush 12, 2) := by decide +kernel
theorem dX0_guessBy_110 : decode cX0_guessBy 110 = .ok (.iload 8, 2) := by decide +kernel
theorem dX0_guessBy_112 : decode cX0_guessBy 112 = .ok (.isub, 1) := by decide +kernel
theorem dX0_guessBy_113 : decode cX0_guessBy 113 = .ok (.invokestatic 47, 3) := by decide +kernel
theorem dX0_guessBy_116 : decode cX0_guessBy 116 = .ok (.lmul, 1) := by decide +kernel
theorem dX0_guessBy_117 : decode cX0_guessBy 117 = .ok (.lstore 9, 2) := by decide +kernel
theorem dX0_guessBy_119 : decode cX0_guessBy 119 = .ok (.lload 9, 2) := by decide +kernel
theorem dX0_guessBy_121 : decode cX0_guessBy 121 = .ok (.lload 6, 2) := by decide +kernel
theorem dX0_guessBy_123 : decode cX0_guessBy 123 = .ok (.lcmp, 1) := by decide +kernel
theorem dX0_guessBy_124 : decode cX0_guessBy 124 = .ok (.ifCond .le 11, 3) := by decide +kernel
theorem dX0_guessBy_127 : decode cX0_guessBy 127 = .ok (.lload 9, 2) := by decide +kernel
theorem dX0_guessBy_129 : decode cX0_guessBy 129 = .ok (.lstore 6, 2) := by decide +kernel
theorem dX0_guessBy_131 : decode cX0_guessBy 131 = .ok (.iload 8, 2) := by decide +kernel
theorem dX0_guessBy_133 : decode cX0_guessBy 133 = .ok (.istore 5, 2) := by decide +kernel
theorem dX0_guessBy_135 : decode cX0_guessBy 135 = .ok (.iinc 8 1, 3) := by decide +kernel
theorem dX0_guessBy_138 : decode cX0_guessBy 138 = .ok (.goto (-63), 3) := by decide +kernel
theorem dX0_guessBy_141 : decode cX0_guessBy 141 = .ok (.iload 5, 2) := by decide +kernel
theorem dX0_guessBy_143 : decode cX0_guessBy 143 = .ok (.ireturn, 1) := by decide +kernel
set_option maxRecDepth 20000 in
theorem zl_X0_guessBy_2 : z_All z_tab cX0_guessBy 11 (some .int) RX0 pc_X0_guessBy 80 (k_X0_guessBy.drop 80) := z_cons (ok_goto (tgt := 75) (by decide) rfl dX0_guessBy_138 rfl) <| z_cons (ok_iload dX0_guessBy_141 rfl rfl) <| z_cons (ok_iret rfl dX0_guessBy_143 rfl) <| z_nil
set_option maxRecDepth 20000 in
theorem zl_X0_guessBy_1 : z_All z_tab cX0_guessBy 11 (some .int) RX0 pc_X0_guessBy 40 (k_X0_guessBy.drop 40) := z_cons (ok_lconst (by decide) dX0_guessBy_69 rfl rfl) <| z_cons (ok_lstore (Nat.le_of_ble_eq_true rfl) dX0_guessBy_70 rfl rfl) <| z_cons (ok_iload_n dX0_guessBy_72 rfl rfl) <| z_cons (ok_istore (Nat.le_of_ble_eq_true rfl) dX0_guessBy_73 rfl rfl) <| z_cons (ok_iload dX0_guessBy_75 rfl rfl) <| z_cons (ok_bipush (by decide) dX0_guessBy_77 rfl rfl) <| z_cons (ok_icmp_gt (tgt := 141) (by decide) rfl dX0_guessBy_79 rfl rfl) <| z_cons (ok_iload dX0_guessBy_82 rfl rfl) <| z_cons (ok_iload_n dX0_guessBy_84 rfl rfl) <| z_cons (ok_callS (k := 3) (n := 2) qw_11 qw_1 ⟨by decide +kernel, by decide +kernel, by decide +kernel⟩ (Nat.le_of_ble_eq_true rfl) qw_13 qw_12 dX0_guessBy_85 rfl rfl) <| z_cons (ok_aload_n dX0_guessBy_88 rfl rfl) <| z_cons (ok_getr (k := 1) ⟨by decide, by decide, by decide⟩ (ci := 0) (T := TX0) rfl rfl (Nat.le_of_ble_eq_true rfl) iw_X0 qw_29 gr_1_1 (fun _ _ => by simp) (fun w i => List.mem_of_getElem? (i := 1) rfl) dX0_guessBy_89 rfl rfl) <| z_cons (ok_iload_n dX0_guessBy_92 rfl rfl) <| z_cons (ok_iload dX0_guessBy_93 rfl rfl) <| z_cons (ok_iload_n dX0_guessBy_95 rfl rfl) <| z_cons (ok_isub dX0_guessBy_96 rfl rfl) <| z_cons (ok_callS (k := 0) (n := 2) qw_0 qw_1 ⟨by decide +kernel, by decide +kernel, by decide +kernel⟩ (Nat.le_of_ble_eq_true rfl) qw_3 qw_2 dX0_guessBy_97 rfl rfl) <| z_cons (ok_lald dX0_guessBy_100 rfl rfl) <| z_cons (ok_lmul dX0_guessBy_101 rfl rfl) <| z_cons (ok_iload_n dX0_guessBy_102 rfl rfl) <| z_cons (ok_iload_n dX0_guessBy_103 rfl rfl) <| z_cons (ok_iadd dX0_guessBy_104 rfl rfl) <| z_cons (ok_iload_n dX0_guessBy_105 rfl rfl) <| z_cons (ok_iadd dX0_guessBy_106 rfl rfl) <| z_cons (ok_i2l dX0_guessBy_107 rfl rfl) <| z_cons (ok_bipush (by decide) dX0_guessBy_108 rfl rfl) <| z_cons (ok_iload dX0_guessBy_110 rfl rfl) <| z_cons (ok_isub dX0_guessBy_112 rfl rfl) <| z_cons (ok_callS (k := 4) (n := 2) qw_15 qw_1 ⟨by decide +kernel, by decide +kernel, by decide +kernel⟩ (Nat.le_of_ble_eq_true rfl) qw_17 qw_16 dX0_guessBy_113 rfl rfl) <| z_cons (ok_lmul dX0_guessBy_116 rfl rfl) <| z_cons (ok_lstore (Nat.le_of_ble_eq_true rfl) dX0_guessBy_117 rfl rfl) <| z_cons (ok_lload dX0_guessBy_119 rfl rfl) <| z_cons (ok_lload dX0_guessBy_121 rfl rfl) <| z_cons (ok_lcmp dX0_guessBy_123 rfl rfl) <| z_cons (ok_if_le (tgt := 135) (by decide) rfl dX0_guessBy_124 rfl rfl) <| z_cons (ok_lload dX0_guessBy_127 rfl rfl) <| z_cons (ok_lstore (Nat.le_of_ble_eq_true rfl) dX0_guessBy_129 rfl rfl) <| z_cons (ok_iload dX0_guessBy_131 rfl rfl) <| z_cons (ok_istore (Nat.le_of_ble_eq_true rfl) dX0_guessBy_133 rfl rfl) <| z_cons (ok_iinc (by decide) (Nat.le_of_ble_eq_true rfl) dX0_guessBy_135 rfl rfl) <| zl_X0_guessBy_2
set_option maxRecDepth 20000 in
theorem zl_X0_guessBy_0 : z_All z_tab cX0_guessBy 11 (some .int) RX0 pc_X0_guessBy 0 (k_X0_guessBy.drop 0) := z_cons (ok_iload_n dX0_guessBy_0 rfl rfl) <| z_cons (ok_if_lt (tgt := 34) (by decide) rfl dX0_guessBy_1 rfl rfl) <| z_cons (ok_iload_n dX0_guessBy_4 rfl rfl) <| z_cons (ok_bipush (by decide) dX0_guessBy_5 rfl rfl) <| z_cons (ok_icmp_gt (tgt := 34) (by decide) rfl dX0_guessBy_7 rfl rfl) <| z_cons (ok_iload_n dX0_guessBy_10 rfl rfl) <| z_cons (ok_if_lt (tgt := 34) (by decide) rfl dX0_guessBy_11 rfl rfl) <| z_cons (ok_iload_n dX0_guessBy_14 rfl rfl) <| z_cons (ok_bipush (by decide) dX0_guessBy_15 rfl rfl) <| z_cons (ok_icmp_gt (tgt := 34) (by decide) rfl dX0_guessBy_17 rfl rfl) <| z_cons (ok_iload_n dX0_guessBy_20 rfl rfl) <| z_cons (ok_if_lt (tgt := 34) (by decide) rfl dX0_guessBy_21 rfl rfl) <| z_cons (ok_iload_n dX0_guessBy_24 rfl rfl) <| z_cons (ok_bipush (by decide) dX0_guessBy_25 rfl rfl) <| z_cons (ok_icmp_gt (tgt := 34) (by decide) rfl dX0_guessBy_27 rfl rfl) <| z_cons (ok_iconst (by decide) dX0_guessBy_30 rfl rfl) <| z_cons (ok_goto (tgt := 35) (by decide) rfl dX0_guessBy_31 rfl) <| z_cons (ok_iconst (by decide) dX0_guessBy_34 rfl rfl) <| z_cons (ok_istore (Nat.le_of_ble_eq_true rfl) dX0_guessBy_35 rfl rfl) <| z_cons (ok_iload dX0_guessBy_37 rfl rfl) <| z_cons (ok_if_eq (tgt := 64) (by decide) rfl dX0_guessBy_39 rfl rfl) <| z_cons (ok_iload_n dX0_guessBy_42 rfl rfl) <| z_cons (ok_iload_n dX0_guessBy_43 rfl rfl) <| z_cons (ok_iadd dX0_guessBy_44 rfl rfl) <| z_cons (ok_iload_n dX0_guessBy_45 rfl rfl) <| z_cons (ok_iadd dX0_guessBy_46 rfl rfl) <| z_cons (ok_bipush (by decide) dX0_guessBy_47 rfl rfl) <| z_cons (ok_icmp_gt (tgt := 64) (by decide) rfl dX0_guessBy_49 rfl rfl) <| z_cons (ok_iload_n dX0_guessBy_52 rfl rfl) <| z_cons (ok_iload_n dX0_guessBy_53 rfl rfl) <| z_cons (ok_iadd dX0_guessBy_54 rfl rfl) <| z_cons (ok_iload_n dX0_guessBy_55 rfl rfl) <| z_cons (ok_iadd dX0_guessBy_56 rfl rfl) <| z_cons (ok_callS (k := 274) (n := 1) qw_25 qw_26 ⟨by decide +kernel, by decide +kernel, by decide +kernel⟩ (Nat.le_of_ble_eq_true rfl) qw_28 qw_27 dX0_guessBy_57 rfl rfl) <| z_cons (ok_iconst (by decide) dX0_guessBy_60 rfl rfl) <| z_cons (ok_icmp_eq (tgt := 66) (by decide) rfl dX0_guessBy_61 rfl rfl) <| z_cons (ok_iconst (by decide) dX0_guessBy_64 rfl rfl) <| z_cons (ok_iret rfl dX0_guessBy_65 rfl) <| z_cons (ok_iconst (by decide) dX0_guessBy_66 rfl rfl) <| z_cons (ok_istore (Nat.le_of_ble_eq_true rfl) dX0_guessBy_67 rfl rfl) <| zl_X0_guessBy_1
theorem dX1_add_0 : decode cX1_add 0 = .ok (.aload_n 0, 1) := by decide +kernel
theorem dX1_add_1 : decode cX1_add 1 = .ok (.getfield 15, 3) := by decide +kernel
theorem dX1_add_4 : decode cX1_add 4 = .ok (.bipush 60, 2) := by decide +kernel
theorem dX1_add_6 : decode cX1_add 6 = .ok (.invokestatic 19, 3) := by decide +kernel
theorem dX1_add_9 : decode cX1_add 9 = .ok (.iconst 4, 1) := by decide +kernel
theorem dX1_add_10 : decode cX1_add 10 = .ok (.imul, 1) := by decide +kernel
theorem dX1_add_11 : decode cX1_add 11 = .ok (.istore 5, 2) := by decide +kernel
theorem dX1_add_13 : decode cX1_add 13 = .ok (.aload_n 0, 1) := by decide +kernel
theorem dX1_add_14 : decode cX1_add 14 = .ok (.getfield 11, 3) := by decide +kernel
theorem dX1_add_17 : decode cX1_add 17 = .ok (.iload 5, 2) := by decide +kernel
theorem dX1_add_19 : decode cX1_add 19 = .ok (.iload_n 1, 1) := by decide +kernel
theorem dX1_add_20 : decode cX1_add 20 = .ok (.iastore, 1) := by decide +kernel
theorem dX1_add_21 : decode cX1_add 21 = .ok (.aload_n 0, 1) := by decide +kernel
theorem dX1_add_22 : decode cX1_add 22 = .ok (.getfield 11, 3) := by decide +kernel
theorem dX1_add_25 : decode cX1_add 25 = .ok (.iload 5, 2) := by decide +kernel
theorem dX1_add_27 : decode cX1_add 27 = .ok (.iconst 1, 1) := by decide +kernel
theorem dX1_add_28 : decode cX1_add 28 = .ok (.iadd, 1) := by decide +kernel
theorem dX1_add_29 : decode cX1_add 29 = .ok (.iload_n 2, 1) := by decide +kernel
theorem dX1_add_30 : decode cX1_add 30 = .ok (.iastore, 1) := by decide +kernel
theorem dX1_add_31 : decode cX1_add 31 = .ok (.aload_n 0, 1) := by decide +kernel
theorem dX1_add_32 : decode cX1_add 32 = .ok (.getfield 11, 3) := by decide +kernel
theorem dX1_add_35 : decode cX1_add 35 = .ok (.iload 5, 2) := by decide +kernel
theorem dX1_add_37 : decode cX1_add 37 = .ok (.iconst 2, 1) := by decide +kernel
theorem dX1_add_38 : decode cX1_add 38 = .ok (.iadd, 1) := by decide +kernel
theorem dX1_add_39 : decode cX1_add 39 = .ok (.iload_n 3, 1) := by decide +kernel
theorem dX1_add_40 : decode cX1_add 40 = .ok (.iastore, 1) := by decide +kernel
theorem dX1_add_41 : decode cX1_add 41 = .ok (.aload_n 0, 1) := by decide +kernel
theorem dX1_add_42 : decode cX1_add 42 = .ok (.getfield 11, 3) := by decide +kernel
theorem dX1_add_45 : decode cX1_add 45 = .ok (.iload 5, 2) := by decide +kernel
theorem dX1_add_47 : decode cX1_add 47 = .ok (.iconst 3, 1) := by decide +kernel
theorem dX1_add_48 : decode cX1_add 48 = .ok (.iadd, 1) := by decide +kernel
theorem dX1_add_49 : decode cX1_add 49 = .ok (.iload 4, 2) := by decide +kernel
theorem dX1_add_51 : decode cX1_add 51 = .ok (.iastore, 1) := by decide +kernel
theorem dX1_add_52 : decode cX1_add 52 = .ok (.aload_n 0, 1) := by decide +kernel
theorem dX1_add_53 : decode cX1_add 53 = .ok (.dup, 1) := by decide +kernel
theorem dX1_add_54 : decode cX1_add 54 = .ok (.getfield 15, 3) := by decide +kernel
theorem dX1_add_57 : decode cX1_add 57 = .ok (.iconst 1, 1) := by decide +kernel
theorem dX1_add_58 : decode cX1_add 58 = .ok (.iadd, 1) := by decide +kernel
theorem dX1_add_59 : decode cX1_add 59 = .ok (.putfield 15, 3) := by decide +kernel
theorem dX1_add_62 : decode cX1_add 62 = .ok (.return_, 1) := by decide +kernel
set_option maxRecDepth 20000 in
theorem zl_X1_add_0 : z_All z_tab cX1_add 6 none RX1 pc_X1_add 0 (k_X1_add.drop 0) := z_cons (ok_aload_n dX1_add_0 rfl rfl) <| z_cons (ok_get ⟨by decide, by decide, by decide⟩ (ci := 1) (T := TX1) rfl rfl (Nat.le_of_ble_eq_true rfl) iw_X1 qw_30 gv_2_1 dX1_add_1 rfl rfl) <| z_cons (ok_bipush (by decide) dX1_add_4 rfl rfl) <| z_cons (ok_callS (k := 275) (n := 2) qw_31 qw_32 ⟨by decide +kernel, by decide +kernel, by decide +kernel⟩ (Nat.le_of_ble_eq_true rfl) qw_34 qw_33 dX1_add_6 rfl rfl) <| z_cons (ok_iconst (by decide) dX1_add_9 rfl rfl) <| z_cons (ok_imul dX1_add_10 rfl rfl) <| z_cons (ok_istore (Nat.le_of_ble_eq_true rfl) dX1_add_11 rfl rfl) <| z_cons (ok_aload_n dX1_add_13 rfl rfl) <| z_cons (ok_getr (k := 0) ⟨by decide, by decide, by decide⟩ (ci := 1) (T := TX1) rfl rfl (Nat.le_of_ble_eq_true rfl) iw_X1 qw_35 gr_2_0 (fun _ _ => by simp) (fun w i => List.mem_of_getElem? (i := 0) rfl) dX1_add_14 rfl rfl) <| z_cons (ok_iload dX1_add_17 rfl rfl) <| z_cons (ok_iload_n dX1_add_19 rfl rfl) <| z_cons (ok_iast dX1_add_20 rfl rfl) <| z_cons (ok_aload_n dX1_add_21 rfl rfl) <| z_cons (ok_getr (k := 0) ⟨by decide, by decide, by decide⟩ (ci := 1) (T := TX1) rfl rfl (Nat.le_of_ble_eq_true rfl) iw_X1 qw_35 gr_2_0 (fun _ _ => by simp) (fun w i => List.mem_of_getElem? (i := 0) rfl) dX1_add_22 rfl rfl) <| z_cons (ok_iload dX1_add_25 rfl rfl) <| z_cons (ok_iconst (by decide) dX1_add_27 rfl rfl) <| z_cons (ok_iadd dX1_add_28 rfl rfl) <| z_cons (ok_iload_n dX1_add_29 rfl rfl) <| z_cons (ok_iast dX1_add_30 rfl rfl) <| z_cons (ok_aload_n dX1_add_31 rfl rfl) <| z_cons (ok_getr (k := 0) ⟨by decide, by decide, by decide⟩ (ci := 1) (T := TX1) rfl rfl (Nat.le_of_ble_eq_true rfl) iw_X1 qw_35 gr_2_0 (fun _ _ => by simp) (fun w i => List.mem_of_getElem? (i := 0) rfl) dX1_add_32 rfl rfl) <| z_cons (ok_iload dX1_add_35 rfl rfl) <| z_cons (ok_iconst (by decide) dX1_add_37 rfl rfl) <| z_cons (ok_iadd dX1_add_38 rfl rfl) <| z_cons (ok_iload_n dX1_add_39 rfl rfl) <| z_cons (ok_iast dX1_add_40 rfl rfl) <| z_cons (ok_aload_n dX1_add_41 rfl rfl) <| z_cons (ok_getr (k := 0) ⟨by decide, by decide, by decide⟩ (ci := 1) (T := TX1) rfl rfl (Nat.le_of_ble_eq_true rfl) iw_X1 qw_35 gr_2_0 (fun _ _ => by simp) (fun w i => List.mem_of_getElem? (i := 0) rfl) dX1_add_42 rfl rfl) <| z_cons (ok_iload dX1_add_45 rfl rfl) <| z_cons (ok_iconst (by decide) dX1_add_47 rfl rfl) <| z_cons (ok_iadd dX1_add_48 rfl rfl) <| z_cons (ok_iload dX1_add_49 rfl rfl) <| z_cons (ok_iast dX1_add_51 rfl rfl) <| z_cons (ok_aload_n dX1_add_52 rfl rfl) <| z_cons (ok_dup dX1_add_53 rfl rfl) <| z_cons (ok_get ⟨by decide, by decide, by decide⟩ (ci := 1) (T := TX1) rfl rfl (Nat.le_of_ble_eq_true rfl) iw_X1 qw_30 gv_2_1 dX1_add_54 rfl rfl) <| z_cons (ok_iconst (by decide) dX1_add_57 rfl rfl) <| z_cons (ok_iadd dX1_add_58 rfl rfl) <| z_cons (ok_put ⟨by decide, by decide, by decide⟩ (ci := 1) (T := TX1) rfl rfl (Nat.le_of_ble_eq_true rfl) iw_X1 qw_30 tyX1_ok nmX1 rfl pv_2_1 rfl dX1_add_59 rfl rfl) <| z_cons (ok_ret rfl dX1_add_62 rfl) <| z_nil
theorem dX1_tells_0 : decode cX1_tells 0 = .ok (.iload_n 1, 1) := by decide +kernel
theorem dX1_tells_1 : decode cX1_tells 1 = .ok (.ifCond .lt 26, 3) := by decide +kernel
theorem dX1_tells_4 : decode cX1_tells 4 = .ok (.iload_n 1, 1) := by decide +kernel
theorem dX1_tells_5 : decode cX1_tells 5 = .ok (.bipush 60, 2) := by decide +kernel
theorem dX1_tells_7 : decode cX1_tells 7 = .ok (.if_icmp .ge 20, 3) := by decide +kernel
theorem dX1_tells_10 : decode cX1_tells 10 = .ok (.iload_n 1, 1) := by decide +kernel
theorem dX1_tells_11 : decode cX1_tells 11 = .ok (.aload_n 0, 1) := by decide +kernel
theorem dX1_tells_12 : decode cX1_tells 12 = .ok (.getfield 15, 3) := by decide +kernel
theorem dX1_tells_15 : decode cX1_tells 15 = .ok (.if_icmp .ge 12, 3) := by decide +kernel
theorem dX1_tells_18 : decode cX1_tells 18 = .ok (.iload_n 2, 1) := by decide +kernel
theorem dX1_tells_19 : decode cX1_tells 19 = .ok (.ifCond .lt 8, 3) := by decide +kernel
theorem dX1_tells_22 : decode cX1_tells 22 = .ok (.iload_n 2, 1) := by decide +kernel
theorem dX1_tells_23 : decode cX1_tells 23 = .ok (.iconst 4, 1) := by decide +kernel
theorem dX1_tells_24 : decode cX1_tells 24 = .ok (.if_icmp .lt 5, 3) := by decide +kernel
theorem dX1_tells_27 : decode cX1_tells 27 = .ok (.iconst (-1), 1) := by decide +kernel
theorem dX1_tells_28 : decode cX1_tells 28 = .ok (.ireturn, 1) := by decide +kernel
theorem dX1_tells_29 : decode cX1_tells 29 = .ok (.aload_n 0, 1) := by decide +kernel
theorem dX1_tells_30 : decode cX1_tells 30 = .ok (.getfield 11, 3) := by decide +kernel
theorem dX1_tells_33 : decode cX1_tells 33 = .ok (.aload_n 0, 1) := by decide +kernel
theorem dX1_tells_34 : decode cX1_tells 34 = .ok (.getfield 15, 3) := by decide +kernel
theorem dX1_tells_37 : decode cX1_tells 37 = .ok (.iconst 1, 1) := by decide +kernel
theorem dX1_tells_38 : decode cX1_tells 38 = .ok (.isub, 1) := by decide +kernel
theorem dX1_tells_39 : decode cX1_tells 39 = .ok (.iload_n 1, 1) := by decide +kernel
theorem dX1_tells_40 : decode cX1_tells 40 = .ok (.isub, 1) := by decide +kernel
theorem dX1_tells_41 : decode cX1_tells 41 = .ok (.bipush 60, 2) := by decide +kernel
theorem dX1_tells_43 : decode cX1_tells 43 = .ok (.invokestatic 19, 3) := by decide +kernel
theorem dX1_tells_46 : decode cX1_tells 46 = .ok (.iconst 4, 1) := by decide +kernel
theorem dX1_tells_47 : decode cX1_tells 47 = .ok (.imul, 1) := by decide +kernel
theorem dX1_tells_48 : decode cX1_tells 48 = .ok (.iload_n 2, 1) := by decide +kernel
theorem dX1_tells_49 : decode cX1_tells 49 = .ok (.iadd, 1) := by decide +kernel
theorem dX1_tells_50 : decode cX1_tells 50 = .ok (.iaload, 1) := by decide +kernel
theorem dX1_tells_51 : decode cX1_tells 51 = .ok (.ireturn, 1) := by decide +kernel
set_option maxRecDepth 20000 in
theorem zl_X1_tells_0 : z_All z_tab cX1_tells 3 (some .int) RX1 pc_X1_tells 0 (k_X1_tells.drop 0) := z_cons (ok_iload_n dX1_tells_0 rfl rfl) <| z_cons (ok_if_lt (tgt := 27) (by decide) rfl dX1_tells_1 rfl rfl) <| z_cons (ok_iload_n dX1_tells_4 rfl rfl) <| z_cons (ok_bipush (by decide) dX1_tells_5 rfl rfl) <| z_cons (ok_icmp_ge (tgt := 27) (by decide) rfl dX1_tells_7 rfl rfl) <| z_cons (ok_iload_n dX1_tells_10 rfl rfl) <| z_cons (ok_aload_n dX1_tells_11 rfl rfl) <| z_cons (ok_get ⟨by decide, by decide, by decide⟩ (ci := 1) (T := TX1) rfl rfl (Nat.le_of_ble_eq_true rfl) iw_X1 qw_30 gv_2_1 dX1_tells_12 rfl rfl) <| z_cons (ok_icmp_ge (tgt := 27) (by decide) rfl dX1_tells_15 rfl rfl) <| z_cons (ok_iload_n dX1_tells_18 rfl rfl) <| z_cons (ok_if_lt (tgt := 27) (by decide) rfl dX1_tells_19 rfl rfl) <| z_cons (ok_iload_n dX1_tells_22 rfl rfl) <| z_cons (ok_iconst (by decide) dX1_tells_23 rfl rfl) <| z_cons (ok_icmp_lt (tgt := 29) (by decide) rfl dX1_tells_24 rfl rfl) <| z_cons (ok_iconst (by decide) dX1_tells_27 rfl rfl) <| z_cons (ok_iret rfl dX1_tells_28 rfl) <| z_cons (ok_aload_n dX1_tells_29 rfl rfl) <| z_cons (ok_getr (k := 0) ⟨by decide, by decide, by decide⟩ (ci := 1) (T := TX1) rfl rfl (Nat.le_of_ble_eq_true rfl) iw_X1 qw_35 gr_2_0 (fun _ _ => by simp) (fun w i => List.mem_of_getElem? (i := 0) rfl) dX1_tells_30 rfl rfl) <| z_cons (ok_aload_n dX1_tells_33 rfl rfl) <| z_cons (ok_get ⟨by decide, by decide, by decide⟩ (ci := 1) (T := TX1) rfl rfl (Nat.le_of_ble_eq_true rfl) iw_X1 qw_30 gv_2_1 dX1_tells_34 rfl rfl) <| z_cons (ok_iconst (by decide) dX1_tells_37 rfl rfl) <| z_cons (ok_isub dX1_tells_38 rfl rfl) <| z_cons (ok_iload_n dX1_tells_39 rfl rfl) <| z_cons (ok_isub dX1_tells_40 rfl rfl) <| z_cons (ok_bipush (by decide) dX1_tells_41 rfl rfl) <| z_cons (ok_callS (k := 275) (n := 2) qw_31 qw_32 ⟨by decide +kernel, by decide +kernel, by decide +kernel⟩ (Nat.le_of_ble_eq_true rfl) qw_34 qw_33 dX1_tells_43 rfl rfl) <| z_cons (ok_iconst (by decide) dX1_tells_46 rfl rfl) <| z_cons (ok_imul dX1_tells_47 rfl rfl) <| z_cons (ok_iload_n dX1_tells_48 rfl rfl) <| z_cons (ok_iadd dX1_tells_49 rfl rfl) <| z_cons (ok_iald dX1_tells_50 rfl rfl) <| z_cons (ok_iret rfl dX1_tells_51 rfl) <| z_nil
theorem dX1_copyFrom_0 : decode cX1_copyFrom 0 = .ok (.aload_n 0, 1) := by decide +kernel
theorem dX1_copyFrom_1 : decode cX1_copyFrom 1 = .ok (.aload_n 1, 1) := by decide +kernel
theorem dX1_copyFrom_2 : decode cX1_copyFrom 2 = .ok (.getfield 15, 3) := by decide +kernel
theorem dX1_copyFrom_5 : decode cX1_copyFrom 5 = .ok (.putfield 15, 3) := by decide +kernel
theorem dX1_copyFrom_8 : decode cX1_copyFrom 8 = .ok (.aload_n 1, 1) := by decide +kernel
theorem dX1_copyFrom_9 : decode cX1_copyFrom 9 = .ok (.getfield 11, 3) := by decide +kernel
theorem dX1_copyFrom_12 : decode cX1_copyFrom 12 = .ok (.iconst 0, 1) := by decide +kernel
theorem dX1_copyFrom_13 : decode cX1_copyFrom 13 = .ok (.aload_n 0, 1) := by decide +kernel
theorem dX1_copyFrom_14 : decode cX1_copyFrom 14 = .ok (.getfield 11, 3) := by decide +kernel
theorem dX1_copyFrom_17 : decode cX1_copyFrom 17 = .ok (.iconst 0, 1) := by decide +kernel
theorem dX1_copyFrom_18 : decode cX1_copyFrom 18 = .ok (.sipush 240, 3) := by decide +kernel
theorem dX1_copyFrom_21 : decode cX1_copyFrom 21 = .ok (.invokestatic 25, 3) := by decide +kernel
theorem dX1_copyFrom_24 : decode cX1_copyFrom 24 = .ok (.return_, 1) := by decide +kernel
set_option maxRecDepth 20000 in
theorem zl_X1_copyFrom_0 : z_All z_tab cX1_copyFrom 2 none RX1 pc_X1_copyFrom 0 (k_X1_copyFrom.drop 0) := z_cons (ok_aload_n dX1_copyFrom_0 rfl rfl) <| z_cons (ok_aload_n dX1_copyFrom_1 rfl rfl) <| z_cons (ok_get ⟨by decide, by decide, by decide⟩ (ci := 1) (T := TX1) rfl rfl (Nat.le_of_ble_eq_true rfl) iw_X1 qw_30 gv_2_1 dX1_copyFrom_2 rfl rfl) <| z_cons (ok_put ⟨by decide, by decide, by decide⟩ (ci := 1) (T := TX1) rfl rfl (Nat.le_of_ble_eq_true rfl) iw_X1 qw_30 tyX1_ok nmX1 rfl pv_2_1 rfl dX1_copyFrom_5 rfl rfl) <| z_cons (ok_aload_n dX1_copyFrom_8 rfl rfl) <| z_cons (ok_getr (k := 0) ⟨by decide, by decide, by decide⟩ (ci := 1) (T := TX1) rfl rfl (Nat.le_of_ble_eq_true rfl) iw_X1 qw_35 gr_2_0 (fun _ _ => by simp) (fun w i => List.mem_of_getElem? (i := 0) rfl) dX1_copyFrom_9 rfl rfl) <| z_cons (ok_iconst (by decide) dX1_copyFrom_12 rfl rfl) <| z_cons (ok_aload_n dX1_copyFrom_13 rfl rfl) <| z_cons (ok_getr (k := 0) ⟨by decide, by decide, by decide⟩ (ci := 1) (T := TX1) rfl rfl (Nat.le_of_ble_eq_true rfl) iw_X1 qw_35 gr_2_0 (fun _ _ => by simp) (fun w i => List.mem_of_getElem? (i := 0) rfl) dX1_copyFrom_14 rfl rfl) <| z_cons (ok_iconst (by decide) dX1_copyFrom_17 rfl rfl) <| z_cons (ok_sipush (by decide) dX1_copyFrom_18 rfl rfl) <| z_cons (ok_copy rfl (by decide) (by decide) qw_36 qw_37 qw_38 qw_39 dX1_copyFrom_21 rfl rfl) <| z_cons (ok_ret rfl dX1_copyFrom_24 rfl) <| z_nil
theorem dX2_lengthOf_0 : decode cX2_lengthOf 0 = .ok (.iload_n 0, 1) := by decide +kernel
theorem dX2_lengthOf_1 : decode cX2_lengthOf 1 = .ok (.bipush 16, 2) := by decide +kernel
theorem dX2_lengthOf_3 : decode cX2_lengthOf 3 = .ok (.ishr, 1) := by decide +kernel
theorem dX2_lengthOf_4 : decode cX2_lengthOf 4 = .ok (.bipush 31, 2) := by decide +kernel
theorem dX2_lengthOf_6 : decode cX2_lengthOf 6 = .ok (.iand, 1) := by decide +kernel
theorem dX2_lengthOf_7 : decode cX2_lengthOf 7 = .ok (.ireturn, 1) := by decide +kernel
set_option maxRecDepth 20000 in
theorem zl_X2_lengthOf_0 : z_All z_tab cX2_lengthOf 1 (some .int) RX2 pc_X2_lengthOf 0 (k_X2_lengthOf.drop 0) := z_cons (ok_iload_n dX2_lengthOf_0 rfl rfl) <| z_cons (ok_bipush (by decide) dX2_lengthOf_1 rfl rfl) <| z_cons (ok_ishr dX2_lengthOf_3 rfl rfl) <| z_cons (ok_bipush (by decide) dX2_lengthOf_4 rfl rfl) <| z_cons (ok_iand dX2_lengthOf_6 rfl rfl) <| z_cons (ok_iret rfl dX2_lengthOf_7 rfl) <| z_nil
theorem dX2_bitsOf_0 : decode cX2_bitsOf 0 = .ok (.iload_n 0, 1) := by decide +kernel
theorem dX2_bitsOf_1 : decode cX2_bitsOf 1 = .ok (.ldc 15, 2) := by decide +kernel
theorem dX2_bitsOf_3 : decode cX2_bitsOf 3 = .ok (.iand, 1) := by decide +kernel
theorem dX2_bitsOf_4 : decode cX2_bitsOf 4 = .ok (.ireturn, 1) := by decide +kernel
set_option maxRecDepth 20000 in
theorem zl_X2_bitsOf_0 : z_All z_tab cX2_bitsOf 1 (some .int) RX2 pc_X2_bitsOf 0 (k_X2_bitsOf.drop 0) := z_cons (ok_iload_n dX2_bitsOf_0 rfl rfl) <| z_cons (ok_ldc qw_40 dX2_bitsOf_1 rfl rfl) <| z_cons (ok_iand dX2_bitsOf_3 rfl rfl) <| z_cons (ok_iret rfl dX2_bitsOf_4 rfl) <| z_nil
theorem dX2_longer_0 : decode cX2_longer 0 = .ok (.iload_n 0, 1) := by decide +kernel
theorem dX2_longer_1 : decode cX2_longer 1 = .ok (.invokestatic 16, 3) := by decide +kernel
theorem dX2_longer_4 : decode cX2_longer 4 = .ok (.iconst 1, 1) := by decide +kernel
theorem dX2_longer_5 : decode cX2_longer 5 = .ok (.iadd, 1) := by decide +kernel
theorem dX2_longer_6 : decode cX2_longer 6 = .ok (.bipush 16, 2) := by decide +kernel
theorem dX2_longer_8 : decode cX2_longer 8 = .ok (.ishl, 1) := by decide +kernel
theorem dX2_longer_9 : decode cX2_longer 9 = .ok (.iload_n 0, 1) := by decide +kernel
theorem dX2_longer_10 : decode cX2_longer 10 = .ok (.invokestatic 20, 3) := by decide +kernel
theorem dX2_longer_13 : decode cX2_longer 13 = .ok (.iconst 1, 1) := by decide +kernel
theorem dX2_longer_14 : decode cX2_longer 14 = .ok (.ishl, 1) := by decide +kernel
theorem dX2_longer_15 : decode cX2_longer 15 = .ok (.ldc 15, 2) := by decide +kernel
theorem dX2_longer_17 : decode cX2_longer 17 = .ok (.iand, 1) := by decide +kernel
theorem dX2_longer_18 : decode cX2_longer 18 = .ok (.ior, 1) := by decide +kernel
theorem dX2_longer_19 : decode cX2_longer 19 = .ok (.iload_n 1, 1) := by decide +kernel
theorem dX2_longer_20 : decode cX2_longer 20 = .ok (.ior, 1) := by decide +kernel
theorem dX2_longer_21 : decode cX2_longer 21 = .ok (.ireturn, 1) := by decide +kernel
set_option maxRecDepth 20000 in
theorem zl_X2_longer_0 : z_All z_tab cX2_longer 2 (some .int) RX2 pc_X2_longer 0 (k_X2_longer.drop 0) := z_cons (ok_iload_n dX2_longer_0 rfl rfl) <| z_cons (ok_callS (k := 15) (n := 1) qw_41 qw_42 ⟨by decide +kernel, by decide +kernel, by decide +kernel⟩ (Nat.le_of_ble_eq_true rfl) qw_44 qw_43 dX2_longer_1 rfl rfl) <| z_cons (ok_iconst (by decide) dX2_longer_4 rfl rfl) <| z_cons (ok_iadd dX2_longer_5 rfl rfl) <| z_cons (ok_bipush (by decide) dX2_longer_6 rfl rfl) <| z_cons (ok_ishl dX2_longer_8 rfl rfl) <| z_cons (ok_iload_n dX2_longer_9 rfl rfl) <| z_cons (ok_callS (k := 16) (n := 1) qw_45 qw_42 ⟨by decide +kernel, by decide +kernel, by decide +kernel⟩ (Nat.le_of_ble_eq_true rfl) qw_47 qw_46 dX2_longer_10 rfl rfl) <| z_cons (ok_iconst (by decide) dX2_longer_13 rfl rfl) <| z_cons (ok_ishl dX2_longer_14 rfl rfl) <| z_cons (ok_ldc qw_40 dX2_longer_15 rfl rfl) <| z_cons (ok_iand dX2_longer_17 rfl rfl) <| z_cons (ok_ior dX2_longer_18 rfl rfl) <| z_cons (ok_iload_n dX2_longer_19 rfl rfl) <| z_cons (ok_ior dX2_longer_20 rfl rfl) <| z_cons (ok_iret rfl dX2_longer_21 rfl) <| z_nil
theorem dX2_begins_0 : decode cX2_begins 0 = .ok (.iload_n 1, 1) := by decide +kernel
theorem dX2_begins_1 : decode cX2_begins 1 = .ok (.bipush 16, 2) := by decide +kernel
theorem dX2_begins_3 : decode cX2_begins 3 = .ok (.iload_n 0, 1) := by decide +kernel
theorem dX2_begins_4 : decode cX2_begins 4 = .ok (.invokestatic 16, 3) := by decide +kernel
theorem dX2_begins_7 : decode cX2_begins 7 = .ok (.isub, 1) := by decide +kernel
theorem dX2_begins_8 : decode cX2_begins 8 = .ok (.ishr, 1) := by decide +kernel
theorem dX2_begins_9 : decode cX2_begins 9 = .ok (.iload_n 0, 1) := by decide +kernel
theorem dX2_begins_10 : decode cX2_begins 10 = .ok (.invokestatic 20, 3) := by decide +kernel
theorem dX2_begins_13 : decode cX2_begins 13 = .ok (.if_icmp .ne 7, 3) := by decide +kernel
theorem dX2_begins_16 : decode cX2_begins 16 = .ok (.iconst 1, 1) := by decide +kernel
theorem dX2_begins_17 : decode cX2_begins 17 = .ok (.goto 4, 3) := by decide +kernel
theorem dX2_begins_20 : decode cX2_begins 20 = .ok (.iconst 0, 1) := by decide +kernel
theorem dX2_begins_21 : decode cX2_begins 21 = .ok (.ireturn, 1) := by decide +kernel
set_option maxRecDepth 20000 in
theorem zl_X2_begins_0 : z_All z_tab cX2_begins 2 (some .boolean) RX2 pc_X2_begins 0 (k_X2_begins.drop 0) := z_cons (ok_iload_n dX2_begins_0 rfl rfl) <| z_cons (ok_bipush (by decide) dX2_begins_1 rfl rfl) <| z_cons (ok_iload_n dX2_begins_3 rfl rfl) <| z_cons (ok_callS (k := 15) (n := 1) qw_41 qw_42 ⟨by decide +kernel, by decide +kernel, by decide +kernel⟩ (Nat.le_of_ble_eq_true rfl) qw_44 qw_43 dX2_begins_4 rfl rfl) <| z_cons (ok_isub dX2_begins_7 rfl rfl) <| z_cons (ok_ishr dX2_begins_8 rfl rfl) <| z_cons (ok_iload_n dX2_begins_9 rfl rfl) <| z_cons (ok_callS (k := 16) (n := 1) qw_45 qw_42 ⟨by decide +kernel, by decide +kernel, by decide +kernel⟩ (Nat.le_of_ble_eq_true rfl) qw_47 qw_46 dX2_begins_10 rfl rfl) <| z_cons (ok_icmp_ne (tgt := 20) (by decide) rfl dX2_begins_13 rfl rfl) <| z_cons (ok_iconst (by decide) dX2_begins_16 rfl rfl) <| z_cons (ok_goto (tgt := 21) (by decide) rfl dX2_begins_17 rfl) <| z_cons (ok_iconst (by decide) dX2_begins_20 rfl rfl) <| z_cons (ok_zret rfl dX2_begins_21 rfl) <| z_nil
theorem dX2_clear_0 : decode cX2_clear 0 = .ok (.aload_n 0, 1) := by decide +kernel
theorem dX2_clear_1 : decode cX2_clear 1 = .ok (.iconst 0, 1) := by decide +kernel
theorem dX2_clear_2 : decode cX2_clear 2 = .ok (.putfield 23, 3) := by decide +kernel
theorem dX2_clear_5 : decode cX2_clear 5 = .ok (.return_, 1) := by decide +kernel
set_option maxRecDepth 20000 in
theorem zl_X2_clear_0 : z_All z_tab cX2_clear 1 none RX2 pc_X2_clear 0 (k_X2_clear.drop 0) := z_cons (ok_aload_n dX2_clear_0 rfl rfl) <| z_cons (ok_iconst (by decide) dX2_clear_1 rfl rfl) <| z_cons (ok_put ⟨by decide, by decide, by decide⟩ (ci := 2) (T := TX2) rfl rfl (Nat.le_of_ble_eq_true rfl) iw_X2 qw_48 tyX2_ok nmX2 rfl pv_3_1 rfl dX2_clear_2 rfl rfl) <| z_cons (ok_ret rfl dX2_clear_5 rfl) <| z_nil
theorem dX2_add_0 : decode cX2_add 0 = .ok (.aload_n 0, 1) := by decide +kernel
theorem dX2_add_1 : decode cX2_add 1 = .ok (.getfield 23, 3) := by decide +kernel
theorem dX2_add_4 : decode cX2_add 4 = .ok (.sipush 512, 3) := by decide +kernel
theorem dX2_add_7 : decode cX2_add 7 = .ok (.if_icmp .ge 23, 3) := by decide +kernel
theorem dX2_add_10 : decode cX2_add 10 = .ok (.aload_n 0, 1) := by decide +kernel
theorem dX2_add_11 : decode cX2_add 11 = .ok (.getfield 11, 3) := by decide +kernel
theorem dX2_add_14 : decode cX2_add 14 = .ok (.aload_n 0, 1) := by decide +kernel
theorem dX2_add_15 : decode cX2_add 15 = .ok (.getfield 23, 3) := by decide +kernel
theorem dX2_add_18 : decode cX2_add 18 = .ok (.iload_n 1, 1) := by decide +kernel
theorem dX2_add_19 : decode cX2_add 19 = .ok (.iastore, 1) := by decide +kernel
theorem dX2_add_20 : decode cX2_add 20 = .ok (.aload_n 0, 1) := by decide +kernel
theorem dX2_add_21 : decode cX2_add 21 = .ok (.dup, 1) := by decide +kernel
theorem dX2_add_22 : decode cX2_add 22 = .ok (.getfield 23, 3) := by decide +kernel
theorem dX2_add_25 : decode cX2_add 25 = .ok (.iconst 1, 1) := by decide +kernel
theorem dX2_add_26 : decode cX2_add 26 = .ok (.iadd, 1) := by decide +kernel
theorem dX2_add_27 : decode cX2_add 27 = .ok (.putfield 23, 3) := by decide +kernel
theorem dX2_add_30 : decode cX2_add 30 = .ok (.return_, 1) := by decide +kernel
set_option maxRecDepth 20000 in
theorem zl_X2_add_0 : z_All z_tab cX2_add 2 none RX2 pc_X2_add 0 (k_X2_add.drop 0) := z_cons (ok_aload_n dX2_add_0 rfl rfl) <| z_cons (ok_get ⟨by decide, by decide, by decide⟩ (ci := 2) (T := TX2) rfl rfl (Nat.le_of_ble_eq_true rfl) iw_X2 qw_48 gv_3_1 dX2_add_1 rfl rfl) <| z_cons (ok_sipush (by decide) dX2_add_4 rfl rfl) <| z_cons (ok_icmp_ge (tgt := 30) (by decide) rfl dX2_add_7 rfl rfl) <| z_cons (ok_aload_n dX2_add_10 rfl rfl) <| z_cons (ok_getr (k := 0) ⟨by decide, by decide, by decide⟩ (ci := 2) (T := TX2) rfl rfl (Nat.le_of_ble_eq_true rfl) iw_X2 qw_49 gr_3_0 (fun _ _ => by simp) (fun w i => List.mem_of_getElem? (i := 0) rfl) dX2_add_11 rfl rfl) <| z_cons (ok_aload_n dX2_add_14 rfl rfl) <| z_cons (ok_get ⟨by decide, by decide, by decide⟩ (ci := 2) (T := TX2) rfl rfl (Nat.le_of_ble_eq_true rfl) iw_X2 qw_48 gv_3_1 dX2_add_15 rfl rfl) <| z_cons (ok_iload_n dX2_add_18 rfl rfl) <| z_cons (ok_iast dX2_add_19 rfl rfl) <| z_cons (ok_aload_n dX2_add_20 rfl rfl) <| z_cons (ok_dup dX2_add_21 rfl rfl) <| z_cons (ok_get ⟨by decide, by decide, by decide⟩ (ci := 2) (T := TX2) rfl rfl (Nat.le_of_ble_eq_true rfl) iw_X2 qw_48 gv_3_1 dX2_add_22 rfl rfl) <| z_cons (ok_iconst (by decide) dX2_add_25 rfl rfl) <| z_cons (ok_iadd dX2_add_26 rfl rfl) <| z_cons (ok_put ⟨by decide, by decide, by decide⟩ (ci := 2) (T := TX2) rfl rfl (Nat.le_of_ble_eq_true rfl) iw_X2 qw_48 tyX2_ok nmX2 rfl pv_3_1 rfl dX2_add_27 rfl rfl) <| z_cons (ok_ret rfl dX2_add_30 rfl) <| z_nil
theorem dX2_takeLast_0 : decode cX2_takeLast 0 = .ok (.aload_n 0, 1) := by decide +kernel
theorem dX2_takeLast_1 : decode cX2_takeLast 1 = .ok (.getfield 23, 3) := by decide +kernel
theorem dX2_takeLast_4 : decode cX2_takeLast 4 = .ok (.iconst 1, 1) := by decide +kernel
theorem dX2_takeLast_5 : decode cX2_takeLast 5 = .ok (.if_icmp .lt 13, 3) := by decide +kernel
theorem dX2_takeLast_8 : decode cX2_takeLast 8 = .ok (.aload_n 0, 1) := by decide +kernel
theorem dX2_takeLast_9 : decode cX2_takeLast 9 = .ok (.getfield 23, 3) := by decide +kernel
theorem dX2_takeLast_12 : decode cX2_takeLast 12 = .ok (.sipush 512, 3) := by decide +kernel
theorem dX2_takeLast_15 : decode cX2_takeLast 15 = .ok (.if_icmp .le 5, 3) := by decide +kernel
theorem dX2_takeLast_18 : decode cX2_takeLast 18 = .ok (.iconst (-1), 1) := by decide +kernel
theorem dX2_takeLast_19 : decode cX2_takeLast 19 = .ok (.ireturn, 1) := by decide +kernel
theorem dX2_takeLast_20 : decode cX2_takeLast 20 = .ok (.aload_n 0, 1) := by decide +kernel
theorem dX2_takeLast_21 : decode cX2_takeLast 21 = .ok (.dup, 1) := by decide +kernel
theorem dX2_takeLast_22 : decode cX2_takeLast 22 = .ok (.getfield 23, 3) := by decide +kernel
theorem dX2_takeLast_25 : decode cX2_takeLast 25 = .ok (.iconst 1, 1) := by decide +kernel
theorem dX2_takeLast_26 : decode cX2_takeLast 26 = .ok (.isub, 1) := by decide +kernel
theorem dX2_takeLast_27 : decode cX2_takeLast 27 = .ok (.putfield 23, 3) := by decide +kernel
theorem dX2_takeLast_30 : decode cX2_takeLast 30 = .ok (.aload_n 0, 1) := by decide +kernel
theorem dX2_takeLast_31 : decode cX2_takeLast 31 = .ok (.getfield 11, 3) := by decide +kernel
theorem dX2_takeLast_34 : decode cX2_takeLast 34 = .ok (.aload_n 0, 1) := by decide +kernel
theorem dX2_takeLast_35 : decode cX2_takeLast 35 = .ok (.getfield 23, 3) := by decide +kernel
theorem dX2_takeLast_38 : decode cX2_takeLast 38 = .ok (.iaload, 1) := by decide +kernel
theorem dX2_takeLast_39 : decode cX2_takeLast 39 = .ok (.ireturn, 1) := by decide +kernel
set_option maxRecDepth 20000 in
theorem zl_X2_takeLast_0 : z_All z_tab cX2_takeLast 1 (some .int) RX2 pc_X2_takeLast 0 (k_X2_takeLast.drop 0) := z_cons (ok_aload_n dX2_takeLast_0 rfl rfl) <| z_cons (ok_get ⟨by decide, by decide, by decide⟩ (ci := 2) (T := TX2) rfl rfl (Nat.le_of_ble_eq_true rfl) iw_X2 qw_48 gv_3_1 dX2_takeLast_1 rfl rfl) <| z_cons (ok_iconst (by decide) dX2_takeLast_4 rfl rfl) <| z_cons (ok_icmp_lt (tgt := 18) (by decide) rfl dX2_takeLast_5 rfl rfl) <| z_cons (ok_aload_n dX2_takeLast_8 rfl rfl) <| z_cons (ok_get ⟨by decide, by decide, by decide⟩ (ci := 2) (T := TX2) rfl rfl (Nat.le_of_ble_eq_true rfl) iw_X2 qw_48 gv_3_1 dX2_takeLast_9 rfl rfl) <| z_cons (ok_sipush (by decide) dX2_takeLast_12 rfl rfl) <| z_cons (ok_icmp_le (tgt := 20) (by decide) rfl dX2_takeLast_15 rfl rfl) <| z_cons (ok_iconst (by decide) dX2_takeLast_18 rfl rfl) <| z_cons (ok_iret rfl dX2_takeLast_19 rfl) <| z_cons (ok_aload_n dX2_takeLast_20 rfl rfl) <| z_cons (ok_dup dX2_takeLast_21 rfl rfl) <| z_cons (ok_get ⟨by decide, by decide, by decide⟩ (ci := 2) (T := TX2) rfl rfl (Nat.le_of_ble_eq_true rfl) iw_X2 qw_48 gv_3_1 dX2_takeLast_22 rfl rfl) <| z_cons (ok_iconst (by decide) dX2_takeLast_25 rfl rfl) <| z_cons (ok_isub dX2_takeLast_26 rfl rfl) <| z_cons (ok_put ⟨by decide, by decide, by decide⟩ (ci := 2) (T := TX2) rfl rfl (Nat.le_of_ble_eq_true rfl) iw_X2 qw_48 tyX2_ok nmX2 rfl pv_3_1 rfl dX2_takeLast_27 rfl rfl) <| z_cons (ok_aload_n dX2_takeLast_30 rfl rfl) <| z_cons (ok_getr (k := 0) ⟨by decide, by decide, by decide⟩ (ci := 2) (T := TX2) rfl rfl (Nat.le_of_ble_eq_true rfl) iw_X2 qw_49 gr_3_0 (fun _ _ => by simp) (fun w i => List.mem_of_getElem? (i := 0) rfl) dX2_takeLast_31 rfl rfl) <| z_cons (ok_aload_n dX2_takeLast_34 rfl rfl) <| z_cons (ok_get ⟨by decide, by decide, by decide⟩ (ci := 2) (T := TX2) rfl rfl (Nat.le_of_ble_eq_true rfl) iw_X2 qw_48 gv_3_1 dX2_takeLast_35 rfl rfl) <| z_cons (ok_iald dX2_takeLast_38 rfl rfl) <| z_cons (ok_iret rfl dX2_takeLast_39 rfl) <| z_nil
theorem dX2_at_0 : decode cX2_at 0 = .ok (.iload_n 1, 1) := by decide +kernel
theorem dX2_at_1 : decode cX2_at 1 = .ok (.ifCond .lt 18, 3) := by decide +kernel
theorem dX2_at_4 : decode cX2_at 4 = .ok (.iload_n 1, 1) := by decide +kernel
theorem dX2_at_5 : decode cX2_at 5 = .ok (.aload_n 0, 1) := by decide +kernel
theorem dX2_at_6 : decode cX2_at 6 = .ok (.getfield 23, 3) := by decide +kernel
theorem dX2_at_9 : decode cX2_at 9 = .ok (.if_icmp .ge 10, 3) := by decide +kernel
theorem dX2_at_12 : decode cX2_at 12 = .ok (.iload_n 1, 1) := by decide +kernel
theorem dX2_at_13 : decode cX2_at 13 = .ok (.sipush 512, 3) := by decide +kernel
theorem dX2_at_16 : decode cX2_at 16 = .ok (.if_icmp .lt 7, 3) := by decide +kernel
theorem dX2_at_19 : decode cX2_at 19 = .ok (.iconst (-1), 1) := by decide +kernel
theorem dX2_at_20 : decode cX2_at 20 = .ok (.goto 9, 3) := by decide +kernel
theorem dX2_at_23 : decode cX2_at 23 = .ok (.aload_n 0, 1) := by decide +kernel
theorem dX2_at_24 : decode cX2_at 24 = .ok (.getfield 11, 3) := by decide +kernel
theorem dX2_at_27 : decode cX2_at 27 = .ok (.iload_n 1, 1) := by decide +kernel
theorem dX2_at_28 : decode cX2_at 28 = .ok (.iaload, 1) := by decide +kernel
theorem dX2_at_29 : decode cX2_at 29 = .ok (.ireturn, 1) := by decide +kernel
set_option maxRecDepth 20000 in
theorem zl_X2_at_0 : z_All z_tab cX2_at 2 (some .int) RX2 pc_X2_at 0 (k_X2_at.drop 0) := z_cons (ok_iload_n dX2_at_0 rfl rfl) <| z_cons (ok_if_lt (tgt := 19) (by decide) rfl dX2_at_1 rfl rfl) <| z_cons (ok_iload_n dX2_at_4 rfl rfl) <| z_cons (ok_aload_n dX2_at_5 rfl rfl) <| z_cons (ok_get ⟨by decide, by decide, by decide⟩ (ci := 2) (T := TX2) rfl rfl (Nat.le_of_ble_eq_true rfl) iw_X2 qw_48 gv_3_1 dX2_at_6 rfl rfl) <| z_cons (ok_icmp_ge (tgt := 19) (by decide) rfl dX2_at_9 rfl rfl) <| z_cons (ok_iload_n dX2_at_12 rfl rfl) <| z_cons (ok_sipush (by decide) dX2_at_13 rfl rfl) <| z_cons (ok_icmp_lt (tgt := 23) (by decide) rfl dX2_at_16 rfl rfl) <| z_cons (ok_iconst (by decide) dX2_at_19 rfl rfl) <| z_cons (ok_goto (tgt := 29) (by decide) rfl dX2_at_20 rfl) <| z_cons (ok_aload_n dX2_at_23 rfl rfl) <| z_cons (ok_getr (k := 0) ⟨by decide, by decide, by decide⟩ (ci := 2) (T := TX2) rfl rfl (Nat.le_of_ble_eq_true rfl) iw_X2 qw_49 gr_3_0 (fun _ _ => by simp) (fun w i => List.mem_of_getElem? (i := 0) rfl) dX2_at_24 rfl rfl) <| z_cons (ok_iload_n dX2_at_27 rfl rfl) <| z_cons (ok_iald dX2_at_28 rfl rfl) <| z_cons (ok_iret rfl dX2_at_29 rfl) <| z_nil
theorem dX2_tells_0 : decode cX2_tells 0 = .ok (.aload_n 0, 1) := by decide +kernel
theorem dX2_tells_1 : decode cX2_tells 1 = .ok (.iload_n 1, 1) := by decide +kernel
theorem dX2_tells_2 : decode cX2_tells 2 = .ok (.invokevirtual 27, 3) := by decide +kernel
theorem dX2_tells_5 : decode cX2_tells 5 = .ok (.istore_n 3, 1) := by decide +kernel
theorem dX2_tells_6 : decode cX2_tells 6 = .ok (.iload_n 3, 1) := by decide +kernel
theorem dX2_tells_7 : decode cX2_tells 7 = .ok (.iconst (-1), 1) := by decide +kernel
theorem dX2_tells_8 : decode cX2_tells 8 = .ok (.if_icmp .ne 5, 3) := by decide +kernel
theorem dX2_tells_11 : decode cX2_tells 11 = .ok (.iconst (-1), 1) := by decide +kernel
theorem dX2_tells_12 : decode cX2_tells 12 = .ok (.ireturn, 1) := by decide +kernel
theorem dX2_tells_13 : decode cX2_tells 13 = .ok (.iload_n 2, 1) := by decide +kernel
theorem dX2_tells_14 : decode cX2_tells 14 = .ok (.tableswitch 49 0 2 #[26, 31, 36], 26) := by decide +kernel
theorem dX2_tells_40 : decode cX2_tells 40 = .ok (.iload_n 3, 1) := by decide +kernel
theorem dX2_tells_41 : decode cX2_tells 41 = .ok (.invokestatic 16, 3) := by decide +kernel
theorem dX2_tells_44 : decode cX2_tells 44 = .ok (.ireturn, 1) := by decide +kernel
theorem dX2_tells_45 : decode cX2_tells 45 = .ok (.iload_n 3, 1) := by decide +kernel
theorem dX2_tells_46 : decode cX2_tells 46 = .ok (.invokestatic 20, 3) := by decide +kernel
theorem dX2_tells_49 : decode cX2_tells 49 = .ok (.ireturn, 1) := by decide +kernel
theorem dX2_tells_50 : decode cX2_tells 50 = .ok (.iload_n 3, 1) := by decide +kernel
theorem dX2_tells_51 : decode cX2_tells 51 = .ok (.ldc 30, 2) := by decide +kernel
theorem dX2_tells_53 : decode cX2_tells 53 = .ok (.iand, 1) := by decide +kernel
theorem dX2_tells_54 : decode cX2_tells 54 = .ok (.ifCond .ne 7, 3) := by decide +kernel
theorem dX2_tells_57 : decode cX2_tells 57 = .ok (.iconst 0, 1) := by decide +kernel
theorem dX2_tells_58 : decode cX2_tells 58 = .ok (.goto 4, 3) := by decide +kernel
theorem dX2_tells_61 : decode cX2_tells 61 = .ok (.iconst 1, 1) := by decide +kernel
theorem dX2_tells_62 : decode cX2_tells 62 = .ok (.ireturn, 1) := by decide +kernel
theorem dX2_tells_63 : decode cX2_tells 63 = .ok (.iconst (-1), 1) := by decide +kernel
theorem dX2_tells_64 : decode cX2_tells 64 = .ok (.ireturn, 1) := by decide +kernel
set_option maxRecDepth 20000 in
theorem zl_X2_tells_0 : z_All z_tab cX2_tells 4 (some .int) RX2 pc_X2_tells 0 (k_X2_tells.drop 0) := z_cons (ok_aload_n dX2_tells_0 rfl rfl) <| z_cons (ok_iload_n dX2_tells_1 rfl rfl) <| z_cons (ok_callv ⟨by decide, by decide, by decide⟩ (ci := 2) (C := RX2) (T := TX2) rfl go_3 (k := 22) (n := 1) qw_50 qw_42 ⟨by decide +kernel, by decide +kernel, by decide +kernel⟩ (Nat.le_of_ble_eq_true rfl) qw_51 qw_52 qw_53 dX2_tells_2 rfl rfl) <| z_cons (ok_istore_n (Nat.le_of_ble_eq_true rfl) dX2_tells_5 rfl rfl) <| z_cons (ok_iload_n dX2_tells_6 rfl rfl) <| z_cons (ok_iconst (by decide) dX2_tells_7 rfl rfl) <| z_cons (ok_icmp_ne (tgt := 13) (by decide) rfl dX2_tells_8 rfl rfl) <| z_cons (ok_iconst (by decide) dX2_tells_11 rfl rfl) <| z_cons (ok_iret rfl dX2_tells_12 rfl) <| z_cons (ok_iload_n dX2_tells_13 rfl rfl) <| z_cons (ok_tsw (lo := 0) dX2_tells_14 rfl (Nat.le_of_ble_eq_true rfl) (by decide) (by decide +kernel) (by decide)) <| z_cons (ok_iload_n dX2_tells_40 rfl rfl) <| z_cons (ok_callS (k := 15) (n := 1) qw_41 qw_42 ⟨by decide +kernel, by decide +kernel, by decide +kernel⟩ (Nat.le_of_ble_eq_true rfl) qw_44 qw_43 dX2_tells_41 rfl rfl) <| z_cons (ok_iret rfl dX2_tells_44 rfl) <| z_cons (ok_iload_n dX2_tells_45 rfl rfl) <| z_cons (ok_callS (k := 16) (n := 1) qw_45 qw_42 ⟨by decide +kernel, by decide +kernel, by decide +kernel⟩ (Nat.le_of_ble_eq_true rfl) qw_47 qw_46 dX2_tells_46 rfl rfl) <| z_cons (ok_iret rfl dX2_tells_49 rfl) <| z_cons (ok_iload_n dX2_tells_50 rfl rfl) <| z_cons (ok_ldc qw_54 dX2_tells_51 rfl rfl) <| z_cons (ok_iand dX2_tells_53 rfl rfl) <| z_cons (ok_if_ne (tgt := 61) (by decide) rfl dX2_tells_54 rfl rfl) <| z_cons (ok_iconst (by decide) dX2_tells_57 rfl rfl) <| z_cons (ok_goto (tgt := 62) (by decide) rfl dX2_tells_58 rfl) <| z_cons (ok_iconst (by decide) dX2_tells_61 rfl rfl) <| z_cons (ok_iret rfl dX2_tells_62 rfl) <| z_cons (ok_iconst (by decide) dX2_tells_63 rfl rfl) <| z_cons (ok_iret rfl dX2_tells_64 rfl) <| z_nil
theorem dX2_backwardsFrom_0 : decode cX2_backwardsFrom 0 = .ok (.aload_n 0, 1) := by decide +kernel
theorem dX2_backwardsFrom_1 : decode cX2_backwardsFrom 1 = .ok (.invokevirtual 31, 3) := by decide +kernel
theorem dX2_backwardsFrom_4 : decode cX2_backwardsFrom 4 = .ok (.aload_n 1, 1) := by decide +kernel
theorem dX2_backwardsFrom_5 : decode cX2_backwardsFrom 5 = .ok (.getfield 23, 3) := by decide +kernel
theorem dX2_backwardsFrom_8 : decode cX2_backwardsFrom 8 = .ok (.iconst 1, 1) := by decide +kernel
theorem dX2_backwardsFrom_9 : decode cX2_backwardsFrom 9 = .ok (.isub, 1) := by decide +kernel
theorem dX2_backwardsFrom_10 : decode cX2_backwardsFrom 10 = .ok (.istore_n 2, 1) := by decide +kernel
theorem dX2_backwardsFrom_11 : decode cX2_backwardsFrom 11 = .ok (.iload_n 2, 1) := by decide +kernel
theorem dX2_backwardsFrom_12 : decode cX2_backwardsFrom 12 = .ok (.ifCond .lt 21, 3) := by decide +kernel
theorem dX2_backwardsFrom_15 : decode cX2_backwardsFrom 15 = .ok (.aload_n 0, 1) := by decide +kernel
theorem dX2_backwardsFrom_16 : decode cX2_backwardsFrom 16 = .ok (.aload_n 1, 1) := by decide +kernel
theorem dX2_backwardsFrom_17 : decode cX2_backwardsFrom 17 = .ok (.iload_n 2, 1) := by decide +kernel
theorem dX2_backwardsFrom_18 : decode cX2_backwardsFrom 18 = .ok (.invokevirtual 27, 3) := by decide +kernel
theorem dX2_backwardsFrom_21 : decode cX2_backwardsFrom 21 = .ok (.ldc 34, 2) := by decide +kernel
theorem dX2_backwardsFrom_23 : decode cX2_backwardsFrom 23 = .ok (.iand, 1) := by decide +kernel
theorem dX2_backwardsFrom_24 : decode cX2_backwardsFrom 24 = .ok (.invokevirtual 35, 3) := by decide +kernel
theorem dX2_backwardsFrom_27 : decode cX2_backwardsFrom 27 = .ok (.iinc 2 (-1), 3) := by decide +kernel
theorem dX2_backwardsFrom_30 : decode cX2_backwardsFrom 30 = .ok (.goto (-19), 3) := by decide +kernel
theorem dX2_backwardsFrom_33 : decode cX2_backwardsFrom 33 = .ok (.return_, 1) := by decide +kernel
set_option maxRecDepth 20000 in
theorem zl_X2_backwardsFrom_0 : z_All z_tab cX2_backwardsFrom 3 none RX2 pc_X2_backwardsFrom 0 (k_X2_backwardsFrom.drop 0) := z_cons (ok_aload_n dX2_backwardsFrom_0 rfl rfl) <| z_cons (ok_callv ⟨by decide, by decide, by decide⟩ (ci := 2) (C := RX2) (T := TX2) rfl go_3 (k := 19) (n := 0) qw_55 qw_42 ⟨by decide +kernel, by decide +kernel, by decide +kernel⟩ (Nat.le_of_ble_eq_true rfl) qw_56 qw_57 qw_58 dX2_backwardsFrom_1 rfl rfl) <| z_cons (ok_aload_n dX2_backwardsFrom_4 rfl rfl) <| z_cons (ok_get ⟨by decide, by decide, by decide⟩ (ci := 2) (T := TX2) rfl rfl (Nat.le_of_ble_eq_true rfl) iw_X2 qw_48 gv_3_1 dX2_backwardsFrom_5 rfl rfl) <| z_cons (ok_iconst (by decide) dX2_backwardsFrom_8 rfl rfl) <| z_cons (ok_isub dX2_backwardsFrom_9 rfl rfl) <| z_cons (ok_istore_n (Nat.le_of_ble_eq_true rfl) dX2_backwardsFrom_10 rfl rfl) <| z_cons (ok_iload_n dX2_backwardsFrom_11 rfl rfl) <| z_cons (ok_if_lt (tgt := 33) (by decide) rfl dX2_backwardsFrom_12 rfl rfl) <| z_cons (ok_aload_n dX2_backwardsFrom_15 rfl rfl) <| z_cons (ok_aload_n dX2_backwardsFrom_16 rfl rfl) <| z_cons (ok_iload_n dX2_backwardsFrom_17 rfl rfl) <| z_cons (ok_callv ⟨by decide, by decide, by decide⟩ (ci := 2) (C := RX2) (T := TX2) rfl go_3 (k := 22) (n := 1) qw_50 qw_42 ⟨by decide +kernel, by decide +kernel, by decide +kernel⟩ (Nat.le_of_ble_eq_true rfl) qw_51 qw_52 qw_53 dX2_backwardsFrom_18 rfl rfl) <| z_cons (ok_ldc qw_59 dX2_backwardsFrom_21 rfl rfl) <| z_cons (ok_iand dX2_backwardsFrom_23 rfl rfl) <| z_cons (ok_callv ⟨by decide, by decide, by decide⟩ (ci := 2) (C := RX2) (T := TX2) rfl go_3 (k := 20) (n := 1) qw_60 qw_42 ⟨by decide +kernel, by decide +kernel, by decide +kernel⟩ (Nat.le_of_ble_eq_true rfl) qw_61 qw_62 qw_63 dX2_backwardsFrom_24 rfl rfl) <| z_cons (ok_iinc (by decide) (Nat.le_of_ble_eq_true rfl) dX2_backwardsFrom_27 rfl rfl) <| z_cons (ok_goto (tgt := 11) (by decide) rfl dX2_backwardsFrom_30 rfl) <| z_cons (ok_ret rfl dX2_backwardsFrom_33 rfl) <| z_nil
theorem dX2_joinedFrom_0 : decode cX2_joinedFrom 0 = .ok (.aload_n 0, 1) := by decide +kernel
theorem dX2_joinedFrom_1 : decode cX2_joinedFrom 1 = .ok (.invokevirtual 31, 3) := by decide +kernel
theorem dX2_joinedFrom_4 : decode cX2_joinedFrom 4 = .ok (.iconst 0, 1) := by decide +kernel
theorem dX2_joinedFrom_5 : decode cX2_joinedFrom 5 = .ok (.istore_n 2, 1) := by decide +kernel
theorem dX2_joinedFrom_6 : decode cX2_joinedFrom 6 = .ok (.iload_n 2, 1) := by decide +kernel
theorem dX2_joinedFrom_7 : decode cX2_joinedFrom 7 = .ok (.aload_n 1, 1) := by decide +kernel
theorem dX2_joinedFrom_8 : decode cX2_joinedFrom 8 = .ok (.getfield 23, 3) := by decide +kernel
theorem dX2_joinedFrom_11 : decode cX2_joinedFrom 11 = .ok (.if_icmp .ge 75, 3) := by decide +kernel
theorem dX2_joinedFrom_14 : decode cX2_joinedFrom 14 = .ok (.aload_n 0, 1) := by decide +kernel
theorem dX2_joinedFrom_15 : decode cX2_joinedFrom 15 = .ok (.aload_n 1, 1) := by decide +kernel
theorem dX2_joinedFrom_16 : decode cX2_joinedFrom 16 = .ok (.iload_n 2, 1) := by decide +kernel
theorem dX2_joinedFrom_17 : decode cX2_joinedFrom 17 = .ok (.invokevirtual 27, 3) := by decide +kernel
theorem dX2_joinedFrom_20 : decode cX2_joinedFrom 20 = .ok (.invokevirtual 35, 3) := by decide +kernel
theorem dX2_joinedFrom_23 : decode cX2_joinedFrom 23 = .ok (.iconst 0, 1) := by decide +kernel
theorem dX2_joinedFrom_24 : decode cX2_joinedFrom 24 = .ok (.istore_n 3, 1) := by decide +kernel
theorem dX2_joinedFrom_25 : decode cX2_joinedFrom 25 = .ok (.iload_n 3, 1) := by decide +kernel
theorem dX2_joinedFrom_26 : decode cX2_joinedFrom 26 = .ok (.bipush 16, 2) := by decide +kernel
theorem dX2_joinedFrom_28 : decode cX2_joinedFrom 28 = .ok (.if_icmp .ge 52, 3) := by decide +kernel
theorem dX2_joinedFrom_31 : decode cX2_joinedFrom 31 = .ok (.aload_n 0, 1) := by decide +kernel
theorem dX2_joinedFrom_32 : decode cX2_joinedFrom 32 = .ok (.invokevirtual 39, 3) := by decide +kernel
theorem dX2_joinedFrom_35 : decode cX2_joinedFrom 35 = .ok (.ifCond .eq 45, 3) := by decide +kernel
theorem dX2_joinedFrom_38 : decode cX2_joinedFrom 38 = .ok (.aload_n 0, 1) := by decide +kernel
theorem dX2_joinedFrom_39 : decode cX2_joinedFrom 39 = .ok (.invokevirtual 43, 3) := by decide +kernel
theorem dX2_joinedFrom_42 : decode cX2_joinedFrom 42 = .ok (.istore 4, 2) := by decide +kernel
theorem dX2_joinedFrom_44 : decode cX2_joinedFrom 44 = .ok (.aload_n 0, 1) := by decide +kernel
theorem dX2_joinedFrom_45 : decode cX2_joinedFrom 45 = .ok (.invokevirtual 43, 3) := by decide +kernel
theorem dX2_joinedFrom_48 : decode cX2_joinedFrom 48 = .ok (.pop, 1) := by decide +kernel
theorem dX2_joinedFrom_49 : decode cX2_joinedFrom 49 = .ok (.aload_n 0, 1) := by decide +kernel
theorem dX2_joinedFrom_50 : decode cX2_joinedFrom 50 = .ok (.ldc 30, 2) := by decide +kernel
theorem dX2_joinedFrom_52 : decode cX2_joinedFrom 52 = .ok (.iload 4, 2) := by decide +kernel
theorem dX2_joinedFrom_54 : decode cX2_joinedFrom 54 = .ok (.invokestatic 16, 3) := by decide +kernel
theorem dX2_joinedFrom_57 : decode cX2_joinedFrom 57 = .ok (.iconst 1, 1) := by decide +kernel
theorem dX2_joinedFrom_58 : decode cX2_joinedFrom 58 = .ok (.isub, 1) := by decide +kernel
theorem dX2_joinedFrom_59 : decode cX2_joinedFrom 59 = .ok (.bipush 16, 2) := by decide +kernel
theorem dX2_joinedFrom_61 : decode cX2_joinedFrom 61 = .ok (.ishl, 1) := by decide +kernel
theorem dX2_joinedFrom_62 : decode cX2_joinedFrom 62 = .ok (.ior, 1) := by decide +kernel
theorem dX2_joinedFrom_63 : decode cX2_joinedFrom 63 = .ok (.iload 4, 2) := by decide +kernel
theorem dX2_joinedFrom_65 : decode cX2_joinedFrom 65 = .ok (.invokestatic 20, 3) := by decide +kernel
theorem dX2_joinedFrom_68 : decode cX2_joinedFrom 68 = .ok (.iconst 1, 1) := by decide +kernel
theorem dX2_joinedFrom_69 : decode cX2_joinedFrom 69 = .ok (.ishr, 1) := by decide +kernel
theorem dX2_joinedFrom_70 : decode cX2_joinedFrom 70 = .ok (.ior, 1) := by decide +kernel
theorem dX2_joinedFrom_71 : decode cX2_joinedFrom 71 = .ok (.invokevirtual 35, 3) := by decide +kernel
theorem dX2_joinedFrom_74 : decode cX2_joinedFrom 74 = .ok (.iinc 3 1, 3) := by decide +kernel
theorem dX2_joinedFrom_77 : decode cX2_joinedFrom 77 = .ok (.goto (-52), 3) := by decide +kernel
theorem dX2_joinedFrom_80 : decode cX2_joinedFrom 80 = .ok (.iinc 2 1, 3) := by decide +kernel
theorem dX2_joinedFrom_83 : decode cX2_joinedFrom 83 = .ok (.goto (-77), 3) := by decide +kernel
theorem dX2_joinedFrom_86 : decode cX2_joinedFrom 86 = .ok (.return_, 1) := by decide +kernel
set_option maxRecDepth 20000 in
theorem zl_X2_joinedFrom_1 : z_All z_tab cX2_joinedFrom 5 none RX2 pc_X2_joinedFrom 40 (k_X2_joinedFrom.drop 40) := z_cons (ok_ior dX2_joinedFrom_70 rfl rfl) <| z_cons (ok_callv ⟨by decide, by decide, by decide⟩ (ci := 2) (C := RX2) (T := TX2) rfl go_3 (k := 20) (n := 1) qw_60 qw_42 ⟨by decide +kernel, by decide +kernel, by decide +kernel⟩ (Nat.le_of_ble_eq_true rfl) qw_61 qw_62 qw_63 dX2_joinedFrom_71 rfl rfl) <| z_cons (ok_iinc (by decide) (Nat.le_of_ble_eq_true rfl) dX2_joinedFrom_74 rfl rfl) <| z_cons (ok_goto (tgt := 25) (by decide) rfl dX2_joinedFrom_77 rfl) <| z_cons (ok_iinc (by decide) (Nat.le_of_ble_eq_true rfl) dX2_joinedFrom_80 rfl rfl) <| z_cons (ok_goto (tgt := 6) (by decide) rfl dX2_joinedFrom_83 rfl) <| z_cons (ok_ret rfl dX2_joinedFrom_86 rfl) <| z_nil
set_option maxRecDepth 20000 in
theorem zl_X2_joinedFrom_0 : z_All z_tab cX2_joinedFrom 5 none RX2 pc_X2_joinedFrom 0 (k_X2_joinedFrom.drop 0) := z_cons (ok_aload_n dX2_joinedFrom_0 rfl rfl) <| z_cons (ok_callv ⟨by decide, by decide, by decide⟩ (ci := 2) (C := RX2) (T := TX2) rfl go_3 (k := 19) (n := 0) qw_55 qw_42 ⟨by decide +kernel, by decide +kernel, by decide +kernel⟩ (Nat.le_of_ble_eq_true rfl) qw_56 qw_57 qw_58 dX2_joinedFrom_1 rfl rfl) <| z_cons (ok_iconst (by decide) dX2_joinedFrom_4 rfl rfl) <| z_cons (ok_istore_n (Nat.le_of_ble_eq_true rfl) dX2_joinedFrom_5 rfl rfl) <| z_cons (ok_iload_n dX2_joinedFrom_6 rfl rfl) <| z_cons (ok_aload_n dX2_joinedFrom_7 rfl rfl) <| z_cons (ok_get ⟨by decide, by decide, by decide⟩ (ci := 2) (T := TX2) rfl rfl (Nat.le_of_ble_eq_true rfl) iw_X2 qw_48 gv_3_1 dX2_joinedFrom_8 rfl rfl) <| z_cons (ok_icmp_ge (tgt := 86) (by decide) rfl dX2_joinedFrom_11 rfl rfl) <| z_cons (ok_aload_n dX2_joinedFrom_14 rfl rfl) <| z_cons (ok_aload_n dX2_joinedFrom_15 rfl rfl) <| z_cons (ok_iload_n dX2_joinedFrom_16 rfl rfl) <| z_cons (ok_callv ⟨by decide, by decide, by decide⟩ (ci := 2) (C := RX2) (T := TX2) rfl go_3 (k := 22) (n := 1) qw_50 qw_42 ⟨by decide +kernel, by decide +kernel, by decide +kernel⟩ (Nat.le_of_ble_eq_true rfl) qw_51 qw_52 qw_53 dX2_joinedFrom_17 rfl rfl) <| z_cons (ok_callv ⟨by decide, by decide, by decide⟩ (ci := 2) (C := RX2) (T := TX2) rfl go_3 (k := 20) (n := 1) qw_60 qw_42 ⟨by decide +kernel, by decide +kernel, by decide +kernel⟩ (Nat.le_of_ble_eq_true rfl) qw_61 qw_62 qw_63 dX2_joinedFrom_20 rfl rfl) <| z_cons (ok_iconst (by decide) dX2_joinedFrom_23 rfl rfl) <| z_cons (ok_istore_n (Nat.le_of_ble_eq_true rfl) dX2_joinedFrom_24 rfl rfl) <| z_cons (ok_iload_n dX2_joinedFrom_25 rfl rfl) <| z_cons (ok_bipush (by decide) dX2_joinedFrom_26 rfl rfl) <| z_cons (ok_icmp_ge (tgt := 80) (by decide) rfl dX2_joinedFrom_28 rfl rfl) <| z_cons (ok_aload_n dX2_joinedFrom_31 rfl rfl) <| z_cons (ok_callv ⟨by decide, by decide, by decide⟩ (ci := 2) (C := RX2) (T := TX2) rfl go_3 (k := 26) (n := 0) qw_64 qw_42 ⟨by decide +kernel, by decide +kernel, by decide +kernel⟩ (Nat.le_of_ble_eq_true rfl) qw_65 qw_66 qw_67 dX2_joinedFrom_32 rfl rfl) <| z_cons (ok_if_eq (tgt := 80) (by decide) rfl dX2_joinedFrom_35 rfl rfl) <| z_cons (ok_aload_n dX2_joinedFrom_38 rfl rfl) <| z_cons (ok_callv ⟨by decide, by decide, by decide⟩ (ci := 2) (C := RX2) (T := TX2) rfl go_3 (k := 21) (n := 0) qw_68 qw_42 ⟨by decide +kernel, by decide +kernel, by decide +kernel⟩ (Nat.le_of_ble_eq_true rfl) qw_69 qw_70 qw_71 dX2_joinedFrom_39 rfl rfl) <| z_cons (ok_istore (Nat.le_of_ble_eq_true rfl) dX2_joinedFrom_42 rfl rfl) <| z_cons (ok_aload_n dX2_joinedFrom_44 rfl rfl) <| z_cons (ok_callv ⟨by decide, by decide, by decide⟩ (ci := 2) (C := RX2) (T := TX2) rfl go_3 (k := 21) (n := 0) qw_68 qw_42 ⟨by decide +kernel, by decide +kernel, by decide +kernel⟩ (Nat.le_of_ble_eq_true rfl) qw_69 qw_70 qw_71 dX2_joinedFrom_45 rfl rfl) <| z_cons (ok_pop dX2_joinedFrom_48 rfl rfl) <| z_cons (ok_aload_n dX2_joinedFrom_49 rfl rfl) <| z_cons (ok_ldc qw_54 dX2_joinedFrom_50 rfl rfl) <| z_cons (ok_iload dX2_joinedFrom_52 rfl rfl) <| z_cons (ok_callS (k := 15) (n := 1) qw_41 qw_42 ⟨by decide +kernel, by decide +kernel, by decide +kernel⟩ (Nat.le_of_ble_eq_true rfl) qw_44 qw_43 dX2_joinedFrom_54 rfl rfl) <| z_cons (ok_iconst (by decide) dX2_joinedFrom_57 rfl rfl) <| z_cons (ok_isub dX2_joinedFrom_58 rfl rfl) <| z_cons (ok_bipush (by decide) dX2_joinedFrom_59 rfl rfl) <| z_cons (ok_ishl dX2_joinedFrom_61 rfl rfl) <| z_cons (ok_ior dX2_joinedFrom_62 rfl rfl) <| z_cons (ok_iload dX2_joinedFrom_63 rfl rfl) <| z_cons (ok_callS (k := 16) (n := 1) qw_45 qw_42 ⟨by decide +kernel, by decide +kernel, by decide +kernel⟩ (Nat.le_of_ble_eq_true rfl) qw_47 qw_46 dX2_joinedFrom_65 rfl rfl) <| z_cons (ok_iconst (by decide) dX2_joinedFrom_68 rfl rfl) <| z_cons (ok_ishr dX2_joinedFrom_69 rfl rfl) <| zl_X2_joinedFrom_1
theorem dX2_endsInEmptyPair_0 : decode cX2_endsInEmptyPair 0 = .ok (.aload_n 0, 1) := by decide +kernel
theorem dX2_endsInEmptyPair_1 : decode cX2_endsInEmptyPair 1 = .ok (.aload_n 0, 1) := by decide +kernel
theorem dX2_endsInEmptyPair_2 : decode cX2_endsInEmptyPair 2 = .ok (.getfield 23, 3) := by decide +kernel
theorem dX2_endsInEmptyPair_5 : decode cX2_endsInEmptyPair 5 = .ok (.iconst 2, 1) := by decide +kernel
theorem dX2_endsInEmptyPair_6 : decode cX2_endsInEmptyPair 6 = .ok (.isub, 1) := by decide +kernel
theorem dX2_endsInEmptyPair_7 : decode cX2_endsInEmptyPair 7 = .ok (.invokevirtual 27, 3) := by decide +kernel
theorem dX2_endsInEmptyPair_10 : decode cX2_endsInEmptyPair 10 = .ok (.istore_n 1, 1) := by decide +kernel
theorem dX2_endsInEmptyPair_11 : decode cX2_endsInEmptyPair 11 = .ok (.aload_n 0, 1) := by decide +kernel
theorem dX2_endsInEmptyPair_12 : decode cX2_endsInEmptyPair 12 = .ok (.aload_n 0, 1) := by decide +kernel
theorem dX2_endsInEmptyPair_13 : decode cX2_endsInEmptyPair 13 = .ok (.getfield 23, 3) := by decide +kernel
theorem dX2_endsInEmptyPair_16 : decode cX2_endsInEmptyPair 16 = .ok (.iconst 1, 1) := by decide +kernel
theorem dX2_endsInEmptyPair_17 : decode cX2_endsInEmptyPair 17 = .ok (.isub, 1) := by decide +kernel
theorem dX2_endsInEmptyPair_18 : decode cX2_endsInEmptyPair 18 = .ok (.invokevirtual 27, 3) := by decide +kernel
theorem dX2_endsInEmptyPair_21 : decode cX2_endsInEmptyPair 21 = .ok (.istore_n 2, 1) := by decide +kernel
theorem dX2_endsInEmptyPair_22 : decode cX2_endsInEmptyPair 22 = .ok (.iload_n 1, 1) := by decide +kernel
theorem dX2_endsInEmptyPair_23 : decode cX2_endsInEmptyPair 23 = .ok (.iconst (-1), 1) := by decide +kernel
theorem dX2_endsInEmptyPair_24 : decode cX2_endsInEmptyPair 24 = .ok (.if_icmp .eq 22, 3) := by decide +kernel
theorem dX2_endsInEmptyPair_27 : decode cX2_endsInEmptyPair 27 = .ok (.iload_n 2, 1) := by decide +kernel
theorem dX2_endsInEmptyPair_28 : decode cX2_endsInEmptyPair 28 = .ok (.iconst (-1), 1) := by decide +kernel
theorem dX2_endsInEmptyPair_29 : decode cX2_endsInEmptyPair 29 = .ok (.if_icmp .eq 17, 3) := by decide +kernel
theorem dX2_endsInEmptyPair_32 : decode cX2_endsInEmptyPair 32 = .ok (.iload_n 2, 1) := by decide +kernel
theorem dX2_endsInEmptyPair_33 : decode cX2_endsInEmptyPair 33 = .ok (.invokestatic 16, 3) := by decide +kernel
theorem dX2_endsInEmptyPair_36 : decode cX2_endsInEmptyPair 36 = .ok (.ifCond .eq 10, 3) := by decide +kernel
theorem dX2_endsInEmptyPair_39 : decode cX2_endsInEmptyPair 39 = .ok (.iload_n 1, 1) := by decide +kernel
theorem dX2_endsInEmptyPair_40 : decode cX2_endsInEmptyPair 40 = .ok (.ldc 30, 2) := by decide +kernel
theorem dX2_endsInEmptyPair_42 : decode cX2_endsInEmptyPair 42 = .ok (.iand, 1) := by decide +kernel
theorem dX2_endsInEmptyPair_43 : decode cX2_endsInEmptyPair 43 = .ok (.ifCond .ne 5, 3) := by decide +kernel
theorem dX2_endsInEmptyPair_46 : decode cX2_endsInEmptyPair 46 = .ok (.iconst 0, 1) := by decide +kernel
theorem dX2_endsInEmptyPair_47 : decode cX2_endsInEmptyPair 47 = .ok (.ireturn, 1) := by decide +kernel
theorem dX2_endsInEmptyPair_48 : decode cX2_endsInEmptyPair 48 = .ok (.iload_n 2, 1) := by decide +kernel
theorem dX2_endsInEmptyPair_49 : decode cX2_endsInEmptyPair 49 = .ok (.iconst 1, 1) := by decide +kernel
theorem dX2_endsInEmptyPair_50 : decode cX2_endsInEmptyPair 50 = .ok (.iand, 1) := by decide +kernel
theorem dX2_endsInEmptyPair_51 : decode cX2_endsInEmptyPair 51 = .ok (.iconst 1, 1) := by decide +kernel
theorem dX2_endsInEmptyPair_52 : decode cX2_endsInEmptyPair 52 = .ok (.if_icmp .ne 14, 3) := by decide +kernel
theorem dX2_endsInEmptyPair_55 : decode cX2_endsInEmptyPair 55 = .ok (.iload_n 1, 1) := by decide +kernel
theorem dX2_endsInEmptyPair_56 : decode cX2_endsInEmptyPair 56 = .ok (.iload_n 2, 1) := by decide +kernel
theorem dX2_endsInEmptyPair_57 : decode cX2_endsInEmptyPair 57 = .ok (.iconst 1, 1) := by decide +kernel
theorem dX2_endsInEmptyPair_58 : decode cX2_endsInEmptyPair 58 = .ok (.isub, 1) := by decide +kernel
theorem dX2_endsInEmptyPair_59 : decode cX2_endsInEmptyPair 59 = .ok (.if_icmp .ne 7, 3) := by decide +kernel
theorem dX2_endsInEmptyPair_62 : decode cX2_endsInEmptyPair 62 = .ok (.iconst 1, 1) := by decide +kernel
theorem dX2_endsInEmptyPair_63 : decode cX2_endsInEmptyPair 63 = .ok (.goto 4, 3) := by decide +kernel
theorem dX2_endsInEmptyPair_66 : decode cX2_endsInEmptyPair 66 = .ok (.iconst 0, 1) := by decide +kernel
theorem dX2_endsInEmptyPair_67 : decode cX2_endsInEmptyPair 67 = .ok (.ireturn, 1) := by decide +kernel
set_option maxRecDepth 20000 in
theorem zl_X2_endsInEmptyPair_1 : z_All z_tab cX2_endsInEmptyPair 3 (some .boolean) RX2 pc_X2_endsInEmptyPair 40 (k_X2_endsInEmptyPair.drop 40) := z_cons (ok_goto (tgt := 67) (by decide) rfl dX2_endsInEmptyPair_63 rfl) <| z_cons (ok_iconst (by decide) dX2_endsInEmptyPair_66 rfl rfl) <| z_cons (ok_zret rfl dX2_endsInEmptyPair_67 rfl) <| z_nil
set_option maxRecDepth 20000 in
theorem zl_X2_endsInEmptyPair_0 : z_All z_tab cX2_endsInEmptyPair 3 (some .boolean) RX2 pc_X2_endsInEmptyPair 0 (k_X2_endsInEmptyPair.drop 0) := z_cons (ok_aload_n dX2_endsInEmptyPair_0 rfl rfl) <| z_cons (ok_aload_n dX2_endsInEmptyPair_1 rfl rfl) <| z_cons (ok_get ⟨by decide, by decide, by decide⟩ (ci := 2) (T := TX2) rfl rfl (Nat.le_of_ble_eq_true rfl) iw_X2 qw_48 gv_3_1 dX2_endsInEmptyPair_2 rfl rfl) <| z_cons (ok_iconst (by decide) dX2_endsInEmptyPair_5 rfl rfl) <| z_cons (ok_isub dX2_endsInEmptyPair_6 rfl rfl) <| z_cons (ok_callv ⟨by decide, by decide, by decide⟩ (ci := 2) (C := RX2) (T := TX2) rfl go_3 (k := 22) (n := 1) qw_50 qw_42 ⟨by decide +kernel, by decide +kernel, by decide +kernel⟩ (Nat.le_of_ble_eq_true rfl) qw_51 qw_52 qw_53 dX2_endsInEmptyPair_7 rfl rfl) <| z_cons (ok_istore_n (Nat.le_of_ble_eq_true rfl) dX2_endsInEmptyPair_10 rfl rfl) <| z_cons (ok_aload_n dX2_endsInEmptyPair_11 rfl rfl) <| z_cons (ok_aload_n dX2_endsInEmptyPair_12 rfl rfl) <| z_cons (ok_get ⟨by decide, by decide, by decide⟩ (ci := 2) (T := TX2) rfl rfl (Nat.le_of_ble_eq_true rfl) iw_X2 qw_48 gv_3_1 dX2_endsInEmptyPair_13 rfl rfl) <| z_cons (ok_iconst (by decide) dX2_endsInEmptyPair_16 rfl rfl) <| z_cons (ok_isub dX2_endsInEmptyPair_17 rfl rfl) <| z_cons (ok_callv ⟨by decide, by decide, by decide⟩ (ci := 2) (C := RX2) (T := TX2) rfl go_3 (k := 22) (n := 1) qw_50 qw_42 ⟨by decide +kernel, by decide +kernel, by decide +kernel⟩ (Nat.le_of_ble_eq_true rfl) qw_51 qw_52 qw_53 dX2_endsInEmptyPair_18 rfl rfl) <| z_cons (ok_istore_n (Nat.le_of_ble_eq_true rfl) dX2_endsInEmptyPair_21 rfl rfl) <| z_cons (ok_iload_n dX2_endsInEmptyPair_22 rfl rfl) <| z_cons (ok_iconst (by decide) dX2_endsInEmptyPair_23 rfl rfl) <| z_cons (ok_icmp_eq (tgt := 46) (by decide) rfl dX2_endsInEmptyPair_24 rfl rfl) <| z_cons (ok_iload_n dX2_endsInEmptyPair_27 rfl rfl) <| z_cons (ok_iconst (by decide) dX2_endsInEmptyPair_28 rfl rfl) <| z_cons (ok_icmp_eq (tgt := 46) (by decide) rfl dX2_endsInEmptyPair_29 rfl rfl) <| z_cons (ok_iload_n dX2_endsInEmptyPair_32 rfl rfl) <| z_cons (ok_callS (k := 15) (n := 1) qw_41 qw_42 ⟨by decide +kernel, by decide +kernel, by decide +kernel⟩ (Nat.le_of_ble_eq_true rfl) qw_44 qw_43 dX2_endsInEmptyPair_33 rfl rfl) <| z_cons (ok_if_eq (tgt := 46) (by decide) rfl dX2_endsInEmptyPair_36 rfl rfl) <| z_cons (ok_iload_n dX2_endsInEmptyPair_39 rfl rfl) <| z_cons (ok_ldc qw_54 dX2_endsInEmptyPair_40 rfl rfl) <| z_cons (ok_iand dX2_endsInEmptyPair_42 rfl rfl) <| z_cons (ok_if_ne (tgt := 48) (by decide) rfl dX2_endsInEmptyPair_43 rfl rfl) <| z_cons (ok_iconst (by decide) dX2_endsInEmptyPair_46 rfl rfl) <| z_cons (ok_zret rfl dX2_endsInEmptyPair_47 rfl) <| z_cons (ok_iload_n dX2_endsInEmptyPair_48 rfl rfl) <| z_cons (ok_iconst (by decide) dX2_endsInEmptyPair_49 rfl rfl) <| z_cons (ok_iand dX2_endsInEmptyPair_50 rfl rfl) <| z_cons (ok_iconst (by decide) dX2_endsInEmptyPair_51 rfl rfl) <| z_cons (ok_icmp_ne (tgt := 66) (by decide) rfl dX2_endsInEmptyPair_52 rfl rfl) <| z_cons (ok_iload_n dX2_endsInEmptyPair_55 rfl rfl) <| z_cons (ok_iload_n dX2_endsInEmptyPair_56 rfl rfl) <| z_cons (ok_iconst (by decide) dX2_endsInEmptyPair_57 rfl rfl) <| z_cons (ok_isub dX2_endsInEmptyPair_58 rfl rfl) <| z_cons (ok_icmp_ne (tgt := 66) (by decide) rfl dX2_endsInEmptyPair_59 rfl rfl) <| z_cons (ok_iconst (by decide) dX2_endsInEmptyPair_62 rfl rfl) <| zl_X2_endsInEmptyPair_1
theorem dX2_copyFrom_0 : decode cX2_copyFrom 0 = .ok (.aload_n 0, 1) := by decide +kernel
theorem dX2_copyFrom_1 : decode cX2_copyFrom 1 = .ok (.aload_n 1, 1) := by decide +kernel
theorem dX2_copyFrom_2 : decode cX2_copyFrom 2 = .ok (.getfield 23, 3) := by decide +kernel
theorem dX2_copyFrom_5 : decode cX2_copyFrom 5 = .ok (.putfield 23, 3) := by decide +kernel
theorem dX2_copyFrom_8 : decode cX2_copyFrom 8 = .ok (.aload_n 1, 1) := by decide +kernel
theorem dX2_copyFrom_9 : decode cX2_copyFrom 9 = .ok (.getfield 11, 3) := by decide +kernel
theorem dX2_copyFrom_12 : decode cX2_copyFrom 12 = .ok (.iconst 0, 1) := by decide +kernel
theorem dX2_copyFrom_13 : decode cX2_copyFrom 13 = .ok (.aload_n 0, 1) := by decide +kernel
theorem dX2_copyFrom_14 : decode cX2_copyFrom 14 = .ok (.getfield 11, 3) := by decide +kernel
theorem dX2_copyFrom_17 : decode cX2_copyFrom 17 = .ok (.iconst 0, 1) := by decide +kernel
theorem dX2_copyFrom_18 : decode cX2_copyFrom 18 = .ok (.sipush 512, 3) := by decide +kernel
theorem dX2_copyFrom_21 : decode cX2_copyFrom 21 = .ok (.invokestatic 47, 3) := by decide +kernel
theorem dX2_copyFrom_24 : decode cX2_copyFrom 24 = .ok (.return_, 1) := by decide +kernel
set_option maxRecDepth 20000 in
theorem zl_X2_copyFrom_0 : z_All z_tab cX2_copyFrom 2 none RX2 pc_X2_copyFrom 0 (k_X2_copyFrom.drop 0) := z_cons (ok_aload_n dX2_copyFrom_0 rfl rfl) <| z_cons (ok_aload_n dX2_copyFrom_1 rfl rfl) <| z_cons (ok_get ⟨by decide, by decide, by decide⟩ (ci := 2) (T := TX2) rfl rfl (Nat.le_of_ble_eq_true rfl) iw_X2 qw_48 gv_3_1 dX2_copyFrom_2 rfl rfl) <| z_cons (ok_put ⟨by decide, by decide, by decide⟩ (ci := 2) (T := TX2) rfl rfl (Nat.le_of_ble_eq_true rfl) iw_X2 qw_48 tyX2_ok nmX2 rfl pv_3_1 rfl dX2_copyFrom_5 rfl rfl) <| z_cons (ok_aload_n dX2_copyFrom_8 rfl rfl) <| z_cons (ok_getr (k := 0) ⟨by decide, by decide, by decide⟩ (ci := 2) (T := TX2) rfl rfl (Nat.le_of_ble_eq_true rfl) iw_X2 qw_49 gr_3_0 (fun _ _ => by simp) (fun w i => List.mem_of_getElem? (i := 0) rfl) dX2_copyFrom_9 rfl rfl) <| z_cons (ok_iconst (by decide) dX2_copyFrom_12 rfl rfl) <| z_cons (ok_aload_n dX2_copyFrom_13 rfl rfl) <| z_cons (ok_getr (k := 0) ⟨by decide, by decide, by decide⟩ (ci := 2) (T := TX2) rfl rfl (Nat.le_of_ble_eq_true rfl) iw_X2 qw_49 gr_3_0 (fun _ _ => by simp) (fun w i => List.mem_of_getElem? (i := 0) rfl) dX2_copyFrom_14 rfl rfl) <| z_cons (ok_iconst (by decide) dX2_copyFrom_17 rfl rfl) <| z_cons (ok_sipush (by decide) dX2_copyFrom_18 rfl rfl) <| z_cons (ok_copy rfl (by decide) (by decide) qw_72 qw_37 qw_38 qw_39 dX2_copyFrom_21 rfl rfl) <| z_cons (ok_ret rfl dX2_copyFrom_24 rfl) <| z_nil
theorem dX3_isFree_0 : decode cX3_isFree 0 = .ok (.aload_n 0, 1) := by decide +kernel
theorem dX3_isFree_1 : decode cX3_isFree 1 = .ok (.getfield 49, 3) := by decide +kernel
theorem dX3_isFree_4 : decode cX3_isFree 4 = .ok (.ifCond .eq 14, 3) := by decide +kernel
theorem dX3_isFree_7 : decode cX3_isFree 7 = .ok (.aload_n 0, 1) := by decide +kernel
theorem dX3_isFree_8 : decode cX3_isFree 8 = .ok (.getfield 53, 3) := by decide +kernel
theorem dX3_isFree_11 : decode cX3_isFree 11 = .ok (.ifCond .ne 7, 3) := by decide +kernel
theorem dX3_isFree_14 : decode cX3_isFree 14 = .ok (.iconst 1, 1) := by decide +kernel
theorem dX3_isFree_15 : decode cX3_isFree 15 = .ok (.goto 4, 3) := by decide +kernel
theorem dX3_isFree_18 : decode cX3_isFree 18 = .ok (.iconst 0, 1) := by decide +kernel
theorem dX3_isFree_19 : decode cX3_isFree 19 = .ok (.ireturn, 1) := by decide +kernel
set_option maxRecDepth 20000 in
theorem zl_X3_isFree_0 : z_All z_tab cX3_isFree 1 (some .boolean) RX3 pc_X3_isFree 0 (k_X3_isFree.drop 0) := z_cons (ok_aload_n dX3_isFree_0 rfl rfl) <| z_cons (ok_get ⟨by decide, by decide, by decide⟩ (ci := 3) (T := TX3) rfl rfl (Nat.le_of_ble_eq_true rfl) iw_X3 qw_73 gv_4_0 dX3_isFree_1 rfl rfl) <| z_cons (ok_if_eq (tgt := 18) (by decide) rfl dX3_isFree_4 rfl rfl) <| z_cons (ok_aload_n dX3_isFree_7 rfl rfl) <| z_cons (ok_get ⟨by decide, by decide, by decide⟩ (ci := 3) (T := TX3) rfl rfl (Nat.le_of_ble_eq_true rfl) iw_X3 qw_74 gv_4_1 dX3_isFree_8 rfl rfl) <| z_cons (ok_if_ne (tgt := 18) (by decide) rfl dX3_isFree_11 rfl rfl) <| z_cons (ok_iconst (by decide) dX3_isFree_14 rfl rfl) <| z_cons (ok_goto (tgt := 19) (by decide) rfl dX3_isFree_15 rfl) <| z_cons (ok_iconst (by decide) dX3_isFree_18 rfl rfl) <| z_cons (ok_zret rfl dX3_isFree_19 rfl) <| z_nil
theorem dX3_hasSlots_0 : decode cX3_hasSlots 0 = .ok (.aload_n 0, 1) := by decide +kernel
theorem dX3_hasSlots_1 : decode cX3_hasSlots 1 = .ok (.getfield 56, 3) := by decide +kernel
theorem dX3_hasSlots_4 : decode cX3_hasSlots 4 = .ok (.ifCond .eq 11, 3) := by decide +kernel
theorem dX3_hasSlots_7 : decode cX3_hasSlots 7 = .ok (.aload_n 0, 1) := by decide +kernel
theorem dX3_hasSlots_8 : decode cX3_hasSlots 8 = .ok (.getfield 56, 3) := by decide +kernel
theorem dX3_hasSlots_11 : decode cX3_hasSlots 11 = .ok (.iconst 2, 1) := by decide +kernel
theorem dX3_hasSlots_12 : decode cX3_hasSlots 12 = .ok (.if_icmp .ne 7, 3) := by decide +kernel
theorem dX3_hasSlots_15 : decode cX3_hasSlots 15 = .ok (.iconst 1, 1) := by decide +kernel
theorem dX3_hasSlots_16 : decode cX3_hasSlots 16 = .ok (.goto 4, 3) := by decide +kernel
theorem dX3_hasSlots_19 : decode cX3_hasSlots 19 = .ok (.iconst 0, 1) := by decide +kernel
theorem dX3_hasSlots_20 : decode cX3_hasSlots 20 = .ok (.ireturn, 1) := by decide +kernel
set_option maxRecDepth 20000 in
theorem zl_X3_hasSlots_0 : z_All z_tab cX3_hasSlots 1 (some .boolean) RX3 pc_X3_hasSlots 0 (k_X3_hasSlots.drop 0) := z_cons (ok_aload_n dX3_hasSlots_0 rfl rfl) <| z_cons (ok_get ⟨by decide, by decide, by decide⟩ (ci := 3) (T := TX3) rfl rfl (Nat.le_of_ble_eq_true rfl) iw_X3 qw_75 gv_4_8 dX3_hasSlots_1 rfl rfl) <| z_cons (ok_if_eq (tgt := 15) (by decide) rfl dX3_hasSlots_4 rfl rfl) <| z_cons (ok_aload_n dX3_hasSlots_7 rfl rfl) <| z_cons (ok_get ⟨by decide, by decide, by decide⟩ (ci := 3) (T := TX3) rfl rfl (Nat.le_of_ble_eq_true rfl) iw_X3 qw_75 gv_4_8 dX3_hasSlots_8 rfl rfl) <| z_cons (ok_iconst (by decide) dX3_hasSlots_11 rfl rfl) <| z_cons (ok_icmp_ne (tgt := 19) (by decide) rfl dX3_hasSlots_12 rfl rfl) <| z_cons (ok_iconst (by decide) dX3_hasSlots_15 rfl rfl) <| z_cons (ok_goto (tgt := 20) (by decide) rfl dX3_hasSlots_16 rfl) <| z_cons (ok_iconst (by decide) dX3_hasSlots_19 rfl rfl) <| z_cons (ok_zret rfl dX3_hasSlots_20 rfl) <| z_nil
theorem dX3_qByQf_0 : decode cX3_qByQf 0 = .ok (.aload_n 0, 1) := by decide +kernel
theorem dX3_qByQf_1 : decode cX3_qByQf 1 = .ok (.getfield 9, 3) := by decide +kernel
theorem dX3_qByQf_4 : decode cX3_qByQf 4 = .ok (.iconst 4, 1) := by decide +kernel
theorem dX3_qByQf_5 : decode cX3_qByQf 5 = .ok (.iadd, 1) := by decide +kernel
theorem dX3_qByQf_6 : decode cX3_qByQf 6 = .ok (.bipush 8, 2) := by decide +kernel
theorem dX3_qByQf_8 : decode cX3_qByQf 8 = .ok (.idiv, 1) := by decide +kernel
theorem dX3_qByQf_9 : decode cX3_qByQf 9 = .ok (.ireturn, 1) := by decide +kernel
set_option maxRecDepth 20000 in
theorem zl_X3_qByQf_0 : z_All z_tab cX3_qByQf 1 (some .int) RX3 pc_X3_qByQf 0 (k_X3_qByQf.drop 0) := z_cons (ok_aload_n dX3_qByQf_0 rfl rfl) <| z_cons (ok_get ⟨by decide, by decide, by decide⟩ (ci := 3) (T := TX3) rfl rfl (Nat.le_of_ble_eq_true rfl) iw_X3 qw_76 gv_4_2 dX3_qByQf_1 rfl rfl) <| z_cons (ok_iconst (by decide) dX3_qByQf_4 rfl rfl) <| z_cons (ok_iadd dX3_qByQf_5 rfl rfl) <| z_cons (ok_bipush (by decide) dX3_qByQf_6 rfl rfl) <| z_cons (ok_idiv dX3_qByQf_8 rfl rfl) <| z_cons (ok_iret rfl dX3_qByQf_9 rfl) <| z_nil
