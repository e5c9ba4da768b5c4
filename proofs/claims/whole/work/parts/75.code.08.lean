theorem dX10_means_0 : decode cX10_means 0 = .ok (.iconst 0, 1) := by decide +kernel
theorem dX10_means_1 : decode cX10_means 1 = .ok (.istore 5, 2) := by decide +kernel
theorem dX10_means_3 : decode cX10_means 3 = .ok (.iconst 0, 1) := by decide +kernel
theorem dX10_means_4 : decode cX10_means 4 = .ok (.istore 6, 2) := by decide +kernel
theorem dX10_means_6 : decode cX10_means 6 = .ok (.iload 6, 2) := by decide +kernel
theorem dX10_means_8 : decode cX10_means 8 = .ok (.bipush 24, 2) := by decide +kernel
theorem dX10_means_10 : decode cX10_means 10 = .ok (.if_icmp .ge 47, 3) := by decide +kernel
theorem dX10_means_13 : decode cX10_means 13 = .ok (.aload_n 0, 1) := by decide +kernel
theorem dX10_means_14 : decode cX10_means 14 = .ok (.getfield 20, 3) := by decide +kernel
theorem dX10_means_17 : decode cX10_means 17 = .ok (.iload 6, 2) := by decide +kernel
theorem dX10_means_19 : decode cX10_means 19 = .ok (.aload_n 0, 1) := by decide +kernel
theorem dX10_means_20 : decode cX10_means 20 = .ok (.iload_n 1, 1) := by decide +kernel
theorem dX10_means_21 : decode cX10_means 21 = .ok (.iload_n 2, 1) := by decide +kernel
theorem dX10_means_22 : decode cX10_means 22 = .ok (.iload_n 3, 1) := by decide +kernel
theorem dX10_means_23 : decode cX10_means 23 = .ok (.iload 4, 2) := by decide +kernel
theorem dX10_means_25 : decode cX10_means 25 = .ok (.iload 6, 2) := by decide +kernel
theorem dX10_means_27 : decode cX10_means 27 = .ok (.invokevirtual 109, 3) := by decide +kernel
theorem dX10_means_30 : decode cX10_means 30 = .ok (.bastore, 1) := by decide +kernel
theorem dX10_means_31 : decode cX10_means 31 = .ok (.iload 5, 2) := by decide +kernel
theorem dX10_means_33 : decode cX10_means 33 = .ok (.aload_n 0, 1) := by decide +kernel
theorem dX10_means_34 : decode cX10_means 34 = .ok (.getfield 20, 3) := by decide +kernel
theorem dX10_means_37 : decode cX10_means 37 = .ok (.iload 6, 2) := by decide +kernel
theorem dX10_means_39 : decode cX10_means 39 = .ok (.baload, 1) := by decide +kernel
theorem dX10_means_40 : decode cX10_means 40 = .ok (.ifCond .eq 7, 3) := by decide +kernel
theorem dX10_means_43 : decode cX10_means 43 = .ok (.iconst 1, 1) := by decide +kernel
theorem dX10_means_44 : decode cX10_means 44 = .ok (.goto 4, 3) := by decide +kernel
theorem dX10_means_47 : decode cX10_means 47 = .ok (.iconst 0, 1) := by decide +kernel
theorem dX10_means_48 : decode cX10_means 48 = .ok (.iadd, 1) := by decide +kernel
theorem dX10_means_49 : decode cX10_means 49 = .ok (.istore 5, 2) := by decide +kernel
theorem dX10_means_51 : decode cX10_means 51 = .ok (.iinc 6 1, 3) := by decide +kernel
theorem dX10_means_54 : decode cX10_means 54 = .ok (.goto (-48), 3) := by decide +kernel
theorem dX10_means_57 : decode cX10_means 57 = .ok (.iload 5, 2) := by decide +kernel
theorem dX10_means_59 : decode cX10_means 59 = .ok (.ireturn, 1) := by decide +kernel
set_option maxRecDepth 20000 in
theorem zl_X10_means_0 : z_All z_tab cX10_means 7 (some .int) RX10 pc_X10_means 0 (k_X10_means.drop 0) := z_cons (ok_iconst (by decide) dX10_means_0 rfl rfl) <| z_cons (ok_istore (Nat.le_of_ble_eq_true rfl) dX10_means_1 rfl rfl) <| z_cons (ok_iconst (by decide) dX10_means_3 rfl rfl) <| z_cons (ok_istore (Nat.le_of_ble_eq_true rfl) dX10_means_4 rfl rfl) <| z_cons (ok_iload dX10_means_6 rfl rfl) <| z_cons (ok_bipush (by decide) dX10_means_8 rfl rfl) <| z_cons (ok_icmp_ge (tgt := 57) (by decide) rfl dX10_means_10 rfl rfl) <| z_cons (ok_aload_n dX10_means_13 rfl rfl) <| z_cons (ok_getr (k := 4) ⟨by decide, by decide, by decide⟩ (ci := 8) (T := TX10) rfl rfl (Nat.le_of_ble_eq_true rfl) iw_X10 qw_707 gr_11_4 (fun _ _ => by simp) (fun w i => List.mem_of_getElem? (i := 3) rfl) dX10_means_14 rfl rfl) <| z_cons (ok_iload dX10_means_17 rfl rfl) <| z_cons (ok_aload_n dX10_means_19 rfl rfl) <| z_cons (ok_iload_n dX10_means_20 rfl rfl) <| z_cons (ok_iload_n dX10_means_21 rfl rfl) <| z_cons (ok_iload_n dX10_means_22 rfl rfl) <| z_cons (ok_iload dX10_means_23 rfl rfl) <| z_cons (ok_iload dX10_means_25 rfl rfl) <| z_cons (ok_callv ⟨by decide, by decide, by decide⟩ (ci := 8) (C := RX10) (T := TX10) rfl go_11 (k := 199) (n := 5) qw_708 qw_618 ⟨by decide +kernel, by decide +kernel, by decide +kernel⟩ (Nat.le_of_ble_eq_true rfl) qw_709 qw_710 qw_711 dX10_means_27 rfl rfl) <| z_cons (ok_zast dX10_means_30 rfl rfl) <| z_cons (ok_iload dX10_means_31 rfl rfl) <| z_cons (ok_aload_n dX10_means_33 rfl rfl) <| z_cons (ok_getr (k := 4) ⟨by decide, by decide, by decide⟩ (ci := 8) (T := TX10) rfl rfl (Nat.le_of_ble_eq_true rfl) iw_X10 qw_707 gr_11_4 (fun _ _ => by simp) (fun w i => List.mem_of_getElem? (i := 3) rfl) dX10_means_34 rfl rfl) <| z_cons (ok_iload dX10_means_37 rfl rfl) <| z_cons (ok_zald dX10_means_39 rfl rfl) <| z_cons (ok_if_eq (tgt := 47) (by decide) rfl dX10_means_40 rfl rfl) <| z_cons (ok_iconst (by decide) dX10_means_43 rfl rfl) <| z_cons (ok_goto (tgt := 48) (by decide) rfl dX10_means_44 rfl) <| z_cons (ok_iconst (by decide) dX10_means_47 rfl rfl) <| z_cons (ok_iadd dX10_means_48 rfl rfl) <| z_cons (ok_istore (Nat.le_of_ble_eq_true rfl) dX10_means_49 rfl rfl) <| z_cons (ok_iinc (by decide) (Nat.le_of_ble_eq_true rfl) dX10_means_51 rfl rfl) <| z_cons (ok_goto (tgt := 6) (by decide) rfl dX10_means_54 rfl) <| z_cons (ok_iload dX10_means_57 rfl rfl) <| z_cons (ok_iret rfl dX10_means_59 rfl) <| z_nil
theorem dX10_queriesFrom_0 : decode cX10_queriesFrom 0 = .ok (.iconst 0, 1) := by decide +kernel
theorem dX10_queriesFrom_1 : decode cX10_queriesFrom 1 = .ok (.istore_n 3, 1) := by decide +kernel
theorem dX10_queriesFrom_2 : decode cX10_queriesFrom 2 = .ok (.iconst 0, 1) := by decide +kernel
theorem dX10_queriesFrom_3 : decode cX10_queriesFrom 3 = .ok (.istore 4, 2) := by decide +kernel
theorem dX10_queriesFrom_5 : decode cX10_queriesFrom 5 = .ok (.iload 4, 2) := by decide +kernel
theorem dX10_queriesFrom_7 : decode cX10_queriesFrom 7 = .ok (.bipush 24, 2) := by decide +kernel
theorem dX10_queriesFrom_9 : decode cX10_queriesFrom 9 = .ok (.if_icmp .ge 41, 3) := by decide +kernel
theorem dX10_queriesFrom_12 : decode cX10_queriesFrom 12 = .ok (.iload_n 3, 1) := by decide +kernel
theorem dX10_queriesFrom_13 : decode cX10_queriesFrom 13 = .ok (.aload_n 0, 1) := by decide +kernel
theorem dX10_queriesFrom_14 : decode cX10_queriesFrom 14 = .ok (.getfield 20, 3) := by decide +kernel
theorem dX10_queriesFrom_17 : decode cX10_queriesFrom 17 = .ok (.iload 4, 2) := by decide +kernel
theorem dX10_queriesFrom_19 : decode cX10_queriesFrom 19 = .ok (.baload, 1) := by decide +kernel
theorem dX10_queriesFrom_20 : decode cX10_queriesFrom 20 = .ok (.ifCond .eq 21, 3) := by decide +kernel
theorem dX10_queriesFrom_23 : decode cX10_queriesFrom 23 = .ok (.aload_n 0, 1) := by decide +kernel
theorem dX10_queriesFrom_24 : decode cX10_queriesFrom 24 = .ok (.iload 4, 2) := by decide +kernel
theorem dX10_queriesFrom_26 : decode cX10_queriesFrom 26 = .ok (.invokevirtual 67, 3) := by decide +kernel
theorem dX10_queriesFrom_29 : decode cX10_queriesFrom 29 = .ok (.iload_n 1, 1) := by decide +kernel
theorem dX10_queriesFrom_30 : decode cX10_queriesFrom 30 = .ok (.iload_n 2, 1) := by decide +kernel
theorem dX10_queriesFrom_31 : decode cX10_queriesFrom 31 = .ok (.invokestatic 113, 3) := by decide +kernel
theorem dX10_queriesFrom_34 : decode cX10_queriesFrom 34 = .ok (.ifCond .eq 7, 3) := by decide +kernel
theorem dX10_queriesFrom_37 : decode cX10_queriesFrom 37 = .ok (.iconst 1, 1) := by decide +kernel
theorem dX10_queriesFrom_38 : decode cX10_queriesFrom 38 = .ok (.goto 4, 3) := by decide +kernel
theorem dX10_queriesFrom_41 : decode cX10_queriesFrom 41 = .ok (.iconst 0, 1) := by decide +kernel
theorem dX10_queriesFrom_42 : decode cX10_queriesFrom 42 = .ok (.iadd, 1) := by decide +kernel
theorem dX10_queriesFrom_43 : decode cX10_queriesFrom 43 = .ok (.istore_n 3, 1) := by decide +kernel
theorem dX10_queriesFrom_44 : decode cX10_queriesFrom 44 = .ok (.iinc 4 1, 3) := by decide +kernel
theorem dX10_queriesFrom_47 : decode cX10_queriesFrom 47 = .ok (.goto (-42), 3) := by decide +kernel
theorem dX10_queriesFrom_50 : decode cX10_queriesFrom 50 = .ok (.iload_n 3, 1) := by decide +kernel
theorem dX10_queriesFrom_51 : decode cX10_queriesFrom 51 = .ok (.iconst 2, 1) := by decide +kernel
theorem dX10_queriesFrom_52 : decode cX10_queriesFrom 52 = .ok (.if_icmp .ge 7, 3) := by decide +kernel
theorem dX10_queriesFrom_55 : decode cX10_queriesFrom 55 = .ok (.iconst 1, 1) := by decide +kernel
theorem dX10_queriesFrom_56 : decode cX10_queriesFrom 56 = .ok (.goto 28, 3) := by decide +kernel
theorem dX10_queriesFrom_59 : decode cX10_queriesFrom 59 = .ok (.iconst 1, 1) := by decide +kernel
theorem dX10_queriesFrom_60 : decode cX10_queriesFrom 60 = .ok (.aload_n 0, 1) := by decide +kernel
theorem dX10_queriesFrom_61 : decode cX10_queriesFrom 61 = .ok (.iload_n 1, 1) := by decide +kernel
theorem dX10_queriesFrom_62 : decode cX10_queriesFrom 62 = .ok (.iconst 1, 1) := by decide +kernel
theorem dX10_queriesFrom_63 : decode cX10_queriesFrom 63 = .ok (.iadd, 1) := by decide +kernel
theorem dX10_queriesFrom_64 : decode cX10_queriesFrom 64 = .ok (.iconst 2, 1) := by decide +kernel
theorem dX10_queriesFrom_65 : decode cX10_queriesFrom 65 = .ok (.iload_n 2, 1) := by decide +kernel
theorem dX10_queriesFrom_66 : decode cX10_queriesFrom 66 = .ok (.imul, 1) := by decide +kernel
theorem dX10_queriesFrom_67 : decode cX10_queriesFrom 67 = .ok (.invokevirtual 116, 3) := by decide +kernel
theorem dX10_queriesFrom_70 : decode cX10_queriesFrom 70 = .ok (.iadd, 1) := by decide +kernel
theorem dX10_queriesFrom_71 : decode cX10_queriesFrom 71 = .ok (.aload_n 0, 1) := by decide +kernel
theorem dX10_queriesFrom_72 : decode cX10_queriesFrom 72 = .ok (.iload_n 1, 1) := by decide +kernel
theorem dX10_queriesFrom_73 : decode cX10_queriesFrom 73 = .ok (.iconst 1, 1) := by decide +kernel
theorem dX10_queriesFrom_74 : decode cX10_queriesFrom 74 = .ok (.iadd, 1) := by decide +kernel
theorem dX10_queriesFrom_75 : decode cX10_queriesFrom 75 = .ok (.iconst 2, 1) := by decide +kernel
theorem dX10_queriesFrom_76 : decode cX10_queriesFrom 76 = .ok (.iload_n 2, 1) := by decide +kernel
theorem dX10_queriesFrom_77 : decode cX10_queriesFrom 77 = .ok (.imul, 1) := by decide +kernel
theorem dX10_queriesFrom_78 : decode cX10_queriesFrom 78 = .ok (.iconst 1, 1) := by decide +kernel
theorem dX10_queriesFrom_79 : decode cX10_queriesFrom 79 = .ok (.iadd, 1) := by decide +kernel
theorem dX10_queriesFrom_80 : decode cX10_queriesFrom 80 = .ok (.invokevirtual 116, 3) := by decide +kernel
theorem dX10_queriesFrom_83 : decode cX10_queriesFrom 83 = .ok (.iadd, 1) := by decide +kernel
theorem dX10_queriesFrom_84 : decode cX10_queriesFrom 84 = .ok (.ireturn, 1) := by decide +kernel
set_option maxRecDepth 20000 in
theorem zl_X10_queriesFrom_1 : z_All z_tab cX10_queriesFrom 5 (some .int) RX10 pc_X10_queriesFrom 40 (k_X10_queriesFrom.drop 40) := z_cons (ok_callv ⟨by decide, by decide, by decide⟩ (ci := 8) (C := RX10) (T := TX10) rfl go_11 (k := 202) (n := 2) qw_715 qw_618 ⟨by decide +kernel, by decide +kernel, by decide +kernel⟩ (Nat.le_of_ble_eq_true rfl) qw_716 qw_717 qw_718 dX10_queriesFrom_67 rfl rfl) <| z_cons (ok_iadd dX10_queriesFrom_70 rfl rfl) <| z_cons (ok_aload_n dX10_queriesFrom_71 rfl rfl) <| z_cons (ok_iload_n dX10_queriesFrom_72 rfl rfl) <| z_cons (ok_iconst (by decide) dX10_queriesFrom_73 rfl rfl) <| z_cons (ok_iadd dX10_queriesFrom_74 rfl rfl) <| z_cons (ok_iconst (by decide) dX10_queriesFrom_75 rfl rfl) <| z_cons (ok_iload_n dX10_queriesFrom_76 rfl rfl) <| z_cons (ok_imul dX10_queriesFrom_77 rfl rfl) <| z_cons (ok_iconst (by decide) dX10_queriesFrom_78 rfl rfl) <| z_cons (ok_iadd dX10_queriesFrom_79 rfl rfl) <| z_cons (ok_callv ⟨by decide, by decide, by decide⟩ (ci := 8) (C := RX10) (T := TX10) rfl go_11 (k := 202) (n := 2) qw_715 qw_618 ⟨by decide +kernel, by decide +kernel, by decide +kernel⟩ (Nat.le_of_ble_eq_true rfl) qw_716 qw_717 qw_718 dX10_queriesFrom_80 rfl rfl) <| z_cons (ok_iadd dX10_queriesFrom_83 rfl rfl) <| z_cons (ok_iret rfl dX10_queriesFrom_84 rfl) <| z_nil
set_option maxRecDepth 20000 in
theorem zl_X10_queriesFrom_0 : z_All z_tab cX10_queriesFrom 5 (some .int) RX10 pc_X10_queriesFrom 0 (k_X10_queriesFrom.drop 0) := z_cons (ok_iconst (by decide) dX10_queriesFrom_0 rfl rfl) <| z_cons (ok_istore_n (Nat.le_of_ble_eq_true rfl) dX10_queriesFrom_1 rfl rfl) <| z_cons (ok_iconst (by decide) dX10_queriesFrom_2 rfl rfl) <| z_cons (ok_istore (Nat.le_of_ble_eq_true rfl) dX10_queriesFrom_3 rfl rfl) <| z_cons (ok_iload dX10_queriesFrom_5 rfl rfl) <| z_cons (ok_bipush (by decide) dX10_queriesFrom_7 rfl rfl) <| z_cons (ok_icmp_ge (tgt := 50) (by decide) rfl dX10_queriesFrom_9 rfl rfl) <| z_cons (ok_iload_n dX10_queriesFrom_12 rfl rfl) <| z_cons (ok_aload_n dX10_queriesFrom_13 rfl rfl) <| z_cons (ok_getr (k := 4) ⟨by decide, by decide, by decide⟩ (ci := 8) (T := TX10) rfl rfl (Nat.le_of_ble_eq_true rfl) iw_X10 qw_707 gr_11_4 (fun _ _ => by simp) (fun w i => List.mem_of_getElem? (i := 3) rfl) dX10_queriesFrom_14 rfl rfl) <| z_cons (ok_iload dX10_queriesFrom_17 rfl rfl) <| z_cons (ok_zald dX10_queriesFrom_19 rfl rfl) <| z_cons (ok_if_eq (tgt := 41) (by decide) rfl dX10_queriesFrom_20 rfl rfl) <| z_cons (ok_aload_n dX10_queriesFrom_23 rfl rfl) <| z_cons (ok_iload dX10_queriesFrom_24 rfl rfl) <| z_cons (ok_callv ⟨by decide, by decide, by decide⟩ (ci := 8) (C := RX10) (T := TX10) rfl go_11 (k := 171) (n := 1) qw_653 qw_618 ⟨by decide +kernel, by decide +kernel, by decide +kernel⟩ (Nat.le_of_ble_eq_true rfl) qw_654 qw_655 qw_656 dX10_queriesFrom_26 rfl rfl) <| z_cons (ok_iload_n dX10_queriesFrom_29 rfl rfl) <| z_cons (ok_iload_n dX10_queriesFrom_30 rfl rfl) <| z_cons (ok_callS (k := 203) (n := 3) qw_712 qw_618 ⟨by decide +kernel, by decide +kernel, by decide +kernel⟩ (Nat.le_of_ble_eq_true rfl) qw_714 qw_713 dX10_queriesFrom_31 rfl rfl) <| z_cons (ok_if_eq (tgt := 41) (by decide) rfl dX10_queriesFrom_34 rfl rfl) <| z_cons (ok_iconst (by decide) dX10_queriesFrom_37 rfl rfl) <| z_cons (ok_goto (tgt := 42) (by decide) rfl dX10_queriesFrom_38 rfl) <| z_cons (ok_iconst (by decide) dX10_queriesFrom_41 rfl rfl) <| z_cons (ok_iadd dX10_queriesFrom_42 rfl rfl) <| z_cons (ok_istore_n (Nat.le_of_ble_eq_true rfl) dX10_queriesFrom_43 rfl rfl) <| z_cons (ok_iinc (by decide) (Nat.le_of_ble_eq_true rfl) dX10_queriesFrom_44 rfl rfl) <| z_cons (ok_goto (tgt := 5) (by decide) rfl dX10_queriesFrom_47 rfl) <| z_cons (ok_iload_n dX10_queriesFrom_50 rfl rfl) <| z_cons (ok_iconst (by decide) dX10_queriesFrom_51 rfl rfl) <| z_cons (ok_icmp_ge (tgt := 59) (by decide) rfl dX10_queriesFrom_52 rfl rfl) <| z_cons (ok_iconst (by decide) dX10_queriesFrom_55 rfl rfl) <| z_cons (ok_goto (tgt := 84) (by decide) rfl dX10_queriesFrom_56 rfl) <| z_cons (ok_iconst (by decide) dX10_queriesFrom_59 rfl rfl) <| z_cons (ok_aload_n dX10_queriesFrom_60 rfl rfl) <| z_cons (ok_iload_n dX10_queriesFrom_61 rfl rfl) <| z_cons (ok_iconst (by decide) dX10_queriesFrom_62 rfl rfl) <| z_cons (ok_iadd dX10_queriesFrom_63 rfl rfl) <| z_cons (ok_iconst (by decide) dX10_queriesFrom_64 rfl rfl) <| z_cons (ok_iload_n dX10_queriesFrom_65 rfl rfl) <| z_cons (ok_imul dX10_queriesFrom_66 rfl rfl) <| zl_X10_queriesFrom_1
theorem dX10_begins_0 : decode cX10_begins 0 = .ok (.iload_n 0, 1) := by decide +kernel
theorem dX10_begins_1 : decode cX10_begins 1 = .ok (.bipush 16, 2) := by decide +kernel
theorem dX10_begins_3 : decode cX10_begins 3 = .ok (.iload_n 1, 1) := by decide +kernel
theorem dX10_begins_4 : decode cX10_begins 4 = .ok (.isub, 1) := by decide +kernel
theorem dX10_begins_5 : decode cX10_begins 5 = .ok (.ishr, 1) := by decide +kernel
theorem dX10_begins_6 : decode cX10_begins 6 = .ok (.iload_n 2, 1) := by decide +kernel
theorem dX10_begins_7 : decode cX10_begins 7 = .ok (.if_icmp .ne 7, 3) := by decide +kernel
theorem dX10_begins_10 : decode cX10_begins 10 = .ok (.iconst 1, 1) := by decide +kernel
theorem dX10_begins_11 : decode cX10_begins 11 = .ok (.goto 4, 3) := by decide +kernel
theorem dX10_begins_14 : decode cX10_begins 14 = .ok (.iconst 0, 1) := by decide +kernel
theorem dX10_begins_15 : decode cX10_begins 15 = .ok (.ireturn, 1) := by decide +kernel
set_option maxRecDepth 20000 in
theorem zl_X10_begins_0 : z_All z_tab cX10_begins 3 (some .boolean) RX10 pc_X10_begins 0 (k_X10_begins.drop 0) := z_cons (ok_iload_n dX10_begins_0 rfl rfl) <| z_cons (ok_bipush (by decide) dX10_begins_1 rfl rfl) <| z_cons (ok_iload_n dX10_begins_3 rfl rfl) <| z_cons (ok_isub dX10_begins_4 rfl rfl) <| z_cons (ok_ishr dX10_begins_5 rfl rfl) <| z_cons (ok_iload_n dX10_begins_6 rfl rfl) <| z_cons (ok_icmp_ne (tgt := 14) (by decide) rfl dX10_begins_7 rfl rfl) <| z_cons (ok_iconst (by decide) dX10_begins_10 rfl rfl) <| z_cons (ok_goto (tgt := 15) (by decide) rfl dX10_begins_11 rfl) <| z_cons (ok_iconst (by decide) dX10_begins_14 rfl rfl) <| z_cons (ok_zret rfl dX10_begins_15 rfl) <| z_nil
theorem dX10_qOf_0 : decode cX10_qOf 0 = .ok (.aload_n 0, 1) := by decide +kernel
theorem dX10_qOf_1 : decode cX10_qOf 1 = .ok (.getfield 10, 3) := by decide +kernel
theorem dX10_qOf_4 : decode cX10_qOf 4 = .ok (.sipush 266, 3) := by decide +kernel
theorem dX10_qOf_7 : decode cX10_qOf 7 = .ok (.iload_n 1, 1) := by decide +kernel
theorem dX10_qOf_8 : decode cX10_qOf 8 = .ok (.iadd, 1) := by decide +kernel
theorem dX10_qOf_9 : decode cX10_qOf 9 = .ok (.iaload, 1) := by decide +kernel
theorem dX10_qOf_10 : decode cX10_qOf 10 = .ok (.iconst 4, 1) := by decide +kernel
theorem dX10_qOf_11 : decode cX10_qOf 11 = .ok (.iadd, 1) := by decide +kernel
theorem dX10_qOf_12 : decode cX10_qOf 12 = .ok (.bipush 8, 2) := by decide +kernel
theorem dX10_qOf_14 : decode cX10_qOf 14 = .ok (.idiv, 1) := by decide +kernel
theorem dX10_qOf_15 : decode cX10_qOf 15 = .ok (.ireturn, 1) := by decide +kernel
set_option maxRecDepth 20000 in
theorem zl_X10_qOf_0 : z_All z_tab cX10_qOf 2 (some .int) RX10 pc_X10_qOf 0 (k_X10_qOf.drop 0) := z_cons (ok_aload_n dX10_qOf_0 rfl rfl) <| z_cons (ok_getr (k := 0) ⟨by decide, by decide, by decide⟩ (ci := 8) (T := TX10) rfl rfl (Nat.le_of_ble_eq_true rfl) iw_X10 qw_616 gr_11_0 (fun _ _ => by simp) (fun w i => List.mem_of_getElem? (i := 0) rfl) dX10_qOf_1 rfl rfl) <| z_cons (ok_sipush (by decide) dX10_qOf_4 rfl rfl) <| z_cons (ok_iload_n dX10_qOf_7 rfl rfl) <| z_cons (ok_iadd dX10_qOf_8 rfl rfl) <| z_cons (ok_iald dX10_qOf_9 rfl rfl) <| z_cons (ok_iconst (by decide) dX10_qOf_10 rfl rfl) <| z_cons (ok_iadd dX10_qOf_11 rfl rfl) <| z_cons (ok_bipush (by decide) dX10_qOf_12 rfl rfl) <| z_cons (ok_idiv dX10_qOf_14 rfl rfl) <| z_cons (ok_iret rfl dX10_qOf_15 rfl) <| z_nil
theorem dX10_framesAnew_0 : decode cX10_framesAnew 0 = .ok (.aload_n 0, 1) := by decide +kernel
theorem dX10_framesAnew_1 : decode cX10_framesAnew 1 = .ok (.getfield 10, 3) := by decide +kernel
theorem dX10_framesAnew_4 : decode cX10_framesAnew 4 = .ok (.sipush 298, 3) := by decide +kernel
theorem dX10_framesAnew_7 : decode cX10_framesAnew 7 = .ok (.iload_n 1, 1) := by decide +kernel
theorem dX10_framesAnew_8 : decode cX10_framesAnew 8 = .ok (.iadd, 1) := by decide +kernel
theorem dX10_framesAnew_9 : decode cX10_framesAnew 9 = .ok (.iload_n 2, 1) := by decide +kernel
theorem dX10_framesAnew_10 : decode cX10_framesAnew 10 = .ok (.iastore, 1) := by decide +kernel
theorem dX10_framesAnew_11 : decode cX10_framesAnew 11 = .ok (.aload_n 0, 1) := by decide +kernel
theorem dX10_framesAnew_12 : decode cX10_framesAnew 12 = .ok (.getfield 10, 3) := by decide +kernel
theorem dX10_framesAnew_15 : decode cX10_framesAnew 15 = .ok (.sipush 302, 3) := by decide +kernel
theorem dX10_framesAnew_18 : decode cX10_framesAnew 18 = .ok (.iload_n 1, 1) := by decide +kernel
theorem dX10_framesAnew_19 : decode cX10_framesAnew 19 = .ok (.iadd, 1) := by decide +kernel
theorem dX10_framesAnew_20 : decode cX10_framesAnew 20 = .ok (.iconst 0, 1) := by decide +kernel
theorem dX10_framesAnew_21 : decode cX10_framesAnew 21 = .ok (.iastore, 1) := by decide +kernel
theorem dX10_framesAnew_22 : decode cX10_framesAnew 22 = .ok (.aload_n 0, 1) := by decide +kernel
theorem dX10_framesAnew_23 : decode cX10_framesAnew 23 = .ok (.getfield 10, 3) := by decide +kernel
theorem dX10_framesAnew_26 : decode cX10_framesAnew 26 = .ok (.sipush 338, 3) := by decide +kernel
theorem dX10_framesAnew_29 : decode cX10_framesAnew 29 = .ok (.iload_n 1, 1) := by decide +kernel
theorem dX10_framesAnew_30 : decode cX10_framesAnew 30 = .ok (.iadd, 1) := by decide +kernel
theorem dX10_framesAnew_31 : decode cX10_framesAnew 31 = .ok (.iconst 0, 1) := by decide +kernel
theorem dX10_framesAnew_32 : decode cX10_framesAnew 32 = .ok (.iastore, 1) := by decide +kernel
theorem dX10_framesAnew_33 : decode cX10_framesAnew 33 = .ok (.aload_n 0, 1) := by decide +kernel
theorem dX10_framesAnew_34 : decode cX10_framesAnew 34 = .ok (.getfield 10, 3) := by decide +kernel
theorem dX10_framesAnew_37 : decode cX10_framesAnew 37 = .ok (.sipush 342, 3) := by decide +kernel
theorem dX10_framesAnew_40 : decode cX10_framesAnew 40 = .ok (.iload_n 1, 1) := by decide +kernel
theorem dX10_framesAnew_41 : decode cX10_framesAnew 41 = .ok (.iadd, 1) := by decide +kernel
theorem dX10_framesAnew_42 : decode cX10_framesAnew 42 = .ok (.iconst 0, 1) := by decide +kernel
theorem dX10_framesAnew_43 : decode cX10_framesAnew 43 = .ok (.iastore, 1) := by decide +kernel
theorem dX10_framesAnew_44 : decode cX10_framesAnew 44 = .ok (.aload_n 0, 1) := by decide +kernel
theorem dX10_framesAnew_45 : decode cX10_framesAnew 45 = .ok (.getfield 10, 3) := by decide +kernel
theorem dX10_framesAnew_48 : decode cX10_framesAnew 48 = .ok (.sipush 346, 3) := by decide +kernel
theorem dX10_framesAnew_51 : decode cX10_framesAnew 51 = .ok (.iload_n 1, 1) := by decide +kernel
theorem dX10_framesAnew_52 : decode cX10_framesAnew 52 = .ok (.iadd, 1) := by decide +kernel
theorem dX10_framesAnew_53 : decode cX10_framesAnew 53 = .ok (.iconst 0, 1) := by decide +kernel
theorem dX10_framesAnew_54 : decode cX10_framesAnew 54 = .ok (.iastore, 1) := by decide +kernel
theorem dX10_framesAnew_55 : decode cX10_framesAnew 55 = .ok (.aload_n 0, 1) := by decide +kernel
theorem dX10_framesAnew_56 : decode cX10_framesAnew 56 = .ok (.getfield 10, 3) := by decide +kernel
theorem dX10_framesAnew_59 : decode cX10_framesAnew 59 = .ok (.sipush 318, 3) := by decide +kernel
theorem dX10_framesAnew_62 : decode cX10_framesAnew 62 = .ok (.iload_n 1, 1) := by decide +kernel
theorem dX10_framesAnew_63 : decode cX10_framesAnew 63 = .ok (.iadd, 1) := by decide +kernel
theorem dX10_framesAnew_64 : decode cX10_framesAnew 64 = .ok (.dup2, 1) := by decide +kernel
theorem dX10_framesAnew_65 : decode cX10_framesAnew 65 = .ok (.iaload, 1) := by decide +kernel
theorem dX10_framesAnew_66 : decode cX10_framesAnew 66 = .ok (.iconst 1, 1) := by decide +kernel
theorem dX10_framesAnew_67 : decode cX10_framesAnew 67 = .ok (.iadd, 1) := by decide +kernel
theorem dX10_framesAnew_68 : decode cX10_framesAnew 68 = .ok (.iastore, 1) := by decide +kernel
theorem dX10_framesAnew_69 : decode cX10_framesAnew 69 = .ok (.aload_n 0, 1) := by decide +kernel
theorem dX10_framesAnew_70 : decode cX10_framesAnew 70 = .ok (.iconst 4, 1) := by decide +kernel
theorem dX10_framesAnew_71 : decode cX10_framesAnew 71 = .ok (.iconst 1, 1) := by decide +kernel
theorem dX10_framesAnew_72 : decode cX10_framesAnew 72 = .ok (.invokevirtual 53, 3) := by decide +kernel
theorem dX10_framesAnew_75 : decode cX10_framesAnew 75 = .ok (.iconst 0, 1) := by decide +kernel
theorem dX10_framesAnew_76 : decode cX10_framesAnew 76 = .ok (.istore_n 3, 1) := by decide +kernel
theorem dX10_framesAnew_77 : decode cX10_framesAnew 77 = .ok (.iload_n 3, 1) := by decide +kernel
theorem dX10_framesAnew_78 : decode cX10_framesAnew 78 = .ok (.bipush 24, 2) := by decide +kernel
theorem dX10_framesAnew_80 : decode cX10_framesAnew 80 = .ok (.if_icmp .ge 40, 3) := by decide +kernel
theorem dX10_framesAnew_83 : decode cX10_framesAnew 83 = .ok (.aload_n 0, 1) := by decide +kernel
theorem dX10_framesAnew_84 : decode cX10_framesAnew 84 = .ok (.getfield 10, 3) := by decide +kernel
theorem dX10_framesAnew_87 : decode cX10_framesAnew 87 = .ok (.sipush 550, 3) := by decide +kernel
theorem dX10_framesAnew_90 : decode cX10_framesAnew 90 = .ok (.iload_n 3, 1) := by decide +kernel
theorem dX10_framesAnew_91 : decode cX10_framesAnew 91 = .ok (.iadd, 1) := by decide +kernel
theorem dX10_framesAnew_92 : decode cX10_framesAnew 92 = .ok (.iaload, 1) := by decide +kernel
theorem dX10_framesAnew_93 : decode cX10_framesAnew 93 = .ok (.iload_n 1, 1) := by decide +kernel
theorem dX10_framesAnew_94 : decode cX10_framesAnew 94 = .ok (.if_icmp .ne 20, 3) := by decide +kernel
theorem dX10_framesAnew_97 : decode cX10_framesAnew 97 = .ok (.aload_n 0, 1) := by decide +kernel
theorem dX10_framesAnew_98 : decode cX10_framesAnew 98 = .ok (.getfield 10, 3) := by decide +kernel
theorem dX10_framesAnew_101 : decode cX10_framesAnew 101 = .ok (.sipush 574, 3) := by decide +kernel
theorem dX10_framesAnew_104 : decode cX10_framesAnew 104 = .ok (.iload_n 3, 1) := by decide +kernel
theorem dX10_framesAnew_105 : decode cX10_framesAnew 105 = .ok (.iadd, 1) := by decide +kernel
theorem dX10_framesAnew_106 : decode cX10_framesAnew 106 = .ok (.aload_n 0, 1) := by decide +kernel
theorem dX10_framesAnew_107 : decode cX10_framesAnew 107 = .ok (.iconst 1, 1) := by decide +kernel
theorem dX10_framesAnew_108 : decode cX10_framesAnew 108 = .ok (.iload_n 2, 1) := by decide +kernel
theorem dX10_framesAnew_109 : decode cX10_framesAnew 109 = .ok (.ishl, 1) := by decide +kernel
theorem dX10_framesAnew_110 : decode cX10_framesAnew 110 = .ok (.invokevirtual 119, 3) := by decide +kernel
theorem dX10_framesAnew_113 : decode cX10_framesAnew 113 = .ok (.iastore, 1) := by decide +kernel
theorem dX10_framesAnew_114 : decode cX10_framesAnew 114 = .ok (.iinc 3 1, 3) := by decide +kernel
theorem dX10_framesAnew_117 : decode cX10_framesAnew 117 = .ok (.goto (-40), 3) := by decide +kernel
theorem dX10_framesAnew_120 : decode cX10_framesAnew 120 = .ok (.return_, 1) := by decide +kernel
set_option maxRecDepth 20000 in
theorem zl_X10_framesAnew_1 : z_All z_tab cX10_framesAnew 4 none RX10 pc_X10_framesAnew 40 (k_X10_framesAnew.drop 40) := z_cons (ok_dup2 dX10_framesAnew_64 rfl rfl) <| z_cons (ok_iald dX10_framesAnew_65 rfl rfl) <| z_cons (ok_iconst (by decide) dX10_framesAnew_66 rfl rfl) <| z_cons (ok_iadd dX10_framesAnew_67 rfl rfl) <| z_cons (ok_iast dX10_framesAnew_68 rfl rfl) <| z_cons (ok_aload_n dX10_framesAnew_69 rfl rfl) <| z_cons (ok_iconst (by decide) dX10_framesAnew_70 rfl rfl) <| z_cons (ok_iconst (by decide) dX10_framesAnew_71 rfl rfl) <| z_cons (ok_callv ⟨by decide, by decide, by decide⟩ (ci := 8) (C := RX10) (T := TX10) rfl go_11 (k := 168) (n := 2) qw_638 qw_618 ⟨by decide +kernel, by decide +kernel, by decide +kernel⟩ (Nat.le_of_ble_eq_true rfl) qw_639 qw_640 qw_641 dX10_framesAnew_72 rfl rfl) <| z_cons (ok_iconst (by decide) dX10_framesAnew_75 rfl rfl) <| z_cons (ok_istore_n (Nat.le_of_ble_eq_true rfl) dX10_framesAnew_76 rfl rfl) <| z_cons (ok_iload_n dX10_framesAnew_77 rfl rfl) <| z_cons (ok_bipush (by decide) dX10_framesAnew_78 rfl rfl) <| z_cons (ok_icmp_ge (tgt := 120) (by decide) rfl dX10_framesAnew_80 rfl rfl) <| z_cons (ok_aload_n dX10_framesAnew_83 rfl rfl) <| z_cons (ok_getr (k := 0) ⟨by decide, by decide, by decide⟩ (ci := 8) (T := TX10) rfl rfl (Nat.le_of_ble_eq_true rfl) iw_X10 qw_616 gr_11_0 (fun _ _ => by simp) (fun w i => List.mem_of_getElem? (i := 0) rfl) dX10_framesAnew_84 rfl rfl) <| z_cons (ok_sipush (by decide) dX10_framesAnew_87 rfl rfl) <| z_cons (ok_iload_n dX10_framesAnew_90 rfl rfl) <| z_cons (ok_iadd dX10_framesAnew_91 rfl rfl) <| z_cons (ok_iald dX10_framesAnew_92 rfl rfl) <| z_cons (ok_iload_n dX10_framesAnew_93 rfl rfl) <| z_cons (ok_icmp_ne (tgt := 114) (by decide) rfl dX10_framesAnew_94 rfl rfl) <| z_cons (ok_aload_n dX10_framesAnew_97 rfl rfl) <| z_cons (ok_getr (k := 0) ⟨by decide, by decide, by decide⟩ (ci := 8) (T := TX10) rfl rfl (Nat.le_of_ble_eq_true rfl) iw_X10 qw_616 gr_11_0 (fun _ _ => by simp) (fun w i => List.mem_of_getElem? (i := 0) rfl) dX10_framesAnew_98 rfl rfl) <| z_cons (ok_sipush (by decide) dX10_framesAnew_101 rfl rfl) <| z_cons (ok_iload_n dX10_framesAnew_104 rfl rfl) <| z_cons (ok_iadd dX10_framesAnew_105 rfl rfl) <| z_cons (ok_aload_n dX10_framesAnew_106 rfl rfl) <| z_cons (ok_iconst (by decide) dX10_framesAnew_107 rfl rfl) <| z_cons (ok_iload_n dX10_framesAnew_108 rfl rfl) <| z_cons (ok_ishl dX10_framesAnew_109 rfl rfl) <| z_cons (ok_callv ⟨by decide, by decide, by decide⟩ (ci := 8) (C := RX10) (T := TX10) rfl go_11 (k := 170) (n := 1) qw_719 qw_618 ⟨by decide +kernel, by decide +kernel, by decide +kernel⟩ (Nat.le_of_ble_eq_true rfl) qw_720 qw_721 qw_722 dX10_framesAnew_110 rfl rfl) <| z_cons (ok_iast dX10_framesAnew_113 rfl rfl) <| z_cons (ok_iinc (by decide) (Nat.le_of_ble_eq_true rfl) dX10_framesAnew_114 rfl rfl) <| z_cons (ok_goto (tgt := 77) (by decide) rfl dX10_framesAnew_117 rfl) <| z_cons (ok_ret rfl dX10_framesAnew_120 rfl) <| z_nil
set_option maxRecDepth 20000 in
theorem zl_X10_framesAnew_0 : z_All z_tab cX10_framesAnew 4 none RX10 pc_X10_framesAnew 0 (k_X10_framesAnew.drop 0) := z_cons (ok_aload_n dX10_framesAnew_0 rfl rfl) <| z_cons (ok_getr (k := 0) ⟨by decide, by decide, by decide⟩ (ci := 8) (T := TX10) rfl rfl (Nat.le_of_ble_eq_true rfl) iw_X10 qw_616 gr_11_0 (fun _ _ => by simp) (fun w i => List.mem_of_getElem? (i := 0) rfl) dX10_framesAnew_1 rfl rfl) <| z_cons (ok_sipush (by decide) dX10_framesAnew_4 rfl rfl) <| z_cons (ok_iload_n dX10_framesAnew_7 rfl rfl) <| z_cons (ok_iadd dX10_framesAnew_8 rfl rfl) <| z_cons (ok_iload_n dX10_framesAnew_9 rfl rfl) <| z_cons (ok_iast dX10_framesAnew_10 rfl rfl) <| z_cons (ok_aload_n dX10_framesAnew_11 rfl rfl) <| z_cons (ok_getr (k := 0) ⟨by decide, by decide, by decide⟩ (ci := 8) (T := TX10) rfl rfl (Nat.le_of_ble_eq_true rfl) iw_X10 qw_616 gr_11_0 (fun _ _ => by simp) (fun w i => List.mem_of_getElem? (i := 0) rfl) dX10_framesAnew_12 rfl rfl) <| z_cons (ok_sipush (by decide) dX10_framesAnew_15 rfl rfl) <| z_cons (ok_iload_n dX10_framesAnew_18 rfl rfl) <| z_cons (ok_iadd dX10_framesAnew_19 rfl rfl) <| z_cons (ok_iconst (by decide) dX10_framesAnew_20 rfl rfl) <| z_cons (ok_iast dX10_framesAnew_21 rfl rfl) <| z_cons (ok_aload_n dX10_framesAnew_22 rfl rfl) <| z_cons (ok_getr (k := 0) ⟨by decide, by decide, by decide⟩ (ci := 8) (T := TX10) rfl rfl (Nat.le_of_ble_eq_true rfl) iw_X10 qw_616 gr_11_0 (fun _ _ => by simp) (fun w i => List.mem_of_getElem? (i := 0) rfl) dX10_framesAnew_23 rfl rfl) <| z_cons (ok_sipush (by decide) dX10_framesAnew_26 rfl rfl) <| z_cons (ok_iload_n dX10_framesAnew_29 rfl rfl) <| z_cons (ok_iadd dX10_framesAnew_30 rfl rfl) <| z_cons (ok_iconst (by decide) dX10_framesAnew_31 rfl rfl) <| z_cons (ok_iast dX10_framesAnew_32 rfl rfl) <| z_cons (ok_aload_n dX10_framesAnew_33 rfl rfl) <| z_cons (ok_getr (k := 0) ⟨by decide, by decide, by decide⟩ (ci := 8) (T := TX10) rfl rfl (Nat.le_of_ble_eq_true rfl) iw_X10 qw_616 gr_11_0 (fun _ _ => by simp) (fun w i => List.mem_of_getElem? (i := 0) rfl) dX10_framesAnew_34 rfl rfl) <| z_cons (ok_sipush (by decide) dX10_framesAnew_37 rfl rfl) <| z_cons (ok_iload_n dX10_framesAnew_40 rfl rfl) <| z_cons (ok_iadd dX10_framesAnew_41 rfl rfl) <| z_cons (ok_iconst (by decide) dX10_framesAnew_42 rfl rfl) <| z_cons (ok_iast dX10_framesAnew_43 rfl rfl) <| z_cons (ok_aload_n dX10_framesAnew_44 rfl rfl) <| z_cons (ok_getr (k := 0) ⟨by decide, by decide, by decide⟩ (ci := 8) (T := TX10) rfl rfl (Nat.le_of_ble_eq_true rfl) iw_X10 qw_616 gr_11_0 (fun _ _ => by simp) (fun w i => List.mem_of_getElem? (i := 0) rfl) dX10_framesAnew_45 rfl rfl) <| z_cons (ok_sipush (by decide) dX10_framesAnew_48 rfl rfl) <| z_cons (ok_iload_n dX10_framesAnew_51 rfl rfl) <| z_cons (ok_iadd dX10_framesAnew_52 rfl rfl) <| z_cons (ok_iconst (by decide) dX10_framesAnew_53 rfl rfl) <| z_cons (ok_iast dX10_framesAnew_54 rfl rfl) <| z_cons (ok_aload_n dX10_framesAnew_55 rfl rfl) <| z_cons (ok_getr (k := 0) ⟨by decide, by decide, by decide⟩ (ci := 8) (T := TX10) rfl rfl (Nat.le_of_ble_eq_true rfl) iw_X10 qw_616 gr_11_0 (fun _ _ => by simp) (fun w i => List.mem_of_getElem? (i := 0) rfl) dX10_framesAnew_56 rfl rfl) <| z_cons (ok_sipush (by decide) dX10_framesAnew_59 rfl rfl) <| z_cons (ok_iload_n dX10_framesAnew_62 rfl rfl) <| z_cons (ok_iadd dX10_framesAnew_63 rfl rfl) <| zl_X10_framesAnew_1
theorem dX10_isTree_0 : decode cX10_isTree 0 = .ok (.aload_n 0, 1) := by decide +kernel
theorem dX10_isTree_1 : decode cX10_isTree 1 = .ok (.getfield 10, 3) := by decide +kernel
theorem dX10_isTree_4 : decode cX10_isTree 4 = .ok (.sipush 294, 3) := by decide +kernel
theorem dX10_isTree_7 : decode cX10_isTree 7 = .ok (.iload_n 1, 1) := by decide +kernel
theorem dX10_isTree_8 : decode cX10_isTree 8 = .ok (.iadd, 1) := by decide +kernel
theorem dX10_isTree_9 : decode cX10_isTree 9 = .ok (.iaload, 1) := by decide +kernel
theorem dX10_isTree_10 : decode cX10_isTree 10 = .ok (.iconst 1, 1) := by decide +kernel
theorem dX10_isTree_11 : decode cX10_isTree 11 = .ok (.iand, 1) := by decide +kernel
theorem dX10_isTree_12 : decode cX10_isTree 12 = .ok (.iconst 1, 1) := by decide +kernel
theorem dX10_isTree_13 : decode cX10_isTree 13 = .ok (.if_icmp .ne 7, 3) := by decide +kernel
theorem dX10_isTree_16 : decode cX10_isTree 16 = .ok (.iconst 1, 1) := by decide +kernel
theorem dX10_isTree_17 : decode cX10_isTree 17 = .ok (.goto 4, 3) := by decide +kernel
theorem dX10_isTree_20 : decode cX10_isTree 20 = .ok (.iconst 0, 1) := by decide +kernel
theorem dX10_isTree_21 : decode cX10_isTree 21 = .ok (.ireturn, 1) := by decide +kernel
set_option maxRecDepth 20000 in
theorem zl_X10_isTree_0 : z_All z_tab cX10_isTree 2 (some .boolean) RX10 pc_X10_isTree 0 (k_X10_isTree.drop 0) := z_cons (ok_aload_n dX10_isTree_0 rfl rfl) <| z_cons (ok_getr (k := 0) ⟨by decide, by decide, by decide⟩ (ci := 8) (T := TX10) rfl rfl (Nat.le_of_ble_eq_true rfl) iw_X10 qw_616 gr_11_0 (fun _ _ => by simp) (fun w i => List.mem_of_getElem? (i := 0) rfl) dX10_isTree_1 rfl rfl) <| z_cons (ok_sipush (by decide) dX10_isTree_4 rfl rfl) <| z_cons (ok_iload_n dX10_isTree_7 rfl rfl) <| z_cons (ok_iadd dX10_isTree_8 rfl rfl) <| z_cons (ok_iald dX10_isTree_9 rfl rfl) <| z_cons (ok_iconst (by decide) dX10_isTree_10 rfl rfl) <| z_cons (ok_iand dX10_isTree_11 rfl rfl) <| z_cons (ok_iconst (by decide) dX10_isTree_12 rfl rfl) <| z_cons (ok_icmp_ne (tgt := 20) (by decide) rfl dX10_isTree_13 rfl rfl) <| z_cons (ok_iconst (by decide) dX10_isTree_16 rfl rfl) <| z_cons (ok_goto (tgt := 21) (by decide) rfl dX10_isTree_17 rfl) <| z_cons (ok_iconst (by decide) dX10_isTree_20 rfl rfl) <| z_cons (ok_zret rfl dX10_isTree_21 rfl) <| z_nil
theorem dX10_prefixAt_0 : decode cX10_prefixAt 0 = .ok (.iload_n 0, 1) := by decide +kernel
theorem dX10_prefixAt_1 : decode cX10_prefixAt 1 = .ok (.iconst 3, 1) := by decide +kernel
theorem dX10_prefixAt_2 : decode cX10_prefixAt 2 = .ok (.sipush 900, 3) := by decide +kernel
theorem dX10_prefixAt_5 : decode cX10_prefixAt 5 = .ok (.iload_n 1, 1) := by decide +kernel
theorem dX10_prefixAt_6 : decode cX10_prefixAt 6 = .ok (.imul, 1) := by decide +kernel
theorem dX10_prefixAt_7 : decode cX10_prefixAt 7 = .ok (.iload_n 2, 1) := by decide +kernel
theorem dX10_prefixAt_8 : decode cX10_prefixAt 8 = .ok (.iadd, 1) := by decide +kernel
theorem dX10_prefixAt_9 : decode cX10_prefixAt 9 = .ok (.imul, 1) := by decide +kernel
theorem dX10_prefixAt_10 : decode cX10_prefixAt 10 = .ok (.iadd, 1) := by decide +kernel
theorem dX10_prefixAt_11 : decode cX10_prefixAt 11 = .ok (.ireturn, 1) := by decide +kernel
set_option maxRecDepth 20000 in
theorem zl_X10_prefixAt_0 : z_All z_tab cX10_prefixAt 3 (some .int) RX10 pc_X10_prefixAt 0 (k_X10_prefixAt.drop 0) := z_cons (ok_iload_n dX10_prefixAt_0 rfl rfl) <| z_cons (ok_iconst (by decide) dX10_prefixAt_1 rfl rfl) <| z_cons (ok_sipush (by decide) dX10_prefixAt_2 rfl rfl) <| z_cons (ok_iload_n dX10_prefixAt_5 rfl rfl) <| z_cons (ok_imul dX10_prefixAt_6 rfl rfl) <| z_cons (ok_iload_n dX10_prefixAt_7 rfl rfl) <| z_cons (ok_iadd dX10_prefixAt_8 rfl rfl) <| z_cons (ok_imul dX10_prefixAt_9 rfl rfl) <| z_cons (ok_iadd dX10_prefixAt_10 rfl rfl) <| z_cons (ok_iret rfl dX10_prefixAt_11 rfl) <| z_nil
theorem dX10_begin_0 : decode cX10_begin 0 = .ok (.aload_n 0, 1) := by decide +kernel
theorem dX10_begin_1 : decode cX10_begin 1 = .ok (.iload_n 1, 1) := by decide +kernel
theorem dX10_begin_2 : decode cX10_begin 2 = .ok (.invokevirtual 95, 3) := by decide +kernel
theorem dX10_begin_5 : decode cX10_begin 5 = .ok (.ifCond .eq 24, 3) := by decide +kernel
theorem dX10_begin_8 : decode cX10_begin 8 = .ok (.iload_n 1, 1) := by decide +kernel
theorem dX10_begin_9 : decode cX10_begin 9 = .ok (.iload_n 2, 1) := by decide +kernel
theorem dX10_begin_10 : decode cX10_begin 10 = .ok (.iload_n 3, 1) := by decide +kernel
theorem dX10_begin_11 : decode cX10_begin 11 = .ok (.iload 4, 2) := by decide +kernel
theorem dX10_begin_13 : decode cX10_begin 13 = .ok (.invokestatic 122, 3) := by decide +kernel
theorem dX10_begin_16 : decode cX10_begin 16 = .ok (.ifCond .eq 13, 3) := by decide +kernel
theorem dX10_begin_19 : decode cX10_begin 19 = .ok (.iload 5, 2) := by decide +kernel
theorem dX10_begin_21 : decode cX10_begin 21 = .ok (.iconst 0, 1) := by decide +kernel
theorem dX10_begin_22 : decode cX10_begin 22 = .ok (.iconst 3, 1) := by decide +kernel
theorem dX10_begin_23 : decode cX10_begin 23 = .ok (.invokestatic 32, 3) := by decide +kernel
theorem dX10_begin_26 : decode cX10_begin 26 = .ok (.ifCond .ne 5, 3) := by decide +kernel
theorem dX10_begin_29 : decode cX10_begin 29 = .ok (.iconst (-1), 1) := by decide +kernel
theorem dX10_begin_30 : decode cX10_begin 30 = .ok (.ireturn, 1) := by decide +kernel
theorem dX10_begin_31 : decode cX10_begin 31 = .ok (.aload_n 0, 1) := by decide +kernel
theorem dX10_begin_32 : decode cX10_begin 32 = .ok (.iload_n 1, 1) := by decide +kernel
theorem dX10_begin_33 : decode cX10_begin 33 = .ok (.iload_n 2, 1) := by decide +kernel
theorem dX10_begin_34 : decode cX10_begin 34 = .ok (.iload_n 3, 1) := by decide +kernel
theorem dX10_begin_35 : decode cX10_begin 35 = .ok (.iload 4, 2) := by decide +kernel
theorem dX10_begin_37 : decode cX10_begin 37 = .ok (.invokevirtual 126, 3) := by decide +kernel
theorem dX10_begin_40 : decode cX10_begin 40 = .ok (.istore 6, 2) := by decide +kernel
theorem dX10_begin_42 : decode cX10_begin 42 = .ok (.aload_n 0, 1) := by decide +kernel
theorem dX10_begin_43 : decode cX10_begin 43 = .ok (.getfield 10, 3) := by decide +kernel
theorem dX10_begin_46 : decode cX10_begin 46 = .ok (.sipush 354, 3) := by decide +kernel
theorem dX10_begin_49 : decode cX10_begin 49 = .ok (.iload_n 1, 1) := by decide +kernel
theorem dX10_begin_50 : decode cX10_begin 50 = .ok (.iadd, 1) := by decide +kernel
theorem dX10_begin_51 : decode cX10_begin 51 = .ok (.aload_n 0, 1) := by decide +kernel
theorem dX10_begin_52 : decode cX10_begin 52 = .ok (.iconst 0, 1) := by decide +kernel
theorem dX10_begin_53 : decode cX10_begin 53 = .ok (.iconst 0, 1) := by decide +kernel
theorem dX10_begin_54 : decode cX10_begin 54 = .ok (.invokevirtual 116, 3) := by decide +kernel
theorem dX10_begin_57 : decode cX10_begin 57 = .ok (.iastore, 1) := by decide +kernel
theorem dX10_begin_58 : decode cX10_begin 58 = .ok (.aload_n 0, 1) := by decide +kernel
theorem dX10_begin_59 : decode cX10_begin 59 = .ok (.getfield 10, 3) := by decide +kernel
theorem dX10_begin_62 : decode cX10_begin 62 = .ok (.sipush 350, 3) := by decide +kernel
theorem dX10_begin_65 : decode cX10_begin 65 = .ok (.iload_n 1, 1) := by decide +kernel
theorem dX10_begin_66 : decode cX10_begin 66 = .ok (.iadd, 1) := by decide +kernel
theorem dX10_begin_67 : decode cX10_begin 67 = .ok (.iconst 1, 1) := by decide +kernel
theorem dX10_begin_68 : decode cX10_begin 68 = .ok (.iastore, 1) := by decide +kernel
theorem dX10_begin_69 : decode cX10_begin 69 = .ok (.aload_n 0, 1) := by decide +kernel
theorem dX10_begin_70 : decode cX10_begin 70 = .ok (.getfield 10, 3) := by decide +kernel
theorem dX10_begin_73 : decode cX10_begin 73 = .ok (.sipush 278, 3) := by decide +kernel
theorem dX10_begin_76 : decode cX10_begin 76 = .ok (.iload_n 1, 1) := by decide +kernel
theorem dX10_begin_77 : decode cX10_begin 77 = .ok (.iadd, 1) := by decide +kernel
theorem dX10_begin_78 : decode cX10_begin 78 = .ok (.iconst 1, 1) := by decide +kernel
theorem dX10_begin_79 : decode cX10_begin 79 = .ok (.iastore, 1) := by decide +kernel
theorem dX10_begin_80 : decode cX10_begin 80 = .ok (.aload_n 0, 1) := by decide +kernel
theorem dX10_begin_81 : decode cX10_begin 81 = .ok (.getfield 10, 3) := by decide +kernel
theorem dX10_begin_84 : decode cX10_begin 84 = .ok (.sipush 282, 3) := by decide +kernel
theorem dX10_begin_87 : decode cX10_begin 87 = .ok (.iload_n 1, 1) := by decide +kernel
theorem dX10_begin_88 : decode cX10_begin 88 = .ok (.iadd, 1) := by decide +kernel
theorem dX10_begin_89 : decode cX10_begin 89 = .ok (.iload_n 2, 1) := by decide +kernel
theorem dX10_begin_90 : decode cX10_begin 90 = .ok (.iastore, 1) := by decide +kernel
theorem dX10_begin_91 : decode cX10_begin 91 = .ok (.aload_n 0, 1) := by decide +kernel
theorem dX10_begin_92 : decode cX10_begin 92 = .ok (.getfield 10, 3) := by decide +kernel
theorem dX10_begin_95 : decode cX10_begin 95 = .ok (.sipush 286, 3) := by decide +kernel
theorem dX10_begin_98 : decode cX10_begin 98 = .ok (.iload_n 1, 1) := by decide +kernel
theorem dX10_begin_99 : decode cX10_begin 99 = .ok (.iadd, 1) := by decide +kernel
theorem dX10_begin_100 : decode cX10_begin 100 = .ok (.iload_n 3, 1) := by decide +kernel
theorem dX10_begin_101 : decode cX10_begin 101 = .ok (.iastore, 1) := by decide +kernel
theorem dX10_begin_102 : decode cX10_begin 102 = .ok (.aload_n 0, 1) := by decide +kernel
theorem dX10_begin_103 : decode cX10_begin 103 = .ok (.getfield 10, 3) := by decide +kernel
theorem dX10_begin_106 : decode cX10_begin 106 = .ok (.sipush 290, 3) := by decide +kernel
theorem dX10_begin_109 : decode cX10_begin 109 = .ok (.iload_n 1, 1) := by decide +kernel
theorem dX10_begin_110 : decode cX10_begin 110 = .ok (.iadd, 1) := by decide +kernel
theorem dX10_begin_111 : decode cX10_begin 111 = .ok (.iload 4, 2) := by decide +kernel
theorem dX10_begin_113 : decode cX10_begin 113 = .ok (.iastore, 1) := by decide +kernel
theorem dX10_begin_114 : decode cX10_begin 114 = .ok (.aload_n 0, 1) := by decide +kernel
theorem dX10_begin_115 : decode cX10_begin 115 = .ok (.getfield 10, 3) := by decide +kernel
theorem dX10_begin_118 : decode cX10_begin 118 = .ok (.sipush 294, 3) := by decide +kernel
theorem dX10_begin_121 : decode cX10_begin 121 = .ok (.iload_n 1, 1) := by decide +kernel
theorem dX10_begin_122 : decode cX10_begin 122 = .ok (.iadd, 1) := by decide +kernel
theorem dX10_begin_123 : decode cX10_begin 123 = .ok (.iload 5, 2) := by decide +kernel
theorem dX10_begin_125 : decode cX10_begin 125 = .ok (.iastore, 1) := by decide +kernel
theorem dX10_begin_126 : decode cX10_begin 126 = .ok (.sipush 306, 3) := by decide +kernel
theorem dX10_begin_129 : decode cX10_begin 129 = .ok (.istore 7, 2) := by decide +kernel
theorem dX10_begin_131 : decode cX10_begin 131 = .ok (.iload 7, 2) := by decide +kernel
theorem dX10_begin_133 : decode cX10_begin 133 = .ok (.sipush 322, 3) := by decide +kernel
theorem dX10_begin_136 : decode cX10_begin 136 = .ok (.if_icmp .gt 19, 3) := by decide +kernel
theorem dX10_begin_139 : decode cX10_begin 139 = .ok (.aload_n 0, 1) := by decide +kernel
theorem dX10_begin_140 : decode cX10_begin 140 = .ok (.getfield 10, 3) := by decide +kernel
theorem dX10_begin_143 : decode cX10_begin 143 = .ok (.iload 7, 2) := by decide +kernel
theorem dX10_begin_145 : decode cX10_begin 145 = .ok (.iload_n 1, 1) := by decide +kernel
theorem dX10_begin_146 : decode cX10_begin 146 = .ok (.iadd, 1) := by decide +kernel
theorem dX10_begin_147 : decode cX10_begin 147 = .ok (.iconst 0, 1) := by decide +kernel
theorem dX10_begin_148 : decode cX10_begin 148 = .ok (.iastore, 1) := by decide +kernel
theorem dX10_begin_149 : decode cX10_begin 149 = .ok (.iinc 7 4, 3) := by decide +kernel
theorem dX10_begin_152 : decode cX10_begin 152 = .ok (.goto (-21), 3) := by decide +kernel
theorem dX10_begin_155 : decode cX10_begin 155 = .ok (.iconst 0, 1) := by decide +kernel
theorem dX10_begin_156 : decode cX10_begin 156 = .ok (.istore 7, 2) := by decide +kernel
theorem dX10_begin_158 : decode cX10_begin 158 = .ok (.iload 7, 2) := by decide +kernel
theorem dX10_begin_160 : decode cX10_begin 160 = .ok (.bipush 24, 2) := by decide +kernel
theorem dX10_begin_162 : decode cX10_begin 162 = .ok (.if_icmp .ge 31, 3) := by decide +kernel
theorem dX10_begin_165 : decode cX10_begin 165 = .ok (.aload_n 0, 1) := by decide +kernel
theorem dX10_begin_166 : decode cX10_begin 166 = .ok (.getfield 20, 3) := by decide +kernel
theorem dX10_begin_169 : decode cX10_begin 169 = .ok (.iload 7, 2) := by decide +kernel
theorem dX10_begin_171 : decode cX10_begin 171 = .ok (.baload, 1) := by decide +kernel
theorem dX10_begin_172 : decode cX10_begin 172 = .ok (.ifCond .eq 15, 3) := by decide +kernel
theorem dX10_begin_175 : decode cX10_begin 175 = .ok (.aload_n 0, 1) := by decide +kernel
theorem dX10_begin_176 : decode cX10_begin 176 = .ok (.getfield 10, 3) := by decide +kernel
theorem dX10_begin_179 : decode cX10_begin 179 = .ok (.sipush 550, 3) := by decide +kernel
theorem dX10_begin_182 : decode cX10_begin 182 = .ok (.iload 7, 2) := by decide +kernel
theorem dX10_begin_184 : decode cX10_begin 184 = .ok (.iadd, 1) := by decide +kernel
theorem dX10_begin_185 : decode cX10_begin 185 = .ok (.iload_n 1, 1) := by decide +kernel
theorem dX10_begin_186 : decode cX10_begin 186 = .ok (.iastore, 1) := by decide +kernel
theorem dX10_begin_187 : decode cX10_begin 187 = .ok (.iinc 7 1, 3) := by decide +kernel
theorem dX10_begin_190 : decode cX10_begin 190 = .ok (.goto (-32), 3) := by decide +kernel
theorem dX10_begin_193 : decode cX10_begin 193 = .ok (.aload_n 0, 1) := by decide +kernel
theorem dX10_begin_194 : decode cX10_begin 194 = .ok (.iload_n 1, 1) := by decide +kernel
theorem dX10_begin_195 : decode cX10_begin 195 = .ok (.iconst 0, 1) := by decide +kernel
theorem dX10_begin_196 : decode cX10_begin 196 = .ok (.iload 6, 2) := by decide +kernel
theorem dX10_begin_198 : decode cX10_begin 198 = .ok (.invokevirtual 86, 3) := by decide +kernel
theorem dX10_begin_201 : decode cX10_begin 201 = .ok (.aload_n 0, 1) := by decide +kernel
theorem dX10_begin_202 : decode cX10_begin 202 = .ok (.getfield 10, 3) := by decide +kernel
theorem dX10_begin_205 : decode cX10_begin 205 = .ok (.sipush 326, 3) := by decide +kernel
theorem dX10_begin_208 : decode cX10_begin 208 = .ok (.iload_n 1, 1) := by decide +kernel
theorem dX10_begin_209 : decode cX10_begin 209 = .ok (.iadd, 1) := by decide +kernel
theorem dX10_begin_210 : decode cX10_begin 210 = .ok (.iconst 0, 1) := by decide +kernel
theorem dX10_begin_211 : decode cX10_begin 211 = .ok (.iastore, 1) := by decide +kernel
theorem dX10_begin_212 : decode cX10_begin 212 = .ok (.aload_n 0, 1) := by decide +kernel
theorem dX10_begin_213 : decode cX10_begin 213 = .ok (.getfield 10, 3) := by decide +kernel
theorem dX10_begin_216 : decode cX10_begin 216 = .ok (.sipush 334, 3) := by decide +kernel
theorem dX10_begin_219 : decode cX10_begin 219 = .ok (.iload_n 1, 1) := by decide +kernel
theorem dX10_begin_220 : decode cX10_begin 220 = .ok (.iadd, 1) := by decide +kernel
theorem dX10_begin_221 : decode cX10_begin 221 = .ok (.iconst 0, 1) := by decide +kernel
theorem dX10_begin_222 : decode cX10_begin 222 = .ok (.iastore, 1) := by decide +kernel
theorem dX10_begin_223 : decode cX10_begin 223 = .ok (.aload_n 0, 1) := by decide +kernel
theorem dX10_begin_224 : decode cX10_begin 224 = .ok (.getfield 10, 3) := by decide +kernel
theorem dX10_begin_227 : decode cX10_begin 227 = .ok (.sipush 302, 3) := by decide +kernel
theorem dX10_begin_230 : decode cX10_begin 230 = .ok (.iload_n 1, 1) := by decide +kernel
theorem dX10_begin_231 : decode cX10_begin 231 = .ok (.iadd, 1) := by decide +kernel
theorem dX10_begin_232 : decode cX10_begin 232 = .ok (.iconst 0, 1) := by decide +kernel
theorem dX10_begin_233 : decode cX10_begin 233 = .ok (.iastore, 1) := by decide +kernel
theorem dX10_begin_234 : decode cX10_begin 234 = .ok (.iload 5, 2) := by decide +kernel
theorem dX10_begin_236 : decode cX10_begin 236 = .ok (.ifCond .eq 9, 3) := by decide +kernel
theorem dX10_begin_239 : decode cX10_begin 239 = .ok (.iload 5, 2) := by decide +kernel
theorem dX10_begin_241 : decode cX10_begin 241 = .ok (.iconst 2, 1) := by decide +kernel
theorem dX10_begin_242 : decode cX10_begin 242 = .ok (.if_icmp .ne 25, 3) := by decide +kernel
theorem dX10_begin_245 : decode cX10_begin 245 = .ok (.aload_n 0, 1) := by decide +kernel
theorem dX10_begin_246 : decode cX10_begin 246 = .ok (.iload_n 1, 1) := by decide +kernel
theorem dX10_begin_247 : decode cX10_begin 247 = .ok (.iload 5, 2) := by decide +kernel
theorem dX10_begin_249 : decode cX10_begin 249 = .ok (.ifCond .ne 11, 3) := by decide +kernel
theorem dX10_begin_252 : decode cX10_begin 252 = .ok (.aload_n 0, 1) := by decide +kernel
theorem dX10_begin_253 : decode cX10_begin 253 = .ok (.iload_n 1, 1) := by decide +kernel
theorem dX10_begin_254 : decode cX10_begin 254 = .ok (.invokevirtual 130, 3) := by decide +kernel
theorem dX10_begin_257 : decode cX10_begin 257 = .ok (.goto 4, 3) := by decide +kernel
theorem dX10_begin_260 : decode cX10_begin 260 = .ok (.iconst 2, 1) := by decide +kernel
theorem dX10_begin_261 : decode cX10_begin 261 = .ok (.invokevirtual 133, 3) := by decide +kernel
theorem dX10_begin_264 : decode cX10_begin 264 = .ok (.iload 6, 2) := by decide +kernel
theorem dX10_begin_266 : decode cX10_begin 266 = .ok (.ireturn, 1) := by decide +kernel
theorem dX10_begin_267 : decode cX10_begin 267 = .ok (.iload 5, 2) := by decide +kernel
theorem dX10_begin_269 : decode cX10_begin 269 = .ok (.iconst 1, 1) := by decide +kernel
theorem dX10_begin_270 : decode cX10_begin 270 = .ok (.if_icmp .ne 7, 3) := by decide +kernel
theorem dX10_begin_273 : decode cX10_begin 273 = .ok (.iconst 1, 1) := by decide +kernel
theorem dX10_begin_274 : decode cX10_begin 274 = .ok (.goto 13, 3) := by decide +kernel
theorem dX10_begin_277 : decode cX10_begin 277 = .ok (.aload_n 0, 1) := by decide +kernel
theorem dX10_begin_278 : decode cX10_begin 278 = .ok (.getfield 10, 3) := by decide +kernel
theorem dX10_begin_281 : decode cX10_begin 281 = .ok (.sipush 330, 3) := by decide +kernel
theorem dX10_begin_284 : decode cX10_begin 284 = .ok (.iload_n 1, 1) := by decide +kernel
theorem dX10_begin_285 : decode cX10_begin 285 = .ok (.iadd, 1) := by decide +kernel
theorem dX10_begin_286 : decode cX10_begin 286 = .ok (.iaload, 1) := by decide +kernel
theorem dX10_begin_287 : decode cX10_begin 287 = .ok (.istore 7, 2) := by decide +kernel
theorem dX10_begin_289 : decode cX10_begin 289 = .ok (.iconst 0, 1) := by decide +kernel
theorem dX10_begin_290 : decode cX10_begin 290 = .ok (.istore 8, 2) := by decide +kernel
theorem dX10_begin_292 : decode cX10_begin 292 = .ok (.iload 8, 2) := by decide +kernel
theorem dX10_begin_294 : decode cX10_begin 294 = .ok (.iload 7, 2) := by decide +kernel
theorem dX10_begin_296 : decode cX10_begin 296 = .ok (.if_icmp .ge 89, 3) := by decide +kernel
theorem dX10_begin_299 : decode cX10_begin 299 = .ok (.aload_n 0, 1) := by decide +kernel
theorem dX10_begin_300 : decode cX10_begin 300 = .ok (.getfield 10, 3) := by decide +kernel
theorem dX10_begin_303 : decode cX10_begin 303 = .ok (.sipush 814, 3) := by decide +kernel
theorem dX10_begin_306 : decode cX10_begin 306 = .ok (.iload_n 1, 1) := by decide +kernel
theorem dX10_begin_307 : decode cX10_begin 307 = .ok (.iload 8, 2) := by decide +kernel
theorem dX10_begin_309 : decode cX10_begin 309 = .ok (.invokestatic 136, 3) := by decide +kernel
theorem dX10_begin_312 : decode cX10_begin 312 = .ok (.iload 5, 2) := by decide +kernel
theorem dX10_begin_314 : decode cX10_begin 314 = .ok (.iconst 1, 1) := by decide +kernel
theorem dX10_begin_315 : decode cX10_begin 315 = .ok (.if_icmp .ne 7, 3) := by decide +kernel
theorem dX10_begin_318 : decode cX10_begin 318 = .ok (.iconst 0, 1) := by decide +kernel
theorem dX10_begin_319 : decode cX10_begin 319 = .ok (.goto 17, 3) := by decide +kernel
theorem dX10_begin_322 : decode cX10_begin 322 = .ok (.aload_n 0, 1) := by decide +kernel
theorem dX10_begin_323 : decode cX10_begin 323 = .ok (.getfield 10, 3) := by decide +kernel
theorem dX10_begin_326 : decode cX10_begin 326 = .ok (.sipush 11614, 3) := by decide +kernel
theorem dX10_begin_329 : decode cX10_begin 329 = .ok (.iload_n 1, 1) := by decide +kernel
theorem dX10_begin_330 : decode cX10_begin 330 = .ok (.iload 8, 2) := by decide +kernel
theorem dX10_begin_332 : decode cX10_begin 332 = .ok (.invokestatic 136, 3) := by decide +kernel
theorem dX10_begin_335 : decode cX10_begin 335 = .ok (.iaload, 1) := by decide +kernel
theorem dX10_begin_336 : decode cX10_begin 336 = .ok (.iastore, 1) := by decide +kernel
theorem dX10_begin_337 : decode cX10_begin 337 = .ok (.aload_n 0, 1) := by decide +kernel
theorem dX10_begin_338 : decode cX10_begin 338 = .ok (.getfield 10, 3) := by decide +kernel
theorem dX10_begin_341 : decode cX10_begin 341 = .ok (.sipush 814, 3) := by decide +kernel
theorem dX10_begin_344 : decode cX10_begin 344 = .ok (.iload_n 1, 1) := by decide +kernel
theorem dX10_begin_345 : decode cX10_begin 345 = .ok (.iload 8, 2) := by decide +kernel
theorem dX10_begin_347 : decode cX10_begin 347 = .ok (.invokestatic 136, 3) := by decide +kernel
theorem dX10_begin_350 : decode cX10_begin 350 = .ok (.iconst 1, 1) := by decide +kernel
theorem dX10_begin_351 : decode cX10_begin 351 = .ok (.iadd, 1) := by decide +kernel
theorem dX10_begin_352 : decode cX10_begin 352 = .ok (.iload 5, 2) := by decide +kernel
theorem dX10_begin_354 : decode cX10_begin 354 = .ok (.iconst 1, 1) := by decide +kernel
theorem dX10_begin_355 : decode cX10_begin 355 = .ok (.if_icmp .ne 7, 3) := by decide +kernel
theorem dX10_begin_358 : decode cX10_begin 358 = .ok (.iconst 0, 1) := by decide +kernel
theorem dX10_begin_359 : decode cX10_begin 359 = .ok (.goto 19, 3) := by decide +kernel
theorem dX10_begin_362 : decode cX10_begin 362 = .ok (.aload_n 0, 1) := by decide +kernel
theorem dX10_begin_363 : decode cX10_begin 363 = .ok (.getfield 10, 3) := by decide +kernel
theorem dX10_begin_366 : decode cX10_begin 366 = .ok (.sipush 11614, 3) := by decide +kernel
theorem dX10_begin_369 : decode cX10_begin 369 = .ok (.iload_n 1, 1) := by decide +kernel
theorem dX10_begin_370 : decode cX10_begin 370 = .ok (.iload 8, 2) := by decide +kernel
theorem dX10_begin_372 : decode cX10_begin 372 = .ok (.invokestatic 136, 3) := by decide +kernel
theorem dX10_begin_375 : decode cX10_begin 375 = .ok (.iconst 1, 1) := by decide +kernel
theorem dX10_begin_376 : decode cX10_begin 376 = .ok (.iadd, 1) := by decide +kernel
theorem dX10_begin_377 : decode cX10_begin 377 = .ok (.iaload, 1) := by decide +kernel
theorem dX10_begin_378 : decode cX10_begin 378 = .ok (.iastore, 1) := by decide +kernel
theorem dX10_begin_379 : decode cX10_begin 379 = .ok (.iinc 8 1, 3) := by decide +kernel
theorem dX10_begin_382 : decode cX10_begin 382 = .ok (.goto (-90), 3) := by decide +kernel
theorem dX10_begin_385 : decode cX10_begin 385 = .ok (.aload_n 0, 1) := by decide +kernel
theorem dX10_begin_386 : decode cX10_begin 386 = .ok (.getfield 10, 3) := by decide +kernel
theorem dX10_begin_389 : decode cX10_begin 389 = .ok (.sipush 326, 3) := by decide +kernel
theorem dX10_begin_392 : decode cX10_begin 392 = .ok (.iload_n 1, 1) := by decide +kernel
theorem dX10_begin_393 : decode cX10_begin 393 = .ok (.iadd, 1) := by decide +kernel
theorem dX10_begin_394 : decode cX10_begin 394 = .ok (.iload 7, 2) := by decide +kernel
theorem dX10_begin_396 : decode cX10_begin 396 = .ok (.iastore, 1) := by decide +kernel
theorem dX10_begin_397 : decode cX10_begin 397 = .ok (.iload 6, 2) := by decide +kernel
theorem dX10_begin_399 : decode cX10_begin 399 = .ok (.ireturn, 1) := by decide +kernel
set_option maxRecDepth 20000 in
theorem zl_X10_begin_5 : z_All z_tab cX10_begin 9 (some .int) RX10 pc_X10_begin 200 (k_X10_begin.drop 200) := z_cons (ok_goto (tgt := 378) (by decide) rfl dX10_begin_359 rfl) <| z_cons (ok_aload_n dX10_begin_362 rfl rfl) <| z_cons (ok_getr (k := 0) ⟨by decide, by decide, by decide⟩ (ci := 8) (T := TX10) rfl rfl (Nat.le_of_ble_eq_true rfl) iw_X10 qw_616 gr_11_0 (fun _ _ => by simp) (fun w i => List.mem_of_getElem? (i := 0) rfl) dX10_begin_363 rfl rfl) <| z_cons (ok_sipush (by decide) dX10_begin_366 rfl rfl) <| z_cons (ok_iload_n dX10_begin_369 rfl rfl) <| z_cons (ok_iload dX10_begin_370 rfl rfl) <| z_cons (ok_callS (k := 207) (n := 3) qw_738 qw_618 ⟨by decide +kernel, by decide +kernel, by decide +kernel⟩ (Nat.le_of_ble_eq_true rfl) qw_740 qw_739 dX10_begin_372 rfl rfl) <| z_cons (ok_iconst (by decide) dX10_begin_375 rfl rfl) <| z_cons (ok_iadd dX10_begin_376 rfl rfl) <| z_cons (ok_iald dX10_begin_377 rfl rfl) <| z_cons (ok_iast dX10_begin_378 rfl rfl) <| z_cons (ok_iinc (by decide) (Nat.le_of_ble_eq_true rfl) dX10_begin_379 rfl rfl) <| z_cons (ok_goto (tgt := 292) (by decide) rfl dX10_begin_382 rfl) <| z_cons (ok_aload_n dX10_begin_385 rfl rfl) <| z_cons (ok_getr (k := 0) ⟨by decide, by decide, by decide⟩ (ci := 8) (T := TX10) rfl rfl (Nat.le_of_ble_eq_true rfl) iw_X10 qw_616 gr_11_0 (fun _ _ => by simp) (fun w i => List.mem_of_getElem? (i := 0) rfl) dX10_begin_386 rfl rfl) <| z_cons (ok_sipush (by decide) dX10_begin_389 rfl rfl) <| z_cons (ok_iload_n dX10_begin_392 rfl rfl) <| z_cons (ok_iadd dX10_begin_393 rfl rfl) <| z_cons (ok_iload dX10_begin_394 rfl rfl) <| z_cons (ok_iast dX10_begin_396 rfl rfl) <| z_cons (ok_iload dX10_begin_397 rfl rfl) <| z_cons (ok_iret rfl dX10_begin_399 rfl) <| z_nil
set_option maxRecDepth 20000 in
theorem zl_X10_begin_4 : z_All z_tab cX10_begin 9 (some .int) RX10 pc_X10_begin 160 (k_X10_begin.drop 160) := z_cons (ok_iload_n dX10_begin_284 rfl rfl) <| z_cons (ok_iadd dX10_begin_285 rfl rfl) <| z_cons (ok_iald dX10_begin_286 rfl rfl) <| z_cons (ok_istore (Nat.le_of_ble_eq_true rfl) dX10_begin_287 rfl rfl) <| z_cons (ok_iconst (by decide) dX10_begin_289 rfl rfl) <| z_cons (ok_istore (Nat.le_of_ble_eq_true rfl) dX10_begin_290 rfl rfl) <| z_cons (ok_iload dX10_begin_292 rfl rfl) <| z_cons (ok_iload dX10_begin_294 rfl rfl) <| z_cons (ok_icmp_ge (tgt := 385) (by decide) rfl dX10_begin_296 rfl rfl) <| z_cons (ok_aload_n dX10_begin_299 rfl rfl) <| z_cons (ok_getr (k := 0) ⟨by decide, by decide, by decide⟩ (ci := 8) (T := TX10) rfl rfl (Nat.le_of_ble_eq_true rfl) iw_X10 qw_616 gr_11_0 (fun _ _ => by simp) (fun w i => List.mem_of_getElem? (i := 0) rfl) dX10_begin_300 rfl rfl) <| z_cons (ok_sipush (by decide) dX10_begin_303 rfl rfl) <| z_cons (ok_iload_n dX10_begin_306 rfl rfl) <| z_cons (ok_iload dX10_begin_307 rfl rfl) <| z_cons (ok_callS (k := 207) (n := 3) qw_738 qw_618 ⟨by decide +kernel, by decide +kernel, by decide +kernel⟩ (Nat.le_of_ble_eq_true rfl) qw_740 qw_739 dX10_begin_309 rfl rfl) <| z_cons (ok_iload dX10_begin_312 rfl rfl) <| z_cons (ok_iconst (by decide) dX10_begin_314 rfl rfl) <| z_cons (ok_icmp_ne (tgt := 322) (by decide) rfl dX10_begin_315 rfl rfl) <| z_cons (ok_iconst (by decide) dX10_begin_318 rfl rfl) <| z_cons (ok_goto (tgt := 336) (by decide) rfl dX10_begin_319 rfl) <| z_cons (ok_aload_n dX10_begin_322 rfl rfl) <| z_cons (ok_getr (k := 0) ⟨by decide, by decide, by decide⟩ (ci := 8) (T := TX10) rfl rfl (Nat.le_of_ble_eq_true rfl) iw_X10 qw_616 gr_11_0 (fun _ _ => by simp) (fun w i => List.mem_of_getElem? (i := 0) rfl) dX10_begin_323 rfl rfl) <| z_cons (ok_sipush (by decide) dX10_begin_326 rfl rfl) <| z_cons (ok_iload_n dX10_begin_329 rfl rfl) <| z_cons (ok_iload dX10_begin_330 rfl rfl) <| z_cons (ok_callS (k := 207) (n := 3) qw_738 qw_618 ⟨by decide +kernel, by decide +kernel, by decide +kernel⟩ (Nat.le_of_ble_eq_true rfl) qw_740 qw_739 dX10_begin_332 rfl rfl) <| z_cons (ok_iald dX10_begin_335 rfl rfl) <| z_cons (ok_iast dX10_begin_336 rfl rfl) <| z_cons (ok_aload_n dX10_begin_337 rfl rfl) <| z_cons (ok_getr (k := 0) ⟨by decide, by decide, by decide⟩ (ci := 8) (T := TX10) rfl rfl (Nat.le_of_ble_eq_true rfl) iw_X10 qw_616 gr_11_0 (fun _ _ => by simp) (fun w i => List.mem_of_getElem? (i := 0) rfl) dX10_begin_338 rfl rfl) <| z_cons (ok_sipush (by decide) dX10_begin_341 rfl rfl) <| z_cons (ok_iload_n dX10_begin_344 rfl rfl) <| z_cons (ok_iload dX10_begin_345 rfl rfl) <| z_cons (ok_callS (k := 207) (n := 3) qw_738 qw_618 ⟨by decide +kernel, by decide +kernel, by decide +kernel⟩ (Nat.le_of_ble_eq_true rfl) qw_740 qw_739 dX10_begin_347 rfl rfl) <| z_cons (ok_iconst (by decide) dX10_begin_350 rfl rfl) <| z_cons (ok_iadd dX10_begin_351 rfl rfl) <| z_cons (ok_iload dX10_begin_352 rfl rfl) <| z_cons (ok_iconst (by decide) dX10_begin_354 rfl rfl) <| z_cons (ok_icmp_ne (tgt := 362) (by decide) rfl dX10_begin_355 rfl rfl) <| z_cons (ok_iconst (by decide) dX10_begin_358 rfl rfl) <| zl_X10_begin_5
set_option maxRecDepth 20000 in
theorem zl_X10_begin_3 : z_All z_tab cX10_begin 9 (some .int) RX10 pc_X10_begin 120 (k_X10_begin.drop 120) := z_cons (ok_iast dX10_begin_211 rfl rfl) <| z_cons (ok_aload_n dX10_begin_212 rfl rfl) <| z_cons (ok_getr (k := 0) ⟨by decide, by decide, by decide⟩ (ci := 8) (T := TX10) rfl rfl (Nat.le_of_ble_eq_true rfl) iw_X10 qw_616 gr_11_0 (fun _ _ => by simp) (fun w i => List.mem_of_getElem? (i := 0) rfl) dX10_begin_213 rfl rfl) <| z_cons (ok_sipush (by decide) dX10_begin_216 rfl rfl) <| z_cons (ok_iload_n dX10_begin_219 rfl rfl) <| z_cons (ok_iadd dX10_begin_220 rfl rfl) <| z_cons (ok_iconst (by decide) dX10_begin_221 rfl rfl) <| z_cons (ok_iast dX10_begin_222 rfl rfl) <| z_cons (ok_aload_n dX10_begin_223 rfl rfl) <| z_cons (ok_getr (k := 0) ⟨by decide, by decide, by decide⟩ (ci := 8) (T := TX10) rfl rfl (Nat.le_of_ble_eq_true rfl) iw_X10 qw_616 gr_11_0 (fun _ _ => by simp) (fun w i => List.mem_of_getElem? (i := 0) rfl) dX10_begin_224 rfl rfl) <| z_cons (ok_sipush (by decide) dX10_begin_227 rfl rfl) <| z_cons (ok_iload_n dX10_begin_230 rfl rfl) <| z_cons (ok_iadd dX10_begin_231 rfl rfl) <| z_cons (ok_iconst (by decide) dX10_begin_232 rfl rfl) <| z_cons (ok_iast dX10_begin_233 rfl rfl) <| z_cons (ok_iload dX10_begin_234 rfl rfl) <| z_cons (ok_if_eq (tgt := 245) (by decide) rfl dX10_begin_236 rfl rfl) <| z_cons (ok_iload dX10_begin_239 rfl rfl) <| z_cons (ok_iconst (by decide) dX10_begin_241 rfl rfl) <| z_cons (ok_icmp_ne (tgt := 267) (by decide) rfl dX10_begin_242 rfl rfl) <| z_cons (ok_aload_n dX10_begin_245 rfl rfl) <| z_cons (ok_iload_n dX10_begin_246 rfl rfl) <| z_cons (ok_iload dX10_begin_247 rfl rfl) <| z_cons (ok_if_ne (tgt := 260) (by decide) rfl dX10_begin_249 rfl rfl) <| z_cons (ok_aload_n dX10_begin_252 rfl rfl) <| z_cons (ok_iload_n dX10_begin_253 rfl rfl) <| z_cons (ok_callv ⟨by decide, by decide, by decide⟩ (ci := 8) (C := RX10) (T := TX10) rfl go_11 (k := 204) (n := 1) qw_730 qw_618 ⟨by decide +kernel, by decide +kernel, by decide +kernel⟩ (Nat.le_of_ble_eq_true rfl) qw_731 qw_732 qw_733 dX10_begin_254 rfl rfl) <| z_cons (ok_goto (tgt := 261) (by decide) rfl dX10_begin_257 rfl) <| z_cons (ok_iconst (by decide) dX10_begin_260 rfl rfl) <| z_cons (ok_callv ⟨by decide, by decide, by decide⟩ (ci := 8) (C := RX10) (T := TX10) rfl go_11 (k := 205) (n := 2) qw_734 qw_618 ⟨by decide +kernel, by decide +kernel, by decide +kernel⟩ (Nat.le_of_ble_eq_true rfl) qw_735 qw_736 qw_737 dX10_begin_261 rfl rfl) <| z_cons (ok_iload dX10_begin_264 rfl rfl) <| z_cons (ok_iret rfl dX10_begin_266 rfl) <| z_cons (ok_iload dX10_begin_267 rfl rfl) <| z_cons (ok_iconst (by decide) dX10_begin_269 rfl rfl) <| z_cons (ok_icmp_ne (tgt := 277) (by decide) rfl dX10_begin_270 rfl rfl) <| z_cons (ok_iconst (by decide) dX10_begin_273 rfl rfl) <| z_cons (ok_goto (tgt := 287) (by decide) rfl dX10_begin_274 rfl) <| z_cons (ok_aload_n dX10_begin_277 rfl rfl) <| z_cons (ok_getr (k := 0) ⟨by decide, by decide, by decide⟩ (ci := 8) (T := TX10) rfl rfl (Nat.le_of_ble_eq_true rfl) iw_X10 qw_616 gr_11_0 (fun _ _ => by simp) (fun w i => List.mem_of_getElem? (i := 0) rfl) dX10_begin_278 rfl rfl) <| z_cons (ok_sipush (by decide) dX10_begin_281 rfl rfl) <| zl_X10_begin_4
set_option maxRecDepth 20000 in
theorem zl_X10_begin_2 : z_All z_tab cX10_begin 9 (some .int) RX10 pc_X10_begin 80 (k_X10_begin.drop 80) := z_cons (ok_icmp_gt (tgt := 155) (by decide) rfl dX10_begin_136 rfl rfl) <| z_cons (ok_aload_n dX10_begin_139 rfl rfl) <| z_cons (ok_getr (k := 0) ⟨by decide, by decide, by decide⟩ (ci := 8) (T := TX10) rfl rfl (Nat.le_of_ble_eq_true rfl) iw_X10 qw_616 gr_11_0 (fun _ _ => by simp) (fun w i => List.mem_of_getElem? (i := 0) rfl) dX10_begin_140 rfl rfl) <| z_cons (ok_iload dX10_begin_143 rfl rfl) <| z_cons (ok_iload_n dX10_begin_145 rfl rfl) <| z_cons (ok_iadd dX10_begin_146 rfl rfl) <| z_cons (ok_iconst (by decide) dX10_begin_147 rfl rfl) <| z_cons (ok_iast dX10_begin_148 rfl rfl) <| z_cons (ok_iinc (by decide) (Nat.le_of_ble_eq_true rfl) dX10_begin_149 rfl rfl) <| z_cons (ok_goto (tgt := 131) (by decide) rfl dX10_begin_152 rfl) <| z_cons (ok_iconst (by decide) dX10_begin_155 rfl rfl) <| z_cons (ok_istore (Nat.le_of_ble_eq_true rfl) dX10_begin_156 rfl rfl) <| z_cons (ok_iload dX10_begin_158 rfl rfl) <| z_cons (ok_bipush (by decide) dX10_begin_160 rfl rfl) <| z_cons (ok_icmp_ge (tgt := 193) (by decide) rfl dX10_begin_162 rfl rfl) <| z_cons (ok_aload_n dX10_begin_165 rfl rfl) <| z_cons (ok_getr (k := 4) ⟨by decide, by decide, by decide⟩ (ci := 8) (T := TX10) rfl rfl (Nat.le_of_ble_eq_true rfl) iw_X10 qw_707 gr_11_4 (fun _ _ => by simp) (fun w i => List.mem_of_getElem? (i := 3) rfl) dX10_begin_166 rfl rfl) <| z_cons (ok_iload dX10_begin_169 rfl rfl) <| z_cons (ok_zald dX10_begin_171 rfl rfl) <| z_cons (ok_if_eq (tgt := 187) (by decide) rfl dX10_begin_172 rfl rfl) <| z_cons (ok_aload_n dX10_begin_175 rfl rfl) <| z_cons (ok_getr (k := 0) ⟨by decide, by decide, by decide⟩ (ci := 8) (T := TX10) rfl rfl (Nat.le_of_ble_eq_true rfl) iw_X10 qw_616 gr_11_0 (fun _ _ => by simp) (fun w i => List.mem_of_getElem? (i := 0) rfl) dX10_begin_176 rfl rfl) <| z_cons (ok_sipush (by decide) dX10_begin_179 rfl rfl) <| z_cons (ok_iload dX10_begin_182 rfl rfl) <| z_cons (ok_iadd dX10_begin_184 rfl rfl) <| z_cons (ok_iload_n dX10_begin_185 rfl rfl) <| z_cons (ok_iast dX10_begin_186 rfl rfl) <| z_cons (ok_iinc (by decide) (Nat.le_of_ble_eq_true rfl) dX10_begin_187 rfl rfl) <| z_cons (ok_goto (tgt := 158) (by decide) rfl dX10_begin_190 rfl) <| z_cons (ok_aload_n dX10_begin_193 rfl rfl) <| z_cons (ok_iload_n dX10_begin_194 rfl rfl) <| z_cons (ok_iconst (by decide) dX10_begin_195 rfl rfl) <| z_cons (ok_iload dX10_begin_196 rfl rfl) <| z_cons (ok_callv ⟨by decide, by decide, by decide⟩ (ci := 8) (C := RX10) (T := TX10) rfl go_11 (k := 169) (n := 3) qw_681 qw_618 ⟨by decide +kernel, by decide +kernel, by decide +kernel⟩ (Nat.le_of_ble_eq_true rfl) qw_682 qw_683 qw_684 dX10_begin_198 rfl rfl) <| z_cons (ok_aload_n dX10_begin_201 rfl rfl) <| z_cons (ok_getr (k := 0) ⟨by decide, by decide, by decide⟩ (ci := 8) (T := TX10) rfl rfl (Nat.le_of_ble_eq_true rfl) iw_X10 qw_616 gr_11_0 (fun _ _ => by simp) (fun w i => List.mem_of_getElem? (i := 0) rfl) dX10_begin_202 rfl rfl) <| z_cons (ok_sipush (by decide) dX10_begin_205 rfl rfl) <| z_cons (ok_iload_n dX10_begin_208 rfl rfl) <| z_cons (ok_iadd dX10_begin_209 rfl rfl) <| z_cons (ok_iconst (by decide) dX10_begin_210 rfl rfl) <| zl_X10_begin_3
set_option maxRecDepth 20000 in
theorem zl_X10_begin_1 : z_All z_tab cX10_begin 9 (some .int) RX10 pc_X10_begin 40 (k_X10_begin.drop 40) := z_cons (ok_iast dX10_begin_68 rfl rfl) <| z_cons (ok_aload_n dX10_begin_69 rfl rfl) <| z_cons (ok_getr (k := 0) ⟨by decide, by decide, by decide⟩ (ci := 8) (T := TX10) rfl rfl (Nat.le_of_ble_eq_true rfl) iw_X10 qw_616 gr_11_0 (fun _ _ => by simp) (fun w i => List.mem_of_getElem? (i := 0) rfl) dX10_begin_70 rfl rfl) <| z_cons (ok_sipush (by decide) dX10_begin_73 rfl rfl) <| z_cons (ok_iload_n dX10_begin_76 rfl rfl) <| z_cons (ok_iadd dX10_begin_77 rfl rfl) <| z_cons (ok_iconst (by decide) dX10_begin_78 rfl rfl) <| z_cons (ok_iast dX10_begin_79 rfl rfl) <| z_cons (ok_aload_n dX10_begin_80 rfl rfl) <| z_cons (ok_getr (k := 0) ⟨by decide, by decide, by decide⟩ (ci := 8) (T := TX10) rfl rfl (Nat.le_of_ble_eq_true rfl) iw_X10 qw_616 gr_11_0 (fun _ _ => by simp) (fun w i => List.mem_of_getElem? (i := 0) rfl) dX10_begin_81 rfl rfl) <| z_cons (ok_sipush (by decide) dX10_begin_84 rfl rfl) <| z_cons (ok_iload_n dX10_begin_87 rfl rfl) <| z_cons (ok_iadd dX10_begin_88 rfl rfl) <| z_cons (ok_iload_n dX10_begin_89 rfl rfl) <| z_cons (ok_iast dX10_begin_90 rfl rfl) <| z_cons (ok_aload_n dX10_begin_91 rfl rfl) <| z_cons (ok_getr (k := 0) ⟨by decide, by decide, by decide⟩ (ci := 8) (T := TX10) rfl rfl (Nat.le_of_ble_eq_true rfl) iw_X10 qw_616 gr_11_0 (fun _ _ => by simp) (fun w i => List.mem_of_getElem? (i := 0) rfl) dX10_begin_92 rfl rfl) <| z_cons (ok_sipush (by decide) dX10_begin_95 rfl rfl) <| z_cons (ok_iload_n dX10_begin_98 rfl rfl) <| z_cons (ok_iadd dX10_begin_99 rfl rfl) <| z_cons (ok_iload_n dX10_begin_100 rfl rfl) <| z_cons (ok_iast dX10_begin_101 rfl rfl) <| z_cons (ok_aload_n dX10_begin_102 rfl rfl) <| z_cons (ok_getr (k := 0) ⟨by decide, by decide, by decide⟩ (ci := 8) (T := TX10) rfl rfl (Nat.le_of_ble_eq_true rfl) iw_X10 qw_616 gr_11_0 (fun _ _ => by simp) (fun w i => List.mem_of_getElem? (i := 0) rfl) dX10_begin_103 rfl rfl) <| z_cons (ok_sipush (by decide) dX10_begin_106 rfl rfl) <| z_cons (ok_iload_n dX10_begin_109 rfl rfl) <| z_cons (ok_iadd dX10_begin_110 rfl rfl) <| z_cons (ok_iload dX10_begin_111 rfl rfl) <| z_cons (ok_iast dX10_begin_113 rfl rfl) <| z_cons (ok_aload_n dX10_begin_114 rfl rfl) <| z_cons (ok_getr (k := 0) ⟨by decide, by decide, by decide⟩ (ci := 8) (T := TX10) rfl rfl (Nat.le_of_ble_eq_true rfl) iw_X10 qw_616 gr_11_0 (fun _ _ => by simp) (fun w i => List.mem_of_getElem? (i := 0) rfl) dX10_begin_115 rfl rfl) <| z_cons (ok_sipush (by decide) dX10_begin_118 rfl rfl) <| z_cons (ok_iload_n dX10_begin_121 rfl rfl) <| z_cons (ok_iadd dX10_begin_122 rfl rfl) <| z_cons (ok_iload dX10_begin_123 rfl rfl) <| z_cons (ok_iast dX10_begin_125 rfl rfl) <| z_cons (ok_sipush (by decide) dX10_begin_126 rfl rfl) <| z_cons (ok_istore (Nat.le_of_ble_eq_true rfl) dX10_begin_129 rfl rfl) <| z_cons (ok_iload dX10_begin_131 rfl rfl) <| z_cons (ok_sipush (by decide) dX10_begin_133 rfl rfl) <| zl_X10_begin_2
set_option maxRecDepth 20000 in
theorem zl_X10_begin_0 : z_All z_tab cX10_begin 9 (some .int) RX10 pc_X10_begin 0 (k_X10_begin.drop 0) := z_cons (ok_aload_n dX10_begin_0 rfl rfl) <| z_cons (ok_iload_n dX10_begin_1 rfl rfl) <| z_cons (ok_callv ⟨by decide, by decide, by decide⟩ (ci := 8) (C := RX10) (T := TX10) rfl go_11 (k := 194) (n := 1) qw_692 qw_618 ⟨by decide +kernel, by decide +kernel, by decide +kernel⟩ (Nat.le_of_ble_eq_true rfl) qw_693 qw_694 qw_695 dX10_begin_2 rfl rfl) <| z_cons (ok_if_eq (tgt := 29) (by decide) rfl dX10_begin_5 rfl rfl) <| z_cons (ok_iload_n dX10_begin_8 rfl rfl) <| z_cons (ok_iload_n dX10_begin_9 rfl rfl) <| z_cons (ok_iload_n dX10_begin_10 rfl rfl) <| z_cons (ok_iload dX10_begin_11 rfl rfl) <| z_cons (ok_callS (k := 200) (n := 4) qw_723 qw_618 ⟨by decide +kernel, by decide +kernel, by decide +kernel⟩ (Nat.le_of_ble_eq_true rfl) qw_725 qw_724 dX10_begin_13 rfl rfl) <| z_cons (ok_if_eq (tgt := 29) (by decide) rfl dX10_begin_16 rfl rfl) <| z_cons (ok_iload dX10_begin_19 rfl rfl) <| z_cons (ok_iconst (by decide) dX10_begin_21 rfl rfl) <| z_cons (ok_iconst (by decide) dX10_begin_22 rfl rfl) <| z_cons (ok_callS (k := 162) (n := 3) qw_617 qw_618 ⟨by decide +kernel, by decide +kernel, by decide +kernel⟩ (Nat.le_of_ble_eq_true rfl) qw_620 qw_619 dX10_begin_23 rfl rfl) <| z_cons (ok_if_ne (tgt := 31) (by decide) rfl dX10_begin_26 rfl rfl) <| z_cons (ok_iconst (by decide) dX10_begin_29 rfl rfl) <| z_cons (ok_iret rfl dX10_begin_30 rfl) <| z_cons (ok_aload_n dX10_begin_31 rfl rfl) <| z_cons (ok_iload_n dX10_begin_32 rfl rfl) <| z_cons (ok_iload_n dX10_begin_33 rfl rfl) <| z_cons (ok_iload_n dX10_begin_34 rfl rfl) <| z_cons (ok_iload dX10_begin_35 rfl rfl) <| z_cons (ok_callv ⟨by decide, by decide, by decide⟩ (ci := 8) (C := RX10) (T := TX10) rfl go_11 (k := 201) (n := 4) qw_726 qw_618 ⟨by decide +kernel, by decide +kernel, by decide +kernel⟩ (Nat.le_of_ble_eq_true rfl) qw_727 qw_728 qw_729 dX10_begin_37 rfl rfl) <| z_cons (ok_istore (Nat.le_of_ble_eq_true rfl) dX10_begin_40 rfl rfl) <| z_cons (ok_aload_n dX10_begin_42 rfl rfl) <| z_cons (ok_getr (k := 0) ⟨by decide, by decide, by decide⟩ (ci := 8) (T := TX10) rfl rfl (Nat.le_of_ble_eq_true rfl) iw_X10 qw_616 gr_11_0 (fun _ _ => by simp) (fun w i => List.mem_of_getElem? (i := 0) rfl) dX10_begin_43 rfl rfl) <| z_cons (ok_sipush (by decide) dX10_begin_46 rfl rfl) <| z_cons (ok_iload_n dX10_begin_49 rfl rfl) <| z_cons (ok_iadd dX10_begin_50 rfl rfl) <| z_cons (ok_aload_n dX10_begin_51 rfl rfl) <| z_cons (ok_iconst (by decide) dX10_begin_52 rfl rfl) <| z_cons (ok_iconst (by decide) dX10_begin_53 rfl rfl) <| z_cons (ok_callv ⟨by decide, by decide, by decide⟩ (ci := 8) (C := RX10) (T := TX10) rfl go_11 (k := 202) (n := 2) qw_715 qw_618 ⟨by decide +kernel, by decide +kernel, by decide +kernel⟩ (Nat.le_of_ble_eq_true rfl) qw_716 qw_717 qw_718 dX10_begin_54 rfl rfl) <| z_cons (ok_iast dX10_begin_57 rfl rfl) <| z_cons (ok_aload_n dX10_begin_58 rfl rfl) <| z_cons (ok_getr (k := 0) ⟨by decide, by decide, by decide⟩ (ci := 8) (T := TX10) rfl rfl (Nat.le_of_ble_eq_true rfl) iw_X10 qw_616 gr_11_0 (fun _ _ => by simp) (fun w i => List.mem_of_getElem? (i := 0) rfl) dX10_begin_59 rfl rfl) <| z_cons (ok_sipush (by decide) dX10_begin_62 rfl rfl) <| z_cons (ok_iload_n dX10_begin_65 rfl rfl) <| z_cons (ok_iadd dX10_begin_66 rfl rfl) <| z_cons (ok_iconst (by decide) dX10_begin_67 rfl rfl) <| zl_X10_begin_1
theorem dX10_reads_0 : decode cX10_reads 0 = .ok (.aload_n 0, 1) := by decide +kernel
theorem dX10_reads_1 : decode cX10_reads 1 = .ok (.getfield 10, 3) := by decide +kernel
theorem dX10_reads_4 : decode cX10_reads 4 = .ok (.sipush 282, 3) := by decide +kernel
theorem dX10_reads_7 : decode cX10_reads 7 = .ok (.iload_n 1, 1) := by decide +kernel
theorem dX10_reads_8 : decode cX10_reads 8 = .ok (.iadd, 1) := by decide +kernel
theorem dX10_reads_9 : decode cX10_reads 9 = .ok (.iaload, 1) := by decide +kernel
theorem dX10_reads_10 : decode cX10_reads 10 = .ok (.istore_n 3, 1) := by decide +kernel
theorem dX10_reads_11 : decode cX10_reads 11 = .ok (.aload_n 0, 1) := by decide +kernel
theorem dX10_reads_12 : decode cX10_reads 12 = .ok (.getfield 10, 3) := by decide +kernel
theorem dX10_reads_15 : decode cX10_reads 15 = .ok (.sipush 550, 3) := by decide +kernel
theorem dX10_reads_18 : decode cX10_reads 18 = .ok (.iload_n 2, 1) := by decide +kernel
theorem dX10_reads_19 : decode cX10_reads 19 = .ok (.iadd, 1) := by decide +kernel
theorem dX10_reads_20 : decode cX10_reads 20 = .ok (.iaload, 1) := by decide +kernel
theorem dX10_reads_21 : decode cX10_reads 21 = .ok (.iload_n 1, 1) := by decide +kernel
theorem dX10_reads_22 : decode cX10_reads 22 = .ok (.if_icmp .eq 14, 3) := by decide +kernel
theorem dX10_reads_25 : decode cX10_reads 25 = .ok (.aload_n 0, 1) := by decide +kernel
theorem dX10_reads_26 : decode cX10_reads 26 = .ok (.getfield 10, 3) := by decide +kernel
theorem dX10_reads_29 : decode cX10_reads 29 = .ok (.bipush 19, 2) := by decide +kernel
theorem dX10_reads_31 : decode cX10_reads 31 = .ok (.dup2, 1) := by decide +kernel
theorem dX10_reads_32 : decode cX10_reads 32 = .ok (.iaload, 1) := by decide +kernel
theorem dX10_reads_33 : decode cX10_reads 33 = .ok (.iconst 1, 1) := by decide +kernel
theorem dX10_reads_34 : decode cX10_reads 34 = .ok (.iadd, 1) := by decide +kernel
theorem dX10_reads_35 : decode cX10_reads 35 = .ok (.iastore, 1) := by decide +kernel
theorem dX10_reads_36 : decode cX10_reads 36 = .ok (.iconst 0, 1) := by decide +kernel
theorem dX10_reads_37 : decode cX10_reads 37 = .ok (.istore 4, 2) := by decide +kernel
theorem dX10_reads_39 : decode cX10_reads 39 = .ok (.iload 4, 2) := by decide +kernel
theorem dX10_reads_41 : decode cX10_reads 41 = .ok (.aload_n 0, 1) := by decide +kernel
theorem dX10_reads_42 : decode cX10_reads 42 = .ok (.getfield 10, 3) := by decide +kernel
theorem dX10_reads_45 : decode cX10_reads 45 = .ok (.sipush 306, 3) := by decide +kernel
theorem dX10_reads_48 : decode cX10_reads 48 = .ok (.iload_n 1, 1) := by decide +kernel
theorem dX10_reads_49 : decode cX10_reads 49 = .ok (.iadd, 1) := by decide +kernel
theorem dX10_reads_50 : decode cX10_reads 50 = .ok (.iaload, 1) := by decide +kernel
theorem dX10_reads_51 : decode cX10_reads 51 = .ok (.if_icmp .ge 40, 3) := by decide +kernel
theorem dX10_reads_54 : decode cX10_reads 54 = .ok (.aload_n 0, 1) := by decide +kernel
theorem dX10_reads_55 : decode cX10_reads 55 = .ok (.getfield 10, 3) := by decide +kernel
theorem dX10_reads_58 : decode cX10_reads 58 = .ok (.sipush 358, 3) := by decide +kernel
theorem dX10_reads_61 : decode cX10_reads 61 = .ok (.bipush 24, 2) := by decide +kernel
theorem dX10_reads_63 : decode cX10_reads 63 = .ok (.iload_n 1, 1) := by decide +kernel
theorem dX10_reads_64 : decode cX10_reads 64 = .ok (.imul, 1) := by decide +kernel
theorem dX10_reads_65 : decode cX10_reads 65 = .ok (.iadd, 1) := by decide +kernel
theorem dX10_reads_66 : decode cX10_reads 66 = .ok (.iload 4, 2) := by decide +kernel
theorem dX10_reads_68 : decode cX10_reads 68 = .ok (.iadd, 1) := by decide +kernel
theorem dX10_reads_69 : decode cX10_reads 69 = .ok (.iaload, 1) := by decide +kernel
theorem dX10_reads_70 : decode cX10_reads 70 = .ok (.iload_n 2, 1) := by decide +kernel
theorem dX10_reads_71 : decode cX10_reads 71 = .ok (.if_icmp .ne 14, 3) := by decide +kernel
theorem dX10_reads_74 : decode cX10_reads 74 = .ok (.aload_n 0, 1) := by decide +kernel
theorem dX10_reads_75 : decode cX10_reads 75 = .ok (.getfield 10, 3) := by decide +kernel
theorem dX10_reads_78 : decode cX10_reads 78 = .ok (.bipush 19, 2) := by decide +kernel
theorem dX10_reads_80 : decode cX10_reads 80 = .ok (.dup2, 1) := by decide +kernel
theorem dX10_reads_81 : decode cX10_reads 81 = .ok (.iaload, 1) := by decide +kernel
theorem dX10_reads_82 : decode cX10_reads 82 = .ok (.iconst 1, 1) := by decide +kernel
theorem dX10_reads_83 : decode cX10_reads 83 = .ok (.iadd, 1) := by decide +kernel
theorem dX10_reads_84 : decode cX10_reads 84 = .ok (.iastore, 1) := by decide +kernel
theorem dX10_reads_85 : decode cX10_reads 85 = .ok (.iinc 4 1, 3) := by decide +kernel
theorem dX10_reads_88 : decode cX10_reads 88 = .ok (.goto (-49), 3) := by decide +kernel
theorem dX10_reads_91 : decode cX10_reads 91 = .ok (.aload_n 0, 1) := by decide +kernel
theorem dX10_reads_92 : decode cX10_reads 92 = .ok (.iload_n 2, 1) := by decide +kernel
theorem dX10_reads_93 : decode cX10_reads 93 = .ok (.iload_n 3, 1) := by decide +kernel
theorem dX10_reads_94 : decode cX10_reads 94 = .ok (.iconst 1, 1) := by decide +kernel
theorem dX10_reads_95 : decode cX10_reads 95 = .ok (.aload_n 0, 1) := by decide +kernel
theorem dX10_reads_96 : decode cX10_reads 96 = .ok (.iload_n 2, 1) := by decide +kernel
theorem dX10_reads_97 : decode cX10_reads 97 = .ok (.iload_n 3, 1) := by decide +kernel
theorem dX10_reads_98 : decode cX10_reads 98 = .ok (.invokevirtual 45, 3) := by decide +kernel
theorem dX10_reads_101 : decode cX10_reads 101 = .ok (.isub, 1) := by decide +kernel
theorem dX10_reads_102 : decode cX10_reads 102 = .ok (.invokevirtual 49, 3) := by decide +kernel
theorem dX10_reads_105 : decode cX10_reads 105 = .ok (.aload_n 0, 1) := by decide +kernel
theorem dX10_reads_106 : decode cX10_reads 106 = .ok (.bipush 8, 2) := by decide +kernel
theorem dX10_reads_108 : decode cX10_reads 108 = .ok (.aload_n 0, 1) := by decide +kernel
theorem dX10_reads_109 : decode cX10_reads 109 = .ok (.iload_n 2, 1) := by decide +kernel
theorem dX10_reads_110 : decode cX10_reads 110 = .ok (.iload_n 3, 1) := by decide +kernel
theorem dX10_reads_111 : decode cX10_reads 111 = .ok (.invokevirtual 45, 3) := by decide +kernel
theorem dX10_reads_114 : decode cX10_reads 114 = .ok (.invokevirtual 53, 3) := by decide +kernel
theorem dX10_reads_117 : decode cX10_reads 117 = .ok (.aload_n 0, 1) := by decide +kernel
theorem dX10_reads_118 : decode cX10_reads 118 = .ok (.iload_n 2, 1) := by decide +kernel
theorem dX10_reads_119 : decode cX10_reads 119 = .ok (.invokevirtual 80, 3) := by decide +kernel
theorem dX10_reads_122 : decode cX10_reads 122 = .ok (.aload_n 0, 1) := by decide +kernel
theorem dX10_reads_123 : decode cX10_reads 123 = .ok (.getfield 10, 3) := by decide +kernel
theorem dX10_reads_126 : decode cX10_reads 126 = .ok (.sipush 598, 3) := by decide +kernel
theorem dX10_reads_129 : decode cX10_reads 129 = .ok (.iload_n 2, 1) := by decide +kernel
theorem dX10_reads_130 : decode cX10_reads 130 = .ok (.iadd, 1) := by decide +kernel
theorem dX10_reads_131 : decode cX10_reads 131 = .ok (.dup2, 1) := by decide +kernel
theorem dX10_reads_132 : decode cX10_reads 132 = .ok (.iaload, 1) := by decide +kernel
theorem dX10_reads_133 : decode cX10_reads 133 = .ok (.iconst 1, 1) := by decide +kernel
theorem dX10_reads_134 : decode cX10_reads 134 = .ok (.iadd, 1) := by decide +kernel
theorem dX10_reads_135 : decode cX10_reads 135 = .ok (.iastore, 1) := by decide +kernel
theorem dX10_reads_136 : decode cX10_reads 136 = .ok (.aload_n 0, 1) := by decide +kernel
theorem dX10_reads_137 : decode cX10_reads 137 = .ok (.getfield 10, 3) := by decide +kernel
theorem dX10_reads_140 : decode cX10_reads 140 = .ok (.sipush 622, 3) := by decide +kernel
theorem dX10_reads_143 : decode cX10_reads 143 = .ok (.iload_n 2, 1) := by decide +kernel
theorem dX10_reads_144 : decode cX10_reads 144 = .ok (.iadd, 1) := by decide +kernel
theorem dX10_reads_145 : decode cX10_reads 145 = .ok (.iload_n 1, 1) := by decide +kernel
theorem dX10_reads_146 : decode cX10_reads 146 = .ok (.iastore, 1) := by decide +kernel
theorem dX10_reads_147 : decode cX10_reads 147 = .ok (.aload_n 0, 1) := by decide +kernel
theorem dX10_reads_148 : decode cX10_reads 148 = .ok (.getfield 10, 3) := by decide +kernel
theorem dX10_reads_151 : decode cX10_reads 151 = .ok (.sipush 306, 3) := by decide +kernel
theorem dX10_reads_154 : decode cX10_reads 154 = .ok (.iload_n 1, 1) := by decide +kernel
theorem dX10_reads_155 : decode cX10_reads 155 = .ok (.iadd, 1) := by decide +kernel
theorem dX10_reads_156 : decode cX10_reads 156 = .ok (.iaload, 1) := by decide +kernel
theorem dX10_reads_157 : decode cX10_reads 157 = .ok (.bipush 24, 2) := by decide +kernel
theorem dX10_reads_159 : decode cX10_reads 159 = .ok (.if_icmp .ge 28, 3) := by decide +kernel
theorem dX10_reads_162 : decode cX10_reads 162 = .ok (.aload_n 0, 1) := by decide +kernel
theorem dX10_reads_163 : decode cX10_reads 163 = .ok (.getfield 10, 3) := by decide +kernel
theorem dX10_reads_166 : decode cX10_reads 166 = .ok (.sipush 358, 3) := by decide +kernel
theorem dX10_reads_169 : decode cX10_reads 169 = .ok (.bipush 24, 2) := by decide +kernel
theorem dX10_reads_171 : decode cX10_reads 171 = .ok (.iload_n 1, 1) := by decide +kernel
theorem dX10_reads_172 : decode cX10_reads 172 = .ok (.imul, 1) := by decide +kernel
theorem dX10_reads_173 : decode cX10_reads 173 = .ok (.iadd, 1) := by decide +kernel
theorem dX10_reads_174 : decode cX10_reads 174 = .ok (.aload_n 0, 1) := by decide +kernel
theorem dX10_reads_175 : decode cX10_reads 175 = .ok (.getfield 10, 3) := by decide +kernel
theorem dX10_reads_178 : decode cX10_reads 178 = .ok (.sipush 306, 3) := by decide +kernel
theorem dX10_reads_181 : decode cX10_reads 181 = .ok (.iload_n 1, 1) := by decide +kernel
theorem dX10_reads_182 : decode cX10_reads 182 = .ok (.iadd, 1) := by decide +kernel
theorem dX10_reads_183 : decode cX10_reads 183 = .ok (.iaload, 1) := by decide +kernel
theorem dX10_reads_184 : decode cX10_reads 184 = .ok (.iadd, 1) := by decide +kernel
theorem dX10_reads_185 : decode cX10_reads 185 = .ok (.iload_n 2, 1) := by decide +kernel
theorem dX10_reads_186 : decode cX10_reads 186 = .ok (.iastore, 1) := by decide +kernel
theorem dX10_reads_187 : decode cX10_reads 187 = .ok (.aload_n 0, 1) := by decide +kernel
theorem dX10_reads_188 : decode cX10_reads 188 = .ok (.getfield 10, 3) := by decide +kernel
theorem dX10_reads_191 : decode cX10_reads 191 = .ok (.sipush 306, 3) := by decide +kernel
theorem dX10_reads_194 : decode cX10_reads 194 = .ok (.iload_n 1, 1) := by decide +kernel
theorem dX10_reads_195 : decode cX10_reads 195 = .ok (.iadd, 1) := by decide +kernel
theorem dX10_reads_196 : decode cX10_reads 196 = .ok (.dup2, 1) := by decide +kernel
theorem dX10_reads_197 : decode cX10_reads 197 = .ok (.iaload, 1) := by decide +kernel
theorem dX10_reads_198 : decode cX10_reads 198 = .ok (.iconst 1, 1) := by decide +kernel
theorem dX10_reads_199 : decode cX10_reads 199 = .ok (.iadd, 1) := by decide +kernel
theorem dX10_reads_200 : decode cX10_reads 200 = .ok (.iastore, 1) := by decide +kernel
theorem dX10_reads_201 : decode cX10_reads 201 = .ok (.aload_n 0, 1) := by decide +kernel
theorem dX10_reads_202 : decode cX10_reads 202 = .ok (.iconst 2, 1) := by decide +kernel
theorem dX10_reads_203 : decode cX10_reads 203 = .ok (.iconst 1, 1) := by decide +kernel
theorem dX10_reads_204 : decode cX10_reads 204 = .ok (.invokevirtual 53, 3) := by decide +kernel
theorem dX10_reads_207 : decode cX10_reads 207 = .ok (.aload_n 0, 1) := by decide +kernel
theorem dX10_reads_208 : decode cX10_reads 208 = .ok (.iload_n 1, 1) := by decide +kernel
theorem dX10_reads_209 : decode cX10_reads 209 = .ok (.iconst 2, 1) := by decide +kernel
theorem dX10_reads_210 : decode cX10_reads 210 = .ok (.iload_n 2, 1) := by decide +kernel
theorem dX10_reads_211 : decode cX10_reads 211 = .ok (.invokevirtual 86, 3) := by decide +kernel
theorem dX10_reads_214 : decode cX10_reads 214 = .ok (.return_, 1) := by decide +kernel
set_option maxRecDepth 20000 in
theorem zl_X10_reads_3 : z_All z_tab cX10_reads 5 none RX10 pc_X10_reads 120 (k_X10_reads.drop 120) := z_cons (ok_iadd dX10_reads_195 rfl rfl) <| z_cons (ok_dup2 dX10_reads_196 rfl rfl) <| z_cons (ok_iald dX10_reads_197 rfl rfl) <| z_cons (ok_iconst (by decide) dX10_reads_198 rfl rfl) <| z_cons (ok_iadd dX10_reads_199 rfl rfl) <| z_cons (ok_iast dX10_reads_200 rfl rfl) <| z_cons (ok_aload_n dX10_reads_201 rfl rfl) <| z_cons (ok_iconst (by decide) dX10_reads_202 rfl rfl) <| z_cons (ok_iconst (by decide) dX10_reads_203 rfl rfl) <| z_cons (ok_callv ⟨by decide, by decide, by decide⟩ (ci := 8) (C := RX10) (T := TX10) rfl go_11 (k := 168) (n := 2) qw_638 qw_618 ⟨by decide +kernel, by decide +kernel, by decide +kernel⟩ (Nat.le_of_ble_eq_true rfl) qw_639 qw_640 qw_641 dX10_reads_204 rfl rfl) <| z_cons (ok_aload_n dX10_reads_207 rfl rfl) <| z_cons (ok_iload_n dX10_reads_208 rfl rfl) <| z_cons (ok_iconst (by decide) dX10_reads_209 rfl rfl) <| z_cons (ok_iload_n dX10_reads_210 rfl rfl) <| z_cons (ok_callv ⟨by decide, by decide, by decide⟩ (ci := 8) (C := RX10) (T := TX10) rfl go_11 (k := 169) (n := 3) qw_681 qw_618 ⟨by decide +kernel, by decide +kernel, by decide +kernel⟩ (Nat.le_of_ble_eq_true rfl) qw_682 qw_683 qw_684 dX10_reads_211 rfl rfl) <| z_cons (ok_ret rfl dX10_reads_214 rfl) <| z_nil
set_option maxRecDepth 20000 in
theorem zl_X10_reads_2 : z_All z_tab cX10_reads 5 none RX10 pc_X10_reads 80 (k_X10_reads.drop 80) := z_cons (ok_dup2 dX10_reads_131 rfl rfl) <| z_cons (ok_iald dX10_reads_132 rfl rfl) <| z_cons (ok_iconst (by decide) dX10_reads_133 rfl rfl) <| z_cons (ok_iadd dX10_reads_134 rfl rfl) <| z_cons (ok_iast dX10_reads_135 rfl rfl) <| z_cons (ok_aload_n dX10_reads_136 rfl rfl) <| z_cons (ok_getr (k := 0) ⟨by decide, by decide, by decide⟩ (ci := 8) (T := TX10) rfl rfl (Nat.le_of_ble_eq_true rfl) iw_X10 qw_616 gr_11_0 (fun _ _ => by simp) (fun w i => List.mem_of_getElem? (i := 0) rfl) dX10_reads_137 rfl rfl) <| z_cons (ok_sipush (by decide) dX10_reads_140 rfl rfl) <| z_cons (ok_iload_n dX10_reads_143 rfl rfl) <| z_cons (ok_iadd dX10_reads_144 rfl rfl) <| z_cons (ok_iload_n dX10_reads_145 rfl rfl) <| z_cons (ok_iast dX10_reads_146 rfl rfl) <| z_cons (ok_aload_n dX10_reads_147 rfl rfl) <| z_cons (ok_getr (k := 0) ⟨by decide, by decide, by decide⟩ (ci := 8) (T := TX10) rfl rfl (Nat.le_of_ble_eq_true rfl) iw_X10 qw_616 gr_11_0 (fun _ _ => by simp) (fun w i => List.mem_of_getElem? (i := 0) rfl) dX10_reads_148 rfl rfl) <| z_cons (ok_sipush (by decide) dX10_reads_151 rfl rfl) <| z_cons (ok_iload_n dX10_reads_154 rfl rfl) <| z_cons (ok_iadd dX10_reads_155 rfl rfl) <| z_cons (ok_iald dX10_reads_156 rfl rfl) <| z_cons (ok_bipush (by decide) dX10_reads_157 rfl rfl) <| z_cons (ok_icmp_ge (tgt := 187) (by decide) rfl dX10_reads_159 rfl rfl) <| z_cons (ok_aload_n dX10_reads_162 rfl rfl) <| z_cons (ok_getr (k := 0) ⟨by decide, by decide, by decide⟩ (ci := 8) (T := TX10) rfl rfl (Nat.le_of_ble_eq_true rfl) iw_X10 qw_616 gr_11_0 (fun _ _ => by simp) (fun w i => List.mem_of_getElem? (i := 0) rfl) dX10_reads_163 rfl rfl) <| z_cons (ok_sipush (by decide) dX10_reads_166 rfl rfl) <| z_cons (ok_bipush (by decide) dX10_reads_169 rfl rfl) <| z_cons (ok_iload_n dX10_reads_171 rfl rfl) <| z_cons (ok_imul dX10_reads_172 rfl rfl) <| z_cons (ok_iadd dX10_reads_173 rfl rfl) <| z_cons (ok_aload_n dX10_reads_174 rfl rfl) <| z_cons (ok_getr (k := 0) ⟨by decide, by decide, by decide⟩ (ci := 8) (T := TX10) rfl rfl (Nat.le_of_ble_eq_true rfl) iw_X10 qw_616 gr_11_0 (fun _ _ => by simp) (fun w i => List.mem_of_getElem? (i := 0) rfl) dX10_reads_175 rfl rfl) <| z_cons (ok_sipush (by decide) dX10_reads_178 rfl rfl) <| z_cons (ok_iload_n dX10_reads_181 rfl rfl) <| z_cons (ok_iadd dX10_reads_182 rfl rfl) <| z_cons (ok_iald dX10_reads_183 rfl rfl) <| z_cons (ok_iadd dX10_reads_184 rfl rfl) <| z_cons (ok_iload_n dX10_reads_185 rfl rfl) <| z_cons (ok_iast dX10_reads_186 rfl rfl) <| z_cons (ok_aload_n dX10_reads_187 rfl rfl) <| z_cons (ok_getr (k := 0) ⟨by decide, by decide, by decide⟩ (ci := 8) (T := TX10) rfl rfl (Nat.le_of_ble_eq_true rfl) iw_X10 qw_616 gr_11_0 (fun _ _ => by simp) (fun w i => List.mem_of_getElem? (i := 0) rfl) dX10_reads_188 rfl rfl) <| z_cons (ok_sipush (by decide) dX10_reads_191 rfl rfl) <| z_cons (ok_iload_n dX10_reads_194 rfl rfl) <| zl_X10_reads_3
set_option maxRecDepth 20000 in
theorem zl_X10_reads_1 : z_All z_tab cX10_reads 5 none RX10 pc_X10_reads 40 (k_X10_reads.drop 40) := z_cons (ok_iload dX10_reads_66 rfl rfl) <| z_cons (ok_iadd dX10_reads_68 rfl rfl) <| z_cons (ok_iald dX10_reads_69 rfl rfl) <| z_cons (ok_iload_n dX10_reads_70 rfl rfl) <| z_cons (ok_icmp_ne (tgt := 85) (by decide) rfl dX10_reads_71 rfl rfl) <| z_cons (ok_aload_n dX10_reads_74 rfl rfl) <| z_cons (ok_getr (k := 0) ⟨by decide, by decide, by decide⟩ (ci := 8) (T := TX10) rfl rfl (Nat.le_of_ble_eq_true rfl) iw_X10 qw_616 gr_11_0 (fun _ _ => by simp) (fun w i => List.mem_of_getElem? (i := 0) rfl) dX10_reads_75 rfl rfl) <| z_cons (ok_bipush (by decide) dX10_reads_78 rfl rfl) <| z_cons (ok_dup2 dX10_reads_80 rfl rfl) <| z_cons (ok_iald dX10_reads_81 rfl rfl) <| z_cons (ok_iconst (by decide) dX10_reads_82 rfl rfl) <| z_cons (ok_iadd dX10_reads_83 rfl rfl) <| z_cons (ok_iast dX10_reads_84 rfl rfl) <| z_cons (ok_iinc (by decide) (Nat.le_of_ble_eq_true rfl) dX10_reads_85 rfl rfl) <| z_cons (ok_goto (tgt := 39) (by decide) rfl dX10_reads_88 rfl) <| z_cons (ok_aload_n dX10_reads_91 rfl rfl) <| z_cons (ok_iload_n dX10_reads_92 rfl rfl) <| z_cons (ok_iload_n dX10_reads_93 rfl rfl) <| z_cons (ok_iconst (by decide) dX10_reads_94 rfl rfl) <| z_cons (ok_aload_n dX10_reads_95 rfl rfl) <| z_cons (ok_iload_n dX10_reads_96 rfl rfl) <| z_cons (ok_iload_n dX10_reads_97 rfl rfl) <| z_cons (ok_callv ⟨by decide, by decide, by decide⟩ (ci := 8) (C := RX10) (T := TX10) rfl go_11 (k := 174) (n := 2) qw_630 qw_618 ⟨by decide +kernel, by decide +kernel, by decide +kernel⟩ (Nat.le_of_ble_eq_true rfl) qw_631 qw_632 qw_633 dX10_reads_98 rfl rfl) <| z_cons (ok_isub dX10_reads_101 rfl rfl) <| z_cons (ok_callv ⟨by decide, by decide, by decide⟩ (ci := 8) (C := RX10) (T := TX10) rfl go_11 (k := 175) (n := 3) qw_634 qw_618 ⟨by decide +kernel, by decide +kernel, by decide +kernel⟩ (Nat.le_of_ble_eq_true rfl) qw_635 qw_636 qw_637 dX10_reads_102 rfl rfl) <| z_cons (ok_aload_n dX10_reads_105 rfl rfl) <| z_cons (ok_bipush (by decide) dX10_reads_106 rfl rfl) <| z_cons (ok_aload_n dX10_reads_108 rfl rfl) <| z_cons (ok_iload_n dX10_reads_109 rfl rfl) <| z_cons (ok_iload_n dX10_reads_110 rfl rfl) <| z_cons (ok_callv ⟨by decide, by decide, by decide⟩ (ci := 8) (C := RX10) (T := TX10) rfl go_11 (k := 174) (n := 2) qw_630 qw_618 ⟨by decide +kernel, by decide +kernel, by decide +kernel⟩ (Nat.le_of_ble_eq_true rfl) qw_631 qw_632 qw_633 dX10_reads_111 rfl rfl) <| z_cons (ok_callv ⟨by decide, by decide, by decide⟩ (ci := 8) (C := RX10) (T := TX10) rfl go_11 (k := 168) (n := 2) qw_638 qw_618 ⟨by decide +kernel, by decide +kernel, by decide +kernel⟩ (Nat.le_of_ble_eq_true rfl) qw_639 qw_640 qw_641 dX10_reads_114 rfl rfl) <| z_cons (ok_aload_n dX10_reads_117 rfl rfl) <| z_cons (ok_iload_n dX10_reads_118 rfl rfl) <| z_cons (ok_callv ⟨by decide, by decide, by decide⟩ (ci := 8) (C := RX10) (T := TX10) rfl go_11 (k := 185) (n := 1) qw_673 qw_618 ⟨by decide +kernel, by decide +kernel, by decide +kernel⟩ (Nat.le_of_ble_eq_true rfl) qw_674 qw_675 qw_676 dX10_reads_119 rfl rfl) <| z_cons (ok_aload_n dX10_reads_122 rfl rfl) <| z_cons (ok_getr (k := 0) ⟨by decide, by decide, by decide⟩ (ci := 8) (T := TX10) rfl rfl (Nat.le_of_ble_eq_true rfl) iw_X10 qw_616 gr_11_0 (fun _ _ => by simp) (fun w i => List.mem_of_getElem? (i := 0) rfl) dX10_reads_123 rfl rfl) <| z_cons (ok_sipush (by decide) dX10_reads_126 rfl rfl) <| z_cons (ok_iload_n dX10_reads_129 rfl rfl) <| z_cons (ok_iadd dX10_reads_130 rfl rfl) <| zl_X10_reads_2
set_option maxRecDepth 20000 in
theorem zl_X10_reads_0 : z_All z_tab cX10_reads 5 none RX10 pc_X10_reads 0 (k_X10_reads.drop 0) := z_cons (ok_aload_n dX10_reads_0 rfl rfl) <| z_cons (ok_getr (k := 0) ⟨by decide, by decide, by decide⟩ (ci := 8) (T := TX10) rfl rfl (Nat.le_of_ble_eq_true rfl) iw_X10 qw_616 gr_11_0 (fun _ _ => by simp) (fun w i => List.mem_of_getElem? (i := 0) rfl) dX10_reads_1 rfl rfl) <| z_cons (ok_sipush (by decide) dX10_reads_4 rfl rfl) <| z_cons (ok_iload_n dX10_reads_7 rfl rfl) <| z_cons (ok_iadd dX10_reads_8 rfl rfl) <| z_cons (ok_iald dX10_reads_9 rfl rfl) <| z_cons (ok_istore_n (Nat.le_of_ble_eq_true rfl) dX10_reads_10 rfl rfl) <| z_cons (ok_aload_n dX10_reads_11 rfl rfl) <| z_cons (ok_getr (k := 0) ⟨by decide, by decide, by decide⟩ (ci := 8) (T := TX10) rfl rfl (Nat.le_of_ble_eq_true rfl) iw_X10 qw_616 gr_11_0 (fun _ _ => by simp) (fun w i => List.mem_of_getElem? (i := 0) rfl) dX10_reads_12 rfl rfl) <| z_cons (ok_sipush (by decide) dX10_reads_15 rfl rfl) <| z_cons (ok_iload_n dX10_reads_18 rfl rfl) <| z_cons (ok_iadd dX10_reads_19 rfl rfl) <| z_cons (ok_iald dX10_reads_20 rfl rfl) <| z_cons (ok_iload_n dX10_reads_21 rfl rfl) <| z_cons (ok_icmp_eq (tgt := 36) (by decide) rfl dX10_reads_22 rfl rfl) <| z_cons (ok_aload_n dX10_reads_25 rfl rfl) <| z_cons (ok_getr (k := 0) ⟨by decide, by decide, by decide⟩ (ci := 8) (T := TX10) rfl rfl (Nat.le_of_ble_eq_true rfl) iw_X10 qw_616 gr_11_0 (fun _ _ => by simp) (fun w i => List.mem_of_getElem? (i := 0) rfl) dX10_reads_26 rfl rfl) <| z_cons (ok_bipush (by decide) dX10_reads_29 rfl rfl) <| z_cons (ok_dup2 dX10_reads_31 rfl rfl) <| z_cons (ok_iald dX10_reads_32 rfl rfl) <| z_cons (ok_iconst (by decide) dX10_reads_33 rfl rfl) <| z_cons (ok_iadd dX10_reads_34 rfl rfl) <| z_cons (ok_iast dX10_reads_35 rfl rfl) <| z_cons (ok_iconst (by decide) dX10_reads_36 rfl rfl) <| z_cons (ok_istore (Nat.le_of_ble_eq_true rfl) dX10_reads_37 rfl rfl) <| z_cons (ok_iload dX10_reads_39 rfl rfl) <| z_cons (ok_aload_n dX10_reads_41 rfl rfl) <| z_cons (ok_getr (k := 0) ⟨by decide, by decide, by decide⟩ (ci := 8) (T := TX10) rfl rfl (Nat.le_of_ble_eq_true rfl) iw_X10 qw_616 gr_11_0 (fun _ _ => by simp) (fun w i => List.mem_of_getElem? (i := 0) rfl) dX10_reads_42 rfl rfl) <| z_cons (ok_sipush (by decide) dX10_reads_45 rfl rfl) <| z_cons (ok_iload_n dX10_reads_48 rfl rfl) <| z_cons (ok_iadd dX10_reads_49 rfl rfl) <| z_cons (ok_iald dX10_reads_50 rfl rfl) <| z_cons (ok_icmp_ge (tgt := 91) (by decide) rfl dX10_reads_51 rfl rfl) <| z_cons (ok_aload_n dX10_reads_54 rfl rfl) <| z_cons (ok_getr (k := 0) ⟨by decide, by decide, by decide⟩ (ci := 8) (T := TX10) rfl rfl (Nat.le_of_ble_eq_true rfl) iw_X10 qw_616 gr_11_0 (fun _ _ => by simp) (fun w i => List.mem_of_getElem? (i := 0) rfl) dX10_reads_55 rfl rfl) <| z_cons (ok_sipush (by decide) dX10_reads_58 rfl rfl) <| z_cons (ok_bipush (by decide) dX10_reads_61 rfl rfl) <| z_cons (ok_iload_n dX10_reads_63 rfl rfl) <| z_cons (ok_imul dX10_reads_64 rfl rfl) <| z_cons (ok_iadd dX10_reads_65 rfl rfl) <| zl_X10_reads_1
theorem dX10_isOver_0 : decode cX10_isOver 0 = .ok (.aload_n 0, 1) := by decide +kernel
theorem dX10_isOver_1 : decode cX10_isOver 1 = .ok (.getfield 10, 3) := by decide +kernel
theorem dX10_isOver_4 : decode cX10_isOver 4 = .ok (.sipush 322, 3) := by decide +kernel
theorem dX10_isOver_7 : decode cX10_isOver 7 = .ok (.iload_n 1, 1) := by decide +kernel
theorem dX10_isOver_8 : decode cX10_isOver 8 = .ok (.iadd, 1) := by decide +kernel
theorem dX10_isOver_9 : decode cX10_isOver 9 = .ok (.aload_n 0, 1) := by decide +kernel
theorem dX10_isOver_10 : decode cX10_isOver 10 = .ok (.iload_n 1, 1) := by decide +kernel
theorem dX10_isOver_11 : decode cX10_isOver 11 = .ok (.invokevirtual 139, 3) := by decide +kernel
theorem dX10_isOver_14 : decode cX10_isOver 14 = .ok (.iastore, 1) := by decide +kernel
theorem dX10_isOver_15 : decode cX10_isOver 15 = .ok (.aload_n 0, 1) := by decide +kernel
theorem dX10_isOver_16 : decode cX10_isOver 16 = .ok (.bipush 12, 2) := by decide +kernel
theorem dX10_isOver_18 : decode cX10_isOver 18 = .ok (.aload_n 0, 1) := by decide +kernel
theorem dX10_isOver_19 : decode cX10_isOver 19 = .ok (.getfield 10, 3) := by decide +kernel
theorem dX10_isOver_22 : decode cX10_isOver 22 = .ok (.sipush 322, 3) := by decide +kernel
theorem dX10_isOver_25 : decode cX10_isOver 25 = .ok (.iload_n 1, 1) := by decide +kernel
theorem dX10_isOver_26 : decode cX10_isOver 26 = .ok (.iadd, 1) := by decide +kernel
theorem dX10_isOver_27 : decode cX10_isOver 27 = .ok (.iaload, 1) := by decide +kernel
theorem dX10_isOver_28 : decode cX10_isOver 28 = .ok (.invokevirtual 53, 3) := by decide +kernel
theorem dX10_isOver_31 : decode cX10_isOver 31 = .ok (.aload_n 0, 1) := by decide +kernel
theorem dX10_isOver_32 : decode cX10_isOver 32 = .ok (.iload_n 1, 1) := by decide +kernel
theorem dX10_isOver_33 : decode cX10_isOver 33 = .ok (.invokevirtual 83, 3) := by decide +kernel
theorem dX10_isOver_36 : decode cX10_isOver 36 = .ok (.aload_n 0, 1) := by decide +kernel
theorem dX10_isOver_37 : decode cX10_isOver 37 = .ok (.iconst 5, 1) := by decide +kernel
theorem dX10_isOver_38 : decode cX10_isOver 38 = .ok (.iconst 1, 1) := by decide +kernel
theorem dX10_isOver_39 : decode cX10_isOver 39 = .ok (.invokevirtual 53, 3) := by decide +kernel
theorem dX10_isOver_42 : decode cX10_isOver 42 = .ok (.aload_n 0, 1) := by decide +kernel
theorem dX10_isOver_43 : decode cX10_isOver 43 = .ok (.iload_n 1, 1) := by decide +kernel
theorem dX10_isOver_44 : decode cX10_isOver 44 = .ok (.iconst 4, 1) := by decide +kernel
theorem dX10_isOver_45 : decode cX10_isOver 45 = .ok (.aload_n 0, 1) := by decide +kernel
theorem dX10_isOver_46 : decode cX10_isOver 46 = .ok (.getfield 10, 3) := by decide +kernel
theorem dX10_isOver_49 : decode cX10_isOver 49 = .ok (.sipush 306, 3) := by decide +kernel
theorem dX10_isOver_52 : decode cX10_isOver 52 = .ok (.iload_n 1, 1) := by decide +kernel
theorem dX10_isOver_53 : decode cX10_isOver 53 = .ok (.iadd, 1) := by decide +kernel
theorem dX10_isOver_54 : decode cX10_isOver 54 = .ok (.iaload, 1) := by decide +kernel
theorem dX10_isOver_55 : decode cX10_isOver 55 = .ok (.invokevirtual 86, 3) := by decide +kernel
theorem dX10_isOver_58 : decode cX10_isOver 58 = .ok (.return_, 1) := by decide +kernel
set_option maxRecDepth 20000 in
theorem zl_X10_isOver_0 : z_All z_tab cX10_isOver 2 none RX10 pc_X10_isOver 0 (k_X10_isOver.drop 0) := z_cons (ok_aload_n dX10_isOver_0 rfl rfl) <| z_cons (ok_getr (k := 0) ⟨by decide, by decide, by decide⟩ (ci := 8) (T := TX10) rfl rfl (Nat.le_of_ble_eq_true rfl) iw_X10 qw_616 gr_11_0 (fun _ _ => by simp) (fun w i => List.mem_of_getElem? (i := 0) rfl) dX10_isOver_1 rfl rfl) <| z_cons (ok_sipush (by decide) dX10_isOver_4 rfl rfl) <| z_cons (ok_iload_n dX10_isOver_7 rfl rfl) <| z_cons (ok_iadd dX10_isOver_8 rfl rfl) <| z_cons (ok_aload_n dX10_isOver_9 rfl rfl) <| z_cons (ok_iload_n dX10_isOver_10 rfl rfl) <| z_cons (ok_callv ⟨by decide, by decide, by decide⟩ (ci := 8) (C := RX10) (T := TX10) rfl go_11 (k := 187) (n := 1) qw_741 qw_618 ⟨by decide +kernel, by decide +kernel, by decide +kernel⟩ (Nat.le_of_ble_eq_true rfl) qw_742 qw_743 qw_744 dX10_isOver_11 rfl rfl) <| z_cons (ok_iast dX10_isOver_14 rfl rfl) <| z_cons (ok_aload_n dX10_isOver_15 rfl rfl) <| z_cons (ok_bipush (by decide) dX10_isOver_16 rfl rfl) <| z_cons (ok_aload_n dX10_isOver_18 rfl rfl) <| z_cons (ok_getr (k := 0) ⟨by decide, by decide, by decide⟩ (ci := 8) (T := TX10) rfl rfl (Nat.le_of_ble_eq_true rfl) iw_X10 qw_616 gr_11_0 (fun _ _ => by simp) (fun w i => List.mem_of_getElem? (i := 0) rfl) dX10_isOver_19 rfl rfl) <| z_cons (ok_sipush (by decide) dX10_isOver_22 rfl rfl) <| z_cons (ok_iload_n dX10_isOver_25 rfl rfl) <| z_cons (ok_iadd dX10_isOver_26 rfl rfl) <| z_cons (ok_iald dX10_isOver_27 rfl rfl) <| z_cons (ok_callv ⟨by decide, by decide, by decide⟩ (ci := 8) (C := RX10) (T := TX10) rfl go_11 (k := 168) (n := 2) qw_638 qw_618 ⟨by decide +kernel, by decide +kernel, by decide +kernel⟩ (Nat.le_of_ble_eq_true rfl) qw_639 qw_640 qw_641 dX10_isOver_28 rfl rfl) <| z_cons (ok_aload_n dX10_isOver_31 rfl rfl) <| z_cons (ok_iload_n dX10_isOver_32 rfl rfl) <| z_cons (ok_callv ⟨by decide, by decide, by decide⟩ (ci := 8) (C := RX10) (T := TX10) rfl go_11 (k := 188) (n := 1) qw_677 qw_618 ⟨by decide +kernel, by decide +kernel, by decide +kernel⟩ (Nat.le_of_ble_eq_true rfl) qw_678 qw_679 qw_680 dX10_isOver_33 rfl rfl) <| z_cons (ok_aload_n dX10_isOver_36 rfl rfl) <| z_cons (ok_iconst (by decide) dX10_isOver_37 rfl rfl) <| z_cons (ok_iconst (by decide) dX10_isOver_38 rfl rfl) <| z_cons (ok_callv ⟨by decide, by decide, by decide⟩ (ci := 8) (C := RX10) (T := TX10) rfl go_11 (k := 168) (n := 2) qw_638 qw_618 ⟨by decide +kernel, by decide +kernel, by decide +kernel⟩ (Nat.le_of_ble_eq_true rfl) qw_639 qw_640 qw_641 dX10_isOver_39 rfl rfl) <| z_cons (ok_aload_n dX10_isOver_42 rfl rfl) <| z_cons (ok_iload_n dX10_isOver_43 rfl rfl) <| z_cons (ok_iconst (by decide) dX10_isOver_44 rfl rfl) <| z_cons (ok_aload_n dX10_isOver_45 rfl rfl) <| z_cons (ok_getr (k := 0) ⟨by decide, by decide, by decide⟩ (ci := 8) (T := TX10) rfl rfl (Nat.le_of_ble_eq_true rfl) iw_X10 qw_616 gr_11_0 (fun _ _ => by simp) (fun w i => List.mem_of_getElem? (i := 0) rfl) dX10_isOver_46 rfl rfl) <| z_cons (ok_sipush (by decide) dX10_isOver_49 rfl rfl) <| z_cons (ok_iload_n dX10_isOver_52 rfl rfl) <| z_cons (ok_iadd dX10_isOver_53 rfl rfl) <| z_cons (ok_iald dX10_isOver_54 rfl rfl) <| z_cons (ok_callv ⟨by decide, by decide, by decide⟩ (ci := 8) (C := RX10) (T := TX10) rfl go_11 (k := 169) (n := 3) qw_681 qw_618 ⟨by decide +kernel, by decide +kernel, by decide +kernel⟩ (Nat.le_of_ble_eq_true rfl) qw_682 qw_683 qw_684 dX10_isOver_55 rfl rfl) <| z_cons (ok_ret rfl dX10_isOver_58 rfl) <| z_nil
theorem dX10_gathers_0 : decode cX10_gathers 0 = .ok (.aload_n 0, 1) := by decide +kernel
theorem dX10_gathers_1 : decode cX10_gathers 1 = .ok (.iconst 0, 1) := by decide +kernel
theorem dX10_gathers_2 : decode cX10_gathers 2 = .ok (.putfield 142, 3) := by decide +kernel
theorem dX10_gathers_5 : decode cX10_gathers 5 = .ok (.aload_n 0, 1) := by decide +kernel
theorem dX10_gathers_6 : decode cX10_gathers 6 = .ok (.iconst (-1), 1) := by decide +kernel
theorem dX10_gathers_7 : decode cX10_gathers 7 = .ok (.putfield 146, 3) := by decide +kernel
theorem dX10_gathers_10 : decode cX10_gathers 10 = .ok (.bipush 23, 2) := by decide +kernel
theorem dX10_gathers_12 : decode cX10_gathers 12 = .ok (.istore 4, 2) := by decide +kernel
theorem dX10_gathers_14 : decode cX10_gathers 14 = .ok (.iload 4, 2) := by decide +kernel
theorem dX10_gathers_16 : decode cX10_gathers 16 = .ok (.ifCond .lt 100, 3) := by decide +kernel
theorem dX10_gathers_19 : decode cX10_gathers 19 = .ok (.aload_n 0, 1) := by decide +kernel
theorem dX10_gathers_20 : decode cX10_gathers 20 = .ok (.getfield 10, 3) := by decide +kernel
theorem dX10_gathers_23 : decode cX10_gathers 23 = .ok (.sipush 550, 3) := by decide +kernel
theorem dX10_gathers_26 : decode cX10_gathers 26 = .ok (.iload 4, 2) := by decide +kernel
theorem dX10_gathers_28 : decode cX10_gathers 28 = .ok (.iadd, 1) := by decide +kernel
theorem dX10_gathers_29 : decode cX10_gathers 29 = .ok (.iaload, 1) := by decide +kernel
theorem dX10_gathers_30 : decode cX10_gathers 30 = .ok (.iload_n 1, 1) := by decide +kernel
theorem dX10_gathers_31 : decode cX10_gathers 31 = .ok (.if_icmp .ne 79, 3) := by decide +kernel
theorem dX10_gathers_34 : decode cX10_gathers 34 = .ok (.aload_n 0, 1) := by decide +kernel
theorem dX10_gathers_35 : decode cX10_gathers 35 = .ok (.getfield 10, 3) := by decide +kernel
theorem dX10_gathers_38 : decode cX10_gathers 38 = .ok (.sipush 694, 3) := by decide +kernel
theorem dX10_gathers_41 : decode cX10_gathers 41 = .ok (.iload 4, 2) := by decide +kernel
theorem dX10_gathers_43 : decode cX10_gathers 43 = .ok (.iadd, 1) := by decide +kernel
theorem dX10_gathers_44 : decode cX10_gathers 44 = .ok (.iaload, 1) := by decide +kernel
theorem dX10_gathers_45 : decode cX10_gathers 45 = .ok (.iconst 1, 1) := by decide +kernel
theorem dX10_gathers_46 : decode cX10_gathers 46 = .ok (.if_icmp .ne 6, 3) := by decide +kernel
theorem dX10_gathers_49 : decode cX10_gathers 49 = .ok (.goto 61, 3) := by decide +kernel
theorem dX10_gathers_52 : decode cX10_gathers 52 = .ok (.aload_n 0, 1) := by decide +kernel
theorem dX10_gathers_53 : decode cX10_gathers 53 = .ok (.iload_n 1, 1) := by decide +kernel
theorem dX10_gathers_54 : decode cX10_gathers 54 = .ok (.invokevirtual 149, 3) := by decide +kernel
theorem dX10_gathers_57 : decode cX10_gathers 57 = .ok (.ifCond .eq 20, 3) := by decide +kernel
theorem dX10_gathers_60 : decode cX10_gathers 60 = .ok (.aload_n 0, 1) := by decide +kernel
theorem dX10_gathers_61 : decode cX10_gathers 61 = .ok (.iload 4, 2) := by decide +kernel
theorem dX10_gathers_63 : decode cX10_gathers 63 = .ok (.invokevirtual 67, 3) := by decide +kernel
theorem dX10_gathers_66 : decode cX10_gathers 66 = .ok (.iload_n 2, 1) := by decide +kernel
theorem dX10_gathers_67 : decode cX10_gathers 67 = .ok (.iload_n 3, 1) := by decide +kernel
theorem dX10_gathers_68 : decode cX10_gathers 68 = .ok (.invokestatic 113, 3) := by decide +kernel
theorem dX10_gathers_71 : decode cX10_gathers 71 = .ok (.ifCond .ne 23, 3) := by decide +kernel
theorem dX10_gathers_74 : decode cX10_gathers 74 = .ok (.goto 36, 3) := by decide +kernel
theorem dX10_gathers_77 : decode cX10_gathers 77 = .ok (.aload_n 0, 1) := by decide +kernel
theorem dX10_gathers_78 : decode cX10_gathers 78 = .ok (.getfield 10, 3) := by decide +kernel
theorem dX10_gathers_81 : decode cX10_gathers 81 = .ok (.sipush 574, 3) := by decide +kernel
theorem dX10_gathers_84 : decode cX10_gathers 84 = .ok (.iload 4, 2) := by decide +kernel
theorem dX10_gathers_86 : decode cX10_gathers 86 = .ok (.iadd, 1) := by decide +kernel
theorem dX10_gathers_87 : decode cX10_gathers 87 = .ok (.iaload, 1) := by decide +kernel
theorem dX10_gathers_88 : decode cX10_gathers 88 = .ok (.ifCond .eq 6, 3) := by decide +kernel
theorem dX10_gathers_91 : decode cX10_gathers 91 = .ok (.goto 19, 3) := by decide +kernel
theorem dX10_gathers_94 : decode cX10_gathers 94 = .ok (.aload_n 0, 1) := by decide +kernel
theorem dX10_gathers_95 : decode cX10_gathers 95 = .ok (.dup, 1) := by decide +kernel
theorem dX10_gathers_96 : decode cX10_gathers 96 = .ok (.getfield 142, 3) := by decide +kernel
theorem dX10_gathers_99 : decode cX10_gathers 99 = .ok (.iconst 1, 1) := by decide +kernel
theorem dX10_gathers_100 : decode cX10_gathers 100 = .ok (.iadd, 1) := by decide +kernel
theorem dX10_gathers_101 : decode cX10_gathers 101 = .ok (.putfield 142, 3) := by decide +kernel
theorem dX10_gathers_104 : decode cX10_gathers 104 = .ok (.aload_n 0, 1) := by decide +kernel
theorem dX10_gathers_105 : decode cX10_gathers 105 = .ok (.iload 4, 2) := by decide +kernel
theorem dX10_gathers_107 : decode cX10_gathers 107 = .ok (.putfield 146, 3) := by decide +kernel
theorem dX10_gathers_110 : decode cX10_gathers 110 = .ok (.iinc 4 (-1), 3) := by decide +kernel
theorem dX10_gathers_113 : decode cX10_gathers 113 = .ok (.goto (-99), 3) := by decide +kernel
theorem dX10_gathers_116 : decode cX10_gathers 116 = .ok (.aload_n 0, 1) := by decide +kernel
theorem dX10_gathers_117 : decode cX10_gathers 117 = .ok (.iconst 0, 1) := by decide +kernel
theorem dX10_gathers_118 : decode cX10_gathers 118 = .ok (.iconst 1, 1) := by decide +kernel
theorem dX10_gathers_119 : decode cX10_gathers 119 = .ok (.invokevirtual 53, 3) := by decide +kernel
theorem dX10_gathers_122 : decode cX10_gathers 122 = .ok (.return_, 1) := by decide +kernel
set_option maxRecDepth 20000 in
theorem zl_X10_gathers_1 : z_All z_tab cX10_gathers 5 none RX10 pc_X10_gathers 40 (k_X10_gathers.drop 40) := z_cons (ok_getr (k := 0) ⟨by decide, by decide, by decide⟩ (ci := 8) (T := TX10) rfl rfl (Nat.le_of_ble_eq_true rfl) iw_X10 qw_616 gr_11_0 (fun _ _ => by simp) (fun w i => List.mem_of_getElem? (i := 0) rfl) dX10_gathers_78 rfl rfl) <| z_cons (ok_sipush (by decide) dX10_gathers_81 rfl rfl) <| z_cons (ok_iload dX10_gathers_84 rfl rfl) <| z_cons (ok_iadd dX10_gathers_86 rfl rfl) <| z_cons (ok_iald dX10_gathers_87 rfl rfl) <| z_cons (ok_if_eq (tgt := 94) (by decide) rfl dX10_gathers_88 rfl rfl) <| z_cons (ok_goto (tgt := 110) (by decide) rfl dX10_gathers_91 rfl) <| z_cons (ok_aload_n dX10_gathers_94 rfl rfl) <| z_cons (ok_dup dX10_gathers_95 rfl rfl) <| z_cons (ok_get ⟨by decide, by decide, by decide⟩ (ci := 8) (T := TX10) rfl rfl (Nat.le_of_ble_eq_true rfl) iw_X10 qw_745 gv_11_5 dX10_gathers_96 rfl rfl) <| z_cons (ok_iconst (by decide) dX10_gathers_99 rfl rfl) <| z_cons (ok_iadd dX10_gathers_100 rfl rfl) <| z_cons (ok_put ⟨by decide, by decide, by decide⟩ (ci := 8) (T := TX10) rfl rfl (Nat.le_of_ble_eq_true rfl) iw_X10 qw_745 tyX10_ok nmX10 rfl pv_11_5 rfl dX10_gathers_101 rfl rfl) <| z_cons (ok_aload_n dX10_gathers_104 rfl rfl) <| z_cons (ok_iload dX10_gathers_105 rfl rfl) <| z_cons (ok_put ⟨by decide, by decide, by decide⟩ (ci := 8) (T := TX10) rfl rfl (Nat.le_of_ble_eq_true rfl) iw_X10 qw_746 tyX10_ok nmX10 rfl pv_11_6 rfl dX10_gathers_107 rfl rfl) <| z_cons (ok_iinc (by decide) (Nat.le_of_ble_eq_true rfl) dX10_gathers_110 rfl rfl) <| z_cons (ok_goto (tgt := 14) (by decide) rfl dX10_gathers_113 rfl) <| z_cons (ok_aload_n dX10_gathers_116 rfl rfl) <| z_cons (ok_iconst (by decide) dX10_gathers_117 rfl rfl) <| z_cons (ok_iconst (by decide) dX10_gathers_118 rfl rfl) <| z_cons (ok_callv ⟨by decide, by decide, by decide⟩ (ci := 8) (C := RX10) (T := TX10) rfl go_11 (k := 168) (n := 2) qw_638 qw_618 ⟨by decide +kernel, by decide +kernel, by decide +kernel⟩ (Nat.le_of_ble_eq_true rfl) qw_639 qw_640 qw_641 dX10_gathers_119 rfl rfl) <| z_cons (ok_ret rfl dX10_gathers_122 rfl) <| z_nil
set_option maxRecDepth 20000 in
theorem zl_X10_gathers_0 : z_All z_tab cX10_gathers 5 none RX10 pc_X10_gathers 0 (k_X10_gathers.drop 0) := z_cons (ok_aload_n dX10_gathers_0 rfl rfl) <| z_cons (ok_iconst (by decide) dX10_gathers_1 rfl rfl) <| z_cons (ok_put ⟨by decide, by decide, by decide⟩ (ci := 8) (T := TX10) rfl rfl (Nat.le_of_ble_eq_true rfl) iw_X10 qw_745 tyX10_ok nmX10 rfl pv_11_5 rfl dX10_gathers_2 rfl rfl) <| z_cons (ok_aload_n dX10_gathers_5 rfl rfl) <| z_cons (ok_iconst (by decide) dX10_gathers_6 rfl rfl) <| z_cons (ok_put ⟨by decide, by decide, by decide⟩ (ci := 8) (T := TX10) rfl rfl (Nat.le_of_ble_eq_true rfl) iw_X10 qw_746 tyX10_ok nmX10 rfl pv_11_6 rfl dX10_gathers_7 rfl rfl) <| z_cons (ok_bipush (by decide) dX10_gathers_10 rfl rfl) <| z_cons (ok_istore (Nat.le_of_ble_eq_true rfl) dX10_gathers_12 rfl rfl) <| z_cons (ok_iload dX10_gathers_14 rfl rfl) <| z_cons (ok_if_lt (tgt := 116) (by decide) rfl dX10_gathers_16 rfl rfl) <| z_cons (ok_aload_n dX10_gathers_19 rfl rfl) <| z_cons (ok_getr (k := 0) ⟨by decide, by decide, by decide⟩ (ci := 8) (T := TX10) rfl rfl (Nat.le_of_ble_eq_true rfl) iw_X10 qw_616 gr_11_0 (fun _ _ => by simp) (fun w i => List.mem_of_getElem? (i := 0) rfl) dX10_gathers_20 rfl rfl) <| z_cons (ok_sipush (by decide) dX10_gathers_23 rfl rfl) <| z_cons (ok_iload dX10_gathers_26 rfl rfl) <| z_cons (ok_iadd dX10_gathers_28 rfl rfl) <| z_cons (ok_iald dX10_gathers_29 rfl rfl) <| z_cons (ok_iload_n dX10_gathers_30 rfl rfl) <| z_cons (ok_icmp_ne (tgt := 110) (by decide) rfl dX10_gathers_31 rfl rfl) <| z_cons (ok_aload_n dX10_gathers_34 rfl rfl) <| z_cons (ok_getr (k := 0) ⟨by decide, by decide, by decide⟩ (ci := 8) (T := TX10) rfl rfl (Nat.le_of_ble_eq_true rfl) iw_X10 qw_616 gr_11_0 (fun _ _ => by simp) (fun w i => List.mem_of_getElem? (i := 0) rfl) dX10_gathers_35 rfl rfl) <| z_cons (ok_sipush (by decide) dX10_gathers_38 rfl rfl) <| z_cons (ok_iload dX10_gathers_41 rfl rfl) <| z_cons (ok_iadd dX10_gathers_43 rfl rfl) <| z_cons (ok_iald dX10_gathers_44 rfl rfl) <| z_cons (ok_iconst (by decide) dX10_gathers_45 rfl rfl) <| z_cons (ok_icmp_ne (tgt := 52) (by decide) rfl dX10_gathers_46 rfl rfl) <| z_cons (ok_goto (tgt := 110) (by decide) rfl dX10_gathers_49 rfl) <| z_cons (ok_aload_n dX10_gathers_52 rfl rfl) <| z_cons (ok_iload_n dX10_gathers_53 rfl rfl) <| z_cons (ok_callv ⟨by decide, by decide, by decide⟩ (ci := 8) (C := RX10) (T := TX10) rfl go_11 (k := 206) (n := 1) qw_747 qw_618 ⟨by decide +kernel, by decide +kernel, by decide +kernel⟩ (Nat.le_of_ble_eq_true rfl) qw_748 qw_749 qw_750 dX10_gathers_54 rfl rfl) <| z_cons (ok_if_eq (tgt := 77) (by decide) rfl dX10_gathers_57 rfl rfl) <| z_cons (ok_aload_n dX10_gathers_60 rfl rfl) <| z_cons (ok_iload dX10_gathers_61 rfl rfl) <| z_cons (ok_callv ⟨by decide, by decide, by decide⟩ (ci := 8) (C := RX10) (T := TX10) rfl go_11 (k := 171) (n := 1) qw_653 qw_618 ⟨by decide +kernel, by decide +kernel, by decide +kernel⟩ (Nat.le_of_ble_eq_true rfl) qw_654 qw_655 qw_656 dX10_gathers_63 rfl rfl) <| z_cons (ok_iload_n dX10_gathers_66 rfl rfl) <| z_cons (ok_iload_n dX10_gathers_67 rfl rfl) <| z_cons (ok_callS (k := 203) (n := 3) qw_712 qw_618 ⟨by decide +kernel, by decide +kernel, by decide +kernel⟩ (Nat.le_of_ble_eq_true rfl) qw_714 qw_713 dX10_gathers_68 rfl rfl) <| z_cons (ok_if_ne (tgt := 94) (by decide) rfl dX10_gathers_71 rfl rfl) <| z_cons (ok_goto (tgt := 110) (by decide) rfl dX10_gathers_74 rfl) <| z_cons (ok_aload_n dX10_gathers_77 rfl rfl) <| zl_X10_gathers_1
theorem dX10_isEmpty_0 : decode cX10_isEmpty 0 = .ok (.aload_n 0, 1) := by decide +kernel
theorem dX10_isEmpty_1 : decode cX10_isEmpty 1 = .ok (.getfield 10, 3) := by decide +kernel
theorem dX10_isEmpty_4 : decode cX10_isEmpty 4 = .ok (.sipush 310, 3) := by decide +kernel
theorem dX10_isEmpty_7 : decode cX10_isEmpty 7 = .ok (.iload_n 1, 1) := by decide +kernel
theorem dX10_isEmpty_8 : decode cX10_isEmpty 8 = .ok (.iadd, 1) := by decide +kernel
theorem dX10_isEmpty_9 : decode cX10_isEmpty 9 = .ok (.dup2, 1) := by decide +kernel
theorem dX10_isEmpty_10 : decode cX10_isEmpty 10 = .ok (.iaload, 1) := by decide +kernel
theorem dX10_isEmpty_11 : decode cX10_isEmpty 11 = .ok (.iconst 1, 1) := by decide +kernel
theorem dX10_isEmpty_12 : decode cX10_isEmpty 12 = .ok (.iadd, 1) := by decide +kernel
theorem dX10_isEmpty_13 : decode cX10_isEmpty 13 = .ok (.iastore, 1) := by decide +kernel
theorem dX10_isEmpty_14 : decode cX10_isEmpty 14 = .ok (.aload_n 0, 1) := by decide +kernel
theorem dX10_isEmpty_15 : decode cX10_isEmpty 15 = .ok (.iconst 1, 1) := by decide +kernel
theorem dX10_isEmpty_16 : decode cX10_isEmpty 16 = .ok (.iconst 1, 1) := by decide +kernel
theorem dX10_isEmpty_17 : decode cX10_isEmpty 17 = .ok (.invokevirtual 53, 3) := by decide +kernel
theorem dX10_isEmpty_20 : decode cX10_isEmpty 20 = .ok (.aload_n 0, 1) := by decide +kernel
theorem dX10_isEmpty_21 : decode cX10_isEmpty 21 = .ok (.iload_n 1, 1) := by decide +kernel
theorem dX10_isEmpty_22 : decode cX10_isEmpty 22 = .ok (.iconst 1, 1) := by decide +kernel
theorem dX10_isEmpty_23 : decode cX10_isEmpty 23 = .ok (.iconst 0, 1) := by decide +kernel
theorem dX10_isEmpty_24 : decode cX10_isEmpty 24 = .ok (.invokevirtual 86, 3) := by decide +kernel
theorem dX10_isEmpty_27 : decode cX10_isEmpty 27 = .ok (.return_, 1) := by decide +kernel
set_option maxRecDepth 20000 in
theorem zl_X10_isEmpty_0 : z_All z_tab cX10_isEmpty 2 none RX10 pc_X10_isEmpty 0 (k_X10_isEmpty.drop 0) := z_cons (ok_aload_n dX10_isEmpty_0 rfl rfl) <| z_cons (ok_getr (k := 0) ⟨by decide, by decide, by decide⟩ (ci := 8) (T := TX10) rfl rfl (Nat.le_of_ble_eq_true rfl) iw_X10 qw_616 gr_11_0 (fun _ _ => by simp) (fun w i => List.mem_of_getElem? (i := 0) rfl) dX10_isEmpty_1 rfl rfl) <| z_cons (ok_sipush (by decide) dX10_isEmpty_4 rfl rfl) <| z_cons (ok_iload_n dX10_isEmpty_7 rfl rfl) <| z_cons (ok_iadd dX10_isEmpty_8 rfl rfl) <| z_cons (ok_dup2 dX10_isEmpty_9 rfl rfl) <| z_cons (ok_iald dX10_isEmpty_10 rfl rfl) <| z_cons (ok_iconst (by decide) dX10_isEmpty_11 rfl rfl) <| z_cons (ok_iadd dX10_isEmpty_12 rfl rfl) <| z_cons (ok_iast dX10_isEmpty_13 rfl rfl) <| z_cons (ok_aload_n dX10_isEmpty_14 rfl rfl) <| z_cons (ok_iconst (by decide) dX10_isEmpty_15 rfl rfl) <| z_cons (ok_iconst (by decide) dX10_isEmpty_16 rfl rfl) <| z_cons (ok_callv ⟨by decide, by decide, by decide⟩ (ci := 8) (C := RX10) (T := TX10) rfl go_11 (k := 168) (n := 2) qw_638 qw_618 ⟨by decide +kernel, by decide +kernel, by decide +kernel⟩ (Nat.le_of_ble_eq_true rfl) qw_639 qw_640 qw_641 dX10_isEmpty_17 rfl rfl) <| z_cons (ok_aload_n dX10_isEmpty_20 rfl rfl) <| z_cons (ok_iload_n dX10_isEmpty_21 rfl rfl) <| z_cons (ok_iconst (by decide) dX10_isEmpty_22 rfl rfl) <| z_cons (ok_iconst (by decide) dX10_isEmpty_23 rfl rfl) <| z_cons (ok_callv ⟨by decide, by decide, by decide⟩ (ci := 8) (C := RX10) (T := TX10) rfl go_11 (k := 169) (n := 3) qw_681 qw_618 ⟨by decide +kernel, by decide +kernel, by decide +kernel⟩ (Nat.le_of_ble_eq_true rfl) qw_682 qw_683 qw_684 dX10_isEmpty_24 rfl rfl) <| z_cons (ok_ret rfl dX10_isEmpty_27 rfl) <| z_nil
