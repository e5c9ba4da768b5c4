theorem dX10_fadesIn_0 : decode cX10_fadesIn 0 = .ok (.aload_n 0, 1) := by decide +kernel
theorem dX10_fadesIn_1 : decode cX10_fadesIn 1 = .ok (.iload_n 1, 1) := by decide +kernel
theorem dX10_fadesIn_2 : decode cX10_fadesIn 2 = .ok (.invokevirtual 74, 3) := by decide +kernel
theorem dX10_fadesIn_5 : decode cX10_fadesIn 5 = .ok (.ifCond .eq 12, 3) := by decide +kernel
theorem dX10_fadesIn_8 : decode cX10_fadesIn 8 = .ok (.iload_n 2, 1) := by decide +kernel
theorem dX10_fadesIn_9 : decode cX10_fadesIn 9 = .ok (.iconst 0, 1) := by decide +kernel
theorem dX10_fadesIn_10 : decode cX10_fadesIn 10 = .ok (.iconst 4, 1) := by decide +kernel
theorem dX10_fadesIn_11 : decode cX10_fadesIn 11 = .ok (.invokestatic 32, 3) := by decide +kernel
theorem dX10_fadesIn_14 : decode cX10_fadesIn 14 = .ok (.ifCond .ne 5, 3) := by decide +kernel
theorem dX10_fadesIn_17 : decode cX10_fadesIn 17 = .ok (.iconst (-1), 1) := by decide +kernel
theorem dX10_fadesIn_18 : decode cX10_fadesIn 18 = .ok (.ireturn, 1) := by decide +kernel
theorem dX10_fadesIn_19 : decode cX10_fadesIn 19 = .ok (.aload_n 0, 1) := by decide +kernel
theorem dX10_fadesIn_20 : decode cX10_fadesIn 20 = .ok (.iload_n 1, 1) := by decide +kernel
theorem dX10_fadesIn_21 : decode cX10_fadesIn 21 = .ok (.iload_n 2, 1) := by decide +kernel
theorem dX10_fadesIn_22 : decode cX10_fadesIn 22 = .ok (.invokevirtual 45, 3) := by decide +kernel
theorem dX10_fadesIn_25 : decode cX10_fadesIn 25 = .ok (.ifCond .ne 5, 3) := by decide +kernel
theorem dX10_fadesIn_28 : decode cX10_fadesIn 28 = .ok (.iconst 0, 1) := by decide +kernel
theorem dX10_fadesIn_29 : decode cX10_fadesIn 29 = .ok (.ireturn, 1) := by decide +kernel
theorem dX10_fadesIn_30 : decode cX10_fadesIn 30 = .ok (.iload_n 2, 1) := by decide +kernel
theorem dX10_fadesIn_31 : decode cX10_fadesIn 31 = .ok (.ifCond .eq 22, 3) := by decide +kernel
theorem dX10_fadesIn_34 : decode cX10_fadesIn 34 = .ok (.iload_n 2, 1) := by decide +kernel
theorem dX10_fadesIn_35 : decode cX10_fadesIn 35 = .ok (.iconst 1, 1) := by decide +kernel
theorem dX10_fadesIn_36 : decode cX10_fadesIn 36 = .ok (.if_icmp .le 19, 3) := by decide +kernel
theorem dX10_fadesIn_39 : decode cX10_fadesIn 39 = .ok (.aload_n 0, 1) := by decide +kernel
theorem dX10_fadesIn_40 : decode cX10_fadesIn 40 = .ok (.getfield 10, 3) := by decide +kernel
theorem dX10_fadesIn_43 : decode cX10_fadesIn 43 = .ok (.sipush 670, 3) := by decide +kernel
theorem dX10_fadesIn_46 : decode cX10_fadesIn 46 = .ok (.iload_n 1, 1) := by decide +kernel
theorem dX10_fadesIn_47 : decode cX10_fadesIn 47 = .ok (.iadd, 1) := by decide +kernel
theorem dX10_fadesIn_48 : decode cX10_fadesIn 48 = .ok (.iaload, 1) := by decide +kernel
theorem dX10_fadesIn_49 : decode cX10_fadesIn 49 = .ok (.iconst (-1), 1) := by decide +kernel
theorem dX10_fadesIn_50 : decode cX10_fadesIn 50 = .ok (.if_icmp .ne 5, 3) := by decide +kernel
theorem dX10_fadesIn_53 : decode cX10_fadesIn 53 = .ok (.iconst (-1), 1) := by decide +kernel
theorem dX10_fadesIn_54 : decode cX10_fadesIn 54 = .ok (.ireturn, 1) := by decide +kernel
theorem dX10_fadesIn_55 : decode cX10_fadesIn 55 = .ok (.iload_n 2, 1) := by decide +kernel
theorem dX10_fadesIn_56 : decode cX10_fadesIn 56 = .ok (.iconst 1, 1) := by decide +kernel
theorem dX10_fadesIn_57 : decode cX10_fadesIn 57 = .ok (.if_icmp .ne 23, 3) := by decide +kernel
theorem dX10_fadesIn_60 : decode cX10_fadesIn 60 = .ok (.aload_n 0, 1) := by decide +kernel
theorem dX10_fadesIn_61 : decode cX10_fadesIn 61 = .ok (.getfield 10, 3) := by decide +kernel
theorem dX10_fadesIn_64 : decode cX10_fadesIn 64 = .ok (.sipush 646, 3) := by decide +kernel
theorem dX10_fadesIn_67 : decode cX10_fadesIn 67 = .ok (.iload_n 1, 1) := by decide +kernel
theorem dX10_fadesIn_68 : decode cX10_fadesIn 68 = .ok (.iadd, 1) := by decide +kernel
theorem dX10_fadesIn_69 : decode cX10_fadesIn 69 = .ok (.iaload, 1) := by decide +kernel
theorem dX10_fadesIn_70 : decode cX10_fadesIn 70 = .ok (.aload_n 0, 1) := by decide +kernel
theorem dX10_fadesIn_71 : decode cX10_fadesIn 71 = .ok (.getfield 10, 3) := by decide +kernel
theorem dX10_fadesIn_74 : decode cX10_fadesIn 74 = .ok (.iconst 2, 1) := by decide +kernel
theorem dX10_fadesIn_75 : decode cX10_fadesIn 75 = .ok (.iaload, 1) := by decide +kernel
theorem dX10_fadesIn_76 : decode cX10_fadesIn 76 = .ok (.iadd, 1) := by decide +kernel
theorem dX10_fadesIn_77 : decode cX10_fadesIn 77 = .ok (.goto 20, 3) := by decide +kernel
theorem dX10_fadesIn_80 : decode cX10_fadesIn 80 = .ok (.aload_n 0, 1) := by decide +kernel
theorem dX10_fadesIn_81 : decode cX10_fadesIn 81 = .ok (.getfield 10, 3) := by decide +kernel
theorem dX10_fadesIn_84 : decode cX10_fadesIn 84 = .ok (.sipush 670, 3) := by decide +kernel
theorem dX10_fadesIn_87 : decode cX10_fadesIn 87 = .ok (.iload_n 1, 1) := by decide +kernel
theorem dX10_fadesIn_88 : decode cX10_fadesIn 88 = .ok (.iadd, 1) := by decide +kernel
theorem dX10_fadesIn_89 : decode cX10_fadesIn 89 = .ok (.iaload, 1) := by decide +kernel
theorem dX10_fadesIn_90 : decode cX10_fadesIn 90 = .ok (.aload_n 0, 1) := by decide +kernel
theorem dX10_fadesIn_91 : decode cX10_fadesIn 91 = .ok (.getfield 10, 3) := by decide +kernel
theorem dX10_fadesIn_94 : decode cX10_fadesIn 94 = .ok (.iconst 3, 1) := by decide +kernel
theorem dX10_fadesIn_95 : decode cX10_fadesIn 95 = .ok (.iaload, 1) := by decide +kernel
theorem dX10_fadesIn_96 : decode cX10_fadesIn 96 = .ok (.iadd, 1) := by decide +kernel
theorem dX10_fadesIn_97 : decode cX10_fadesIn 97 = .ok (.istore_n 3, 1) := by decide +kernel
theorem dX10_fadesIn_98 : decode cX10_fadesIn 98 = .ok (.iload_n 3, 1) := by decide +kernel
theorem dX10_fadesIn_99 : decode cX10_fadesIn 99 = .ok (.aload_n 0, 1) := by decide +kernel
theorem dX10_fadesIn_100 : decode cX10_fadesIn 100 = .ok (.getfield 10, 3) := by decide +kernel
theorem dX10_fadesIn_103 : decode cX10_fadesIn 103 = .ok (.iconst 0, 1) := by decide +kernel
theorem dX10_fadesIn_104 : decode cX10_fadesIn 104 = .ok (.iaload, 1) := by decide +kernel
theorem dX10_fadesIn_105 : decode cX10_fadesIn 105 = .ok (.isub, 1) := by decide +kernel
theorem dX10_fadesIn_106 : decode cX10_fadesIn 106 = .ok (.iconst 1, 1) := by decide +kernel
theorem dX10_fadesIn_107 : decode cX10_fadesIn 107 = .ok (.if_icmp .ge 7, 3) := by decide +kernel
theorem dX10_fadesIn_110 : decode cX10_fadesIn 110 = .ok (.iconst 1, 1) := by decide +kernel
theorem dX10_fadesIn_111 : decode cX10_fadesIn 111 = .ok (.goto 11, 3) := by decide +kernel
theorem dX10_fadesIn_114 : decode cX10_fadesIn 114 = .ok (.iload_n 3, 1) := by decide +kernel
theorem dX10_fadesIn_115 : decode cX10_fadesIn 115 = .ok (.aload_n 0, 1) := by decide +kernel
theorem dX10_fadesIn_116 : decode cX10_fadesIn 116 = .ok (.getfield 10, 3) := by decide +kernel
theorem dX10_fadesIn_119 : decode cX10_fadesIn 119 = .ok (.iconst 0, 1) := by decide +kernel
theorem dX10_fadesIn_120 : decode cX10_fadesIn 120 = .ok (.iaload, 1) := by decide +kernel
theorem dX10_fadesIn_121 : decode cX10_fadesIn 121 = .ok (.isub, 1) := by decide +kernel
theorem dX10_fadesIn_122 : decode cX10_fadesIn 122 = .ok (.ireturn, 1) := by decide +kernel
set_option maxRecDepth 20000 in
theorem zl_X10_fadesIn_1 : z_All z_tab cX10_fadesIn 4 (some .int) RX10 pc_X10_fadesIn 40 (k_X10_fadesIn.drop 40) := z_cons (ok_iadd dX10_fadesIn_68 rfl rfl) <| z_cons (ok_iald dX10_fadesIn_69 rfl rfl) <| z_cons (ok_aload_n dX10_fadesIn_70 rfl rfl) <| z_cons (ok_getr (k := 0) ⟨by decide, by decide, by decide⟩ (ci := 8) (T := TX10) rfl rfl (Nat.le_of_ble_eq_true rfl) iw_X10 qw_616 gr_11_0 (fun _ _ => by simp) (fun w i => List.mem_of_getElem? (i := 0) rfl) dX10_fadesIn_71 rfl rfl) <| z_cons (ok_iconst (by decide) dX10_fadesIn_74 rfl rfl) <| z_cons (ok_iald dX10_fadesIn_75 rfl rfl) <| z_cons (ok_iadd dX10_fadesIn_76 rfl rfl) <| z_cons (ok_goto (tgt := 97) (by decide) rfl dX10_fadesIn_77 rfl) <| z_cons (ok_aload_n dX10_fadesIn_80 rfl rfl) <| z_cons (ok_getr (k := 0) ⟨by decide, by decide, by decide⟩ (ci := 8) (T := TX10) rfl rfl (Nat.le_of_ble_eq_true rfl) iw_X10 qw_616 gr_11_0 (fun _ _ => by simp) (fun w i => List.mem_of_getElem? (i := 0) rfl) dX10_fadesIn_81 rfl rfl) <| z_cons (ok_sipush (by decide) dX10_fadesIn_84 rfl rfl) <| z_cons (ok_iload_n dX10_fadesIn_87 rfl rfl) <| z_cons (ok_iadd dX10_fadesIn_88 rfl rfl) <| z_cons (ok_iald dX10_fadesIn_89 rfl rfl) <| z_cons (ok_aload_n dX10_fadesIn_90 rfl rfl) <| z_cons (ok_getr (k := 0) ⟨by decide, by decide, by decide⟩ (ci := 8) (T := TX10) rfl rfl (Nat.le_of_ble_eq_true rfl) iw_X10 qw_616 gr_11_0 (fun _ _ => by simp) (fun w i => List.mem_of_getElem? (i := 0) rfl) dX10_fadesIn_91 rfl rfl) <| z_cons (ok_iconst (by decide) dX10_fadesIn_94 rfl rfl) <| z_cons (ok_iald dX10_fadesIn_95 rfl rfl) <| z_cons (ok_iadd dX10_fadesIn_96 rfl rfl) <| z_cons (ok_istore_n (Nat.le_of_ble_eq_true rfl) dX10_fadesIn_97 rfl rfl) <| z_cons (ok_iload_n dX10_fadesIn_98 rfl rfl) <| z_cons (ok_aload_n dX10_fadesIn_99 rfl rfl) <| z_cons (ok_getr (k := 0) ⟨by decide, by decide, by decide⟩ (ci := 8) (T := TX10) rfl rfl (Nat.le_of_ble_eq_true rfl) iw_X10 qw_616 gr_11_0 (fun _ _ => by simp) (fun w i => List.mem_of_getElem? (i := 0) rfl) dX10_fadesIn_100 rfl rfl) <| z_cons (ok_iconst (by decide) dX10_fadesIn_103 rfl rfl) <| z_cons (ok_iald dX10_fadesIn_104 rfl rfl) <| z_cons (ok_isub dX10_fadesIn_105 rfl rfl) <| z_cons (ok_iconst (by decide) dX10_fadesIn_106 rfl rfl) <| z_cons (ok_icmp_ge (tgt := 114) (by decide) rfl dX10_fadesIn_107 rfl rfl) <| z_cons (ok_iconst (by decide) dX10_fadesIn_110 rfl rfl) <| z_cons (ok_goto (tgt := 122) (by decide) rfl dX10_fadesIn_111 rfl) <| z_cons (ok_iload_n dX10_fadesIn_114 rfl rfl) <| z_cons (ok_aload_n dX10_fadesIn_115 rfl rfl) <| z_cons (ok_getr (k := 0) ⟨by decide, by decide, by decide⟩ (ci := 8) (T := TX10) rfl rfl (Nat.le_of_ble_eq_true rfl) iw_X10 qw_616 gr_11_0 (fun _ _ => by simp) (fun w i => List.mem_of_getElem? (i := 0) rfl) dX10_fadesIn_116 rfl rfl) <| z_cons (ok_iconst (by decide) dX10_fadesIn_119 rfl rfl) <| z_cons (ok_iald dX10_fadesIn_120 rfl rfl) <| z_cons (ok_isub dX10_fadesIn_121 rfl rfl) <| z_cons (ok_iret rfl dX10_fadesIn_122 rfl) <| z_nil
set_option maxRecDepth 20000 in
theorem zl_X10_fadesIn_0 : z_All z_tab cX10_fadesIn 4 (some .int) RX10 pc_X10_fadesIn 0 (k_X10_fadesIn.drop 0) := z_cons (ok_aload_n dX10_fadesIn_0 rfl rfl) <| z_cons (ok_iload_n dX10_fadesIn_1 rfl rfl) <| z_cons (ok_callv ⟨by decide, by decide, by decide⟩ (ci := 8) (C := RX10) (T := TX10) rfl go_11 (k := 167) (n := 1) qw_665 qw_618 ⟨by decide +kernel, by decide +kernel, by decide +kernel⟩ (Nat.le_of_ble_eq_true rfl) qw_666 qw_667 qw_668 dX10_fadesIn_2 rfl rfl) <| z_cons (ok_if_eq (tgt := 17) (by decide) rfl dX10_fadesIn_5 rfl rfl) <| z_cons (ok_iload_n dX10_fadesIn_8 rfl rfl) <| z_cons (ok_iconst (by decide) dX10_fadesIn_9 rfl rfl) <| z_cons (ok_iconst (by decide) dX10_fadesIn_10 rfl rfl) <| z_cons (ok_callS (k := 162) (n := 3) qw_617 qw_618 ⟨by decide +kernel, by decide +kernel, by decide +kernel⟩ (Nat.le_of_ble_eq_true rfl) qw_620 qw_619 dX10_fadesIn_11 rfl rfl) <| z_cons (ok_if_ne (tgt := 19) (by decide) rfl dX10_fadesIn_14 rfl rfl) <| z_cons (ok_iconst (by decide) dX10_fadesIn_17 rfl rfl) <| z_cons (ok_iret rfl dX10_fadesIn_18 rfl) <| z_cons (ok_aload_n dX10_fadesIn_19 rfl rfl) <| z_cons (ok_iload_n dX10_fadesIn_20 rfl rfl) <| z_cons (ok_iload_n dX10_fadesIn_21 rfl rfl) <| z_cons (ok_callv ⟨by decide, by decide, by decide⟩ (ci := 8) (C := RX10) (T := TX10) rfl go_11 (k := 174) (n := 2) qw_630 qw_618 ⟨by decide +kernel, by decide +kernel, by decide +kernel⟩ (Nat.le_of_ble_eq_true rfl) qw_631 qw_632 qw_633 dX10_fadesIn_22 rfl rfl) <| z_cons (ok_if_ne (tgt := 30) (by decide) rfl dX10_fadesIn_25 rfl rfl) <| z_cons (ok_iconst (by decide) dX10_fadesIn_28 rfl rfl) <| z_cons (ok_iret rfl dX10_fadesIn_29 rfl) <| z_cons (ok_iload_n dX10_fadesIn_30 rfl rfl) <| z_cons (ok_if_eq (tgt := 53) (by decide) rfl dX10_fadesIn_31 rfl rfl) <| z_cons (ok_iload_n dX10_fadesIn_34 rfl rfl) <| z_cons (ok_iconst (by decide) dX10_fadesIn_35 rfl rfl) <| z_cons (ok_icmp_le (tgt := 55) (by decide) rfl dX10_fadesIn_36 rfl rfl) <| z_cons (ok_aload_n dX10_fadesIn_39 rfl rfl) <| z_cons (ok_getr (k := 0) ⟨by decide, by decide, by decide⟩ (ci := 8) (T := TX10) rfl rfl (Nat.le_of_ble_eq_true rfl) iw_X10 qw_616 gr_11_0 (fun _ _ => by simp) (fun w i => List.mem_of_getElem? (i := 0) rfl) dX10_fadesIn_40 rfl rfl) <| z_cons (ok_sipush (by decide) dX10_fadesIn_43 rfl rfl) <| z_cons (ok_iload_n dX10_fadesIn_46 rfl rfl) <| z_cons (ok_iadd dX10_fadesIn_47 rfl rfl) <| z_cons (ok_iald dX10_fadesIn_48 rfl rfl) <| z_cons (ok_iconst (by decide) dX10_fadesIn_49 rfl rfl) <| z_cons (ok_icmp_ne (tgt := 55) (by decide) rfl dX10_fadesIn_50 rfl rfl) <| z_cons (ok_iconst (by decide) dX10_fadesIn_53 rfl rfl) <| z_cons (ok_iret rfl dX10_fadesIn_54 rfl) <| z_cons (ok_iload_n dX10_fadesIn_55 rfl rfl) <| z_cons (ok_iconst (by decide) dX10_fadesIn_56 rfl rfl) <| z_cons (ok_icmp_ne (tgt := 80) (by decide) rfl dX10_fadesIn_57 rfl rfl) <| z_cons (ok_aload_n dX10_fadesIn_60 rfl rfl) <| z_cons (ok_getr (k := 0) ⟨by decide, by decide, by decide⟩ (ci := 8) (T := TX10) rfl rfl (Nat.le_of_ble_eq_true rfl) iw_X10 qw_616 gr_11_0 (fun _ _ => by simp) (fun w i => List.mem_of_getElem? (i := 0) rfl) dX10_fadesIn_61 rfl rfl) <| z_cons (ok_sipush (by decide) dX10_fadesIn_64 rfl rfl) <| z_cons (ok_iload_n dX10_fadesIn_67 rfl rfl) <| zl_X10_fadesIn_1
theorem dX10_wasRead_0 : decode cX10_wasRead 0 = .ok (.iconst 0, 1) := by decide +kernel
theorem dX10_wasRead_1 : decode cX10_wasRead 1 = .ok (.istore_n 3, 1) := by decide +kernel
theorem dX10_wasRead_2 : decode cX10_wasRead 2 = .ok (.iload_n 3, 1) := by decide +kernel
theorem dX10_wasRead_3 : decode cX10_wasRead 3 = .ok (.aload_n 0, 1) := by decide +kernel
theorem dX10_wasRead_4 : decode cX10_wasRead 4 = .ok (.getfield 10, 3) := by decide +kernel
theorem dX10_wasRead_7 : decode cX10_wasRead 7 = .ok (.sipush 306, 3) := by decide +kernel
theorem dX10_wasRead_10 : decode cX10_wasRead 10 = .ok (.iload_n 1, 1) := by decide +kernel
theorem dX10_wasRead_11 : decode cX10_wasRead 11 = .ok (.iadd, 1) := by decide +kernel
theorem dX10_wasRead_12 : decode cX10_wasRead 12 = .ok (.iaload, 1) := by decide +kernel
theorem dX10_wasRead_13 : decode cX10_wasRead 13 = .ok (.if_icmp .ge 30, 3) := by decide +kernel
theorem dX10_wasRead_16 : decode cX10_wasRead 16 = .ok (.aload_n 0, 1) := by decide +kernel
theorem dX10_wasRead_17 : decode cX10_wasRead 17 = .ok (.getfield 10, 3) := by decide +kernel
theorem dX10_wasRead_20 : decode cX10_wasRead 20 = .ok (.sipush 358, 3) := by decide +kernel
theorem dX10_wasRead_23 : decode cX10_wasRead 23 = .ok (.bipush 24, 2) := by decide +kernel
theorem dX10_wasRead_25 : decode cX10_wasRead 25 = .ok (.iload_n 1, 1) := by decide +kernel
theorem dX10_wasRead_26 : decode cX10_wasRead 26 = .ok (.imul, 1) := by decide +kernel
theorem dX10_wasRead_27 : decode cX10_wasRead 27 = .ok (.iadd, 1) := by decide +kernel
theorem dX10_wasRead_28 : decode cX10_wasRead 28 = .ok (.iload_n 3, 1) := by decide +kernel
theorem dX10_wasRead_29 : decode cX10_wasRead 29 = .ok (.iadd, 1) := by decide +kernel
theorem dX10_wasRead_30 : decode cX10_wasRead 30 = .ok (.iaload, 1) := by decide +kernel
theorem dX10_wasRead_31 : decode cX10_wasRead 31 = .ok (.iload_n 2, 1) := by decide +kernel
theorem dX10_wasRead_32 : decode cX10_wasRead 32 = .ok (.if_icmp .ne 5, 3) := by decide +kernel
theorem dX10_wasRead_35 : decode cX10_wasRead 35 = .ok (.iconst 1, 1) := by decide +kernel
theorem dX10_wasRead_36 : decode cX10_wasRead 36 = .ok (.ireturn, 1) := by decide +kernel
theorem dX10_wasRead_37 : decode cX10_wasRead 37 = .ok (.iinc 3 1, 3) := by decide +kernel
theorem dX10_wasRead_40 : decode cX10_wasRead 40 = .ok (.goto (-38), 3) := by decide +kernel
theorem dX10_wasRead_43 : decode cX10_wasRead 43 = .ok (.iconst 0, 1) := by decide +kernel
theorem dX10_wasRead_44 : decode cX10_wasRead 44 = .ok (.ireturn, 1) := by decide +kernel
set_option maxRecDepth 20000 in
theorem zl_X10_wasRead_0 : z_All z_tab cX10_wasRead 4 (some .boolean) RX10 pc_X10_wasRead 0 (k_X10_wasRead.drop 0) := z_cons (ok_iconst (by decide) dX10_wasRead_0 rfl rfl) <| z_cons (ok_istore_n (Nat.le_of_ble_eq_true rfl) dX10_wasRead_1 rfl rfl) <| z_cons (ok_iload_n dX10_wasRead_2 rfl rfl) <| z_cons (ok_aload_n dX10_wasRead_3 rfl rfl) <| z_cons (ok_getr (k := 0) ⟨by decide, by decide, by decide⟩ (ci := 8) (T := TX10) rfl rfl (Nat.le_of_ble_eq_true rfl) iw_X10 qw_616 gr_11_0 (fun _ _ => by simp) (fun w i => List.mem_of_getElem? (i := 0) rfl) dX10_wasRead_4 rfl rfl) <| z_cons (ok_sipush (by decide) dX10_wasRead_7 rfl rfl) <| z_cons (ok_iload_n dX10_wasRead_10 rfl rfl) <| z_cons (ok_iadd dX10_wasRead_11 rfl rfl) <| z_cons (ok_iald dX10_wasRead_12 rfl rfl) <| z_cons (ok_icmp_ge (tgt := 43) (by decide) rfl dX10_wasRead_13 rfl rfl) <| z_cons (ok_aload_n dX10_wasRead_16 rfl rfl) <| z_cons (ok_getr (k := 0) ⟨by decide, by decide, by decide⟩ (ci := 8) (T := TX10) rfl rfl (Nat.le_of_ble_eq_true rfl) iw_X10 qw_616 gr_11_0 (fun _ _ => by simp) (fun w i => List.mem_of_getElem? (i := 0) rfl) dX10_wasRead_17 rfl rfl) <| z_cons (ok_sipush (by decide) dX10_wasRead_20 rfl rfl) <| z_cons (ok_bipush (by decide) dX10_wasRead_23 rfl rfl) <| z_cons (ok_iload_n dX10_wasRead_25 rfl rfl) <| z_cons (ok_imul dX10_wasRead_26 rfl rfl) <| z_cons (ok_iadd dX10_wasRead_27 rfl rfl) <| z_cons (ok_iload_n dX10_wasRead_28 rfl rfl) <| z_cons (ok_iadd dX10_wasRead_29 rfl rfl) <| z_cons (ok_iald dX10_wasRead_30 rfl rfl) <| z_cons (ok_iload_n dX10_wasRead_31 rfl rfl) <| z_cons (ok_icmp_ne (tgt := 37) (by decide) rfl dX10_wasRead_32 rfl rfl) <| z_cons (ok_iconst (by decide) dX10_wasRead_35 rfl rfl) <| z_cons (ok_zret rfl dX10_wasRead_36 rfl) <| z_cons (ok_iinc (by decide) (Nat.le_of_ble_eq_true rfl) dX10_wasRead_37 rfl rfl) <| z_cons (ok_goto (tgt := 2) (by decide) rfl dX10_wasRead_40 rfl) <| z_cons (ok_iconst (by decide) dX10_wasRead_43 rfl rfl) <| z_cons (ok_zret rfl dX10_wasRead_44 rfl) <| z_nil
theorem dX10_both_0 : decode cX10_both 0 = .ok (.iload_n 1, 1) := by decide +kernel
theorem dX10_both_1 : decode cX10_both 1 = .ok (.invokestatic 64, 3) := by decide +kernel
theorem dX10_both_4 : decode cX10_both 4 = .ok (.ifCond .eq 15, 3) := by decide +kernel
theorem dX10_both_7 : decode cX10_both 7 = .ok (.iload_n 2, 1) := by decide +kernel
theorem dX10_both_8 : decode cX10_both 8 = .ok (.invokestatic 64, 3) := by decide +kernel
theorem dX10_both_11 : decode cX10_both 11 = .ok (.ifCond .eq 8, 3) := by decide +kernel
theorem dX10_both_14 : decode cX10_both 14 = .ok (.iload_n 1, 1) := by decide +kernel
theorem dX10_both_15 : decode cX10_both 15 = .ok (.iload_n 2, 1) := by decide +kernel
theorem dX10_both_16 : decode cX10_both 16 = .ok (.if_icmp .ne 5, 3) := by decide +kernel
theorem dX10_both_19 : decode cX10_both 19 = .ok (.iconst (-1), 1) := by decide +kernel
theorem dX10_both_20 : decode cX10_both 20 = .ok (.ireturn, 1) := by decide +kernel
theorem dX10_both_21 : decode cX10_both 21 = .ok (.iconst 0, 1) := by decide +kernel
theorem dX10_both_22 : decode cX10_both 22 = .ok (.istore_n 3, 1) := by decide +kernel
theorem dX10_both_23 : decode cX10_both 23 = .ok (.iconst 0, 1) := by decide +kernel
theorem dX10_both_24 : decode cX10_both 24 = .ok (.istore 4, 2) := by decide +kernel
theorem dX10_both_26 : decode cX10_both 26 = .ok (.iload 4, 2) := by decide +kernel
theorem dX10_both_28 : decode cX10_both 28 = .ok (.bipush 24, 2) := by decide +kernel
theorem dX10_both_30 : decode cX10_both 30 = .ok (.if_icmp .ge 52, 3) := by decide +kernel
theorem dX10_both_33 : decode cX10_both 33 = .ok (.iload_n 3, 1) := by decide +kernel
theorem dX10_both_34 : decode cX10_both 34 = .ok (.aload_n 0, 1) := by decide +kernel
theorem dX10_both_35 : decode cX10_both 35 = .ok (.getfield 10, 3) := by decide +kernel
theorem dX10_both_38 : decode cX10_both 38 = .ok (.sipush 454, 3) := by decide +kernel
theorem dX10_both_41 : decode cX10_both 41 = .ok (.iload 4, 2) := by decide +kernel
theorem dX10_both_43 : decode cX10_both 43 = .ok (.iadd, 1) := by decide +kernel
theorem dX10_both_44 : decode cX10_both 44 = .ok (.iaload, 1) := by decide +kernel
theorem dX10_both_45 : decode cX10_both 45 = .ok (.iconst 1, 1) := by decide +kernel
theorem dX10_both_46 : decode cX10_both 46 = .ok (.if_icmp .ne 27, 3) := by decide +kernel
theorem dX10_both_49 : decode cX10_both 49 = .ok (.aload_n 0, 1) := by decide +kernel
theorem dX10_both_50 : decode cX10_both 50 = .ok (.iload_n 1, 1) := by decide +kernel
theorem dX10_both_51 : decode cX10_both 51 = .ok (.iload 4, 2) := by decide +kernel
theorem dX10_both_53 : decode cX10_both 53 = .ok (.invokevirtual 259, 3) := by decide +kernel
theorem dX10_both_56 : decode cX10_both 56 = .ok (.ifCond .eq 17, 3) := by decide +kernel
theorem dX10_both_59 : decode cX10_both 59 = .ok (.aload_n 0, 1) := by decide +kernel
theorem dX10_both_60 : decode cX10_both 60 = .ok (.iload_n 2, 1) := by decide +kernel
theorem dX10_both_61 : decode cX10_both 61 = .ok (.iload 4, 2) := by decide +kernel
theorem dX10_both_63 : decode cX10_both 63 = .ok (.invokevirtual 259, 3) := by decide +kernel
theorem dX10_both_66 : decode cX10_both 66 = .ok (.ifCond .eq 7, 3) := by decide +kernel
theorem dX10_both_69 : decode cX10_both 69 = .ok (.iconst 1, 1) := by decide +kernel
theorem dX10_both_70 : decode cX10_both 70 = .ok (.goto 4, 3) := by decide +kernel
theorem dX10_both_73 : decode cX10_both 73 = .ok (.iconst 0, 1) := by decide +kernel
theorem dX10_both_74 : decode cX10_both 74 = .ok (.iadd, 1) := by decide +kernel
theorem dX10_both_75 : decode cX10_both 75 = .ok (.istore_n 3, 1) := by decide +kernel
theorem dX10_both_76 : decode cX10_both 76 = .ok (.iinc 4 1, 3) := by decide +kernel
theorem dX10_both_79 : decode cX10_both 79 = .ok (.goto (-53), 3) := by decide +kernel
theorem dX10_both_82 : decode cX10_both 82 = .ok (.iload_n 3, 1) := by decide +kernel
theorem dX10_both_83 : decode cX10_both 83 = .ok (.ireturn, 1) := by decide +kernel
set_option maxRecDepth 20000 in
theorem zl_X10_both_1 : z_All z_tab cX10_both 5 (some .int) RX10 pc_X10_both 40 (k_X10_both.drop 40) := z_cons (ok_iadd dX10_both_74 rfl rfl) <| z_cons (ok_istore_n (Nat.le_of_ble_eq_true rfl) dX10_both_75 rfl rfl) <| z_cons (ok_iinc (by decide) (Nat.le_of_ble_eq_true rfl) dX10_both_76 rfl rfl) <| z_cons (ok_goto (tgt := 26) (by decide) rfl dX10_both_79 rfl) <| z_cons (ok_iload_n dX10_both_82 rfl rfl) <| z_cons (ok_iret rfl dX10_both_83 rfl) <| z_nil
set_option maxRecDepth 20000 in
theorem zl_X10_both_0 : z_All z_tab cX10_both 5 (some .int) RX10 pc_X10_both 0 (k_X10_both.drop 0) := z_cons (ok_iload_n dX10_both_0 rfl rfl) <| z_cons (ok_callS (k := 166) (n := 1) qw_650 qw_618 ⟨by decide +kernel, by decide +kernel, by decide +kernel⟩ (Nat.le_of_ble_eq_true rfl) qw_652 qw_651 dX10_both_1 rfl rfl) <| z_cons (ok_if_eq (tgt := 19) (by decide) rfl dX10_both_4 rfl rfl) <| z_cons (ok_iload_n dX10_both_7 rfl rfl) <| z_cons (ok_callS (k := 166) (n := 1) qw_650 qw_618 ⟨by decide +kernel, by decide +kernel, by decide +kernel⟩ (Nat.le_of_ble_eq_true rfl) qw_652 qw_651 dX10_both_8 rfl rfl) <| z_cons (ok_if_eq (tgt := 19) (by decide) rfl dX10_both_11 rfl rfl) <| z_cons (ok_iload_n dX10_both_14 rfl rfl) <| z_cons (ok_iload_n dX10_both_15 rfl rfl) <| z_cons (ok_icmp_ne (tgt := 21) (by decide) rfl dX10_both_16 rfl rfl) <| z_cons (ok_iconst (by decide) dX10_both_19 rfl rfl) <| z_cons (ok_iret rfl dX10_both_20 rfl) <| z_cons (ok_iconst (by decide) dX10_both_21 rfl rfl) <| z_cons (ok_istore_n (Nat.le_of_ble_eq_true rfl) dX10_both_22 rfl rfl) <| z_cons (ok_iconst (by decide) dX10_both_23 rfl rfl) <| z_cons (ok_istore (Nat.le_of_ble_eq_true rfl) dX10_both_24 rfl rfl) <| z_cons (ok_iload dX10_both_26 rfl rfl) <| z_cons (ok_bipush (by decide) dX10_both_28 rfl rfl) <| z_cons (ok_icmp_ge (tgt := 82) (by decide) rfl dX10_both_30 rfl rfl) <| z_cons (ok_iload_n dX10_both_33 rfl rfl) <| z_cons (ok_aload_n dX10_both_34 rfl rfl) <| z_cons (ok_getr (k := 0) ⟨by decide, by decide, by decide⟩ (ci := 8) (T := TX10) rfl rfl (Nat.le_of_ble_eq_true rfl) iw_X10 qw_616 gr_11_0 (fun _ _ => by simp) (fun w i => List.mem_of_getElem? (i := 0) rfl) dX10_both_35 rfl rfl) <| z_cons (ok_sipush (by decide) dX10_both_38 rfl rfl) <| z_cons (ok_iload dX10_both_41 rfl rfl) <| z_cons (ok_iadd dX10_both_43 rfl rfl) <| z_cons (ok_iald dX10_both_44 rfl rfl) <| z_cons (ok_iconst (by decide) dX10_both_45 rfl rfl) <| z_cons (ok_icmp_ne (tgt := 73) (by decide) rfl dX10_both_46 rfl rfl) <| z_cons (ok_aload_n dX10_both_49 rfl rfl) <| z_cons (ok_iload_n dX10_both_50 rfl rfl) <| z_cons (ok_iload dX10_both_51 rfl rfl) <| z_cons (ok_callv ⟨by decide, by decide, by decide⟩ (ci := 8) (C := RX10) (T := TX10) rfl go_11 (k := 261) (n := 2) qw_876 qw_618 ⟨by decide +kernel, by decide +kernel, by decide +kernel⟩ (Nat.le_of_ble_eq_true rfl) qw_877 qw_878 qw_879 dX10_both_53 rfl rfl) <| z_cons (ok_if_eq (tgt := 73) (by decide) rfl dX10_both_56 rfl rfl) <| z_cons (ok_aload_n dX10_both_59 rfl rfl) <| z_cons (ok_iload_n dX10_both_60 rfl rfl) <| z_cons (ok_iload dX10_both_61 rfl rfl) <| z_cons (ok_callv ⟨by decide, by decide, by decide⟩ (ci := 8) (C := RX10) (T := TX10) rfl go_11 (k := 261) (n := 2) qw_876 qw_618 ⟨by decide +kernel, by decide +kernel, by decide +kernel⟩ (Nat.le_of_ble_eq_true rfl) qw_877 qw_878 qw_879 dX10_both_63 rfl rfl) <| z_cons (ok_if_eq (tgt := 73) (by decide) rfl dX10_both_66 rfl rfl) <| z_cons (ok_iconst (by decide) dX10_both_69 rfl rfl) <| z_cons (ok_goto (tgt := 74) (by decide) rfl dX10_both_70 rfl) <| z_cons (ok_iconst (by decide) dX10_both_73 rfl rfl) <| zl_X10_both_1
theorem dX10_open_0 : decode cX10_open 0 = .ok (.iload_n 1, 1) := by decide +kernel
theorem dX10_open_1 : decode cX10_open 1 = .ok (.iconst 0, 1) := by decide +kernel
theorem dX10_open_2 : decode cX10_open 2 = .ok (.iconst 3, 1) := by decide +kernel
theorem dX10_open_3 : decode cX10_open 3 = .ok (.invokestatic 32, 3) := by decide +kernel
theorem dX10_open_6 : decode cX10_open 6 = .ok (.ifCond .eq 12, 3) := by decide +kernel
theorem dX10_open_9 : decode cX10_open 9 = .ok (.iload_n 2, 1) := by decide +kernel
theorem dX10_open_10 : decode cX10_open 10 = .ok (.iconst 0, 1) := by decide +kernel
theorem dX10_open_11 : decode cX10_open 11 = .ok (.iconst 1, 1) := by decide +kernel
theorem dX10_open_12 : decode cX10_open 12 = .ok (.invokestatic 32, 3) := by decide +kernel
theorem dX10_open_15 : decode cX10_open 15 = .ok (.ifCond .ne 5, 3) := by decide +kernel
theorem dX10_open_18 : decode cX10_open 18 = .ok (.iconst (-1), 1) := by decide +kernel
theorem dX10_open_19 : decode cX10_open 19 = .ok (.ireturn, 1) := by decide +kernel
theorem dX10_open_20 : decode cX10_open 20 = .ok (.iconst 0, 1) := by decide +kernel
theorem dX10_open_21 : decode cX10_open 21 = .ok (.istore_n 3, 1) := by decide +kernel
theorem dX10_open_22 : decode cX10_open 22 = .ok (.iconst 0, 1) := by decide +kernel
theorem dX10_open_23 : decode cX10_open 23 = .ok (.istore 4, 2) := by decide +kernel
theorem dX10_open_25 : decode cX10_open 25 = .ok (.iload 4, 2) := by decide +kernel
theorem dX10_open_27 : decode cX10_open 27 = .ok (.bipush 24, 2) := by decide +kernel
theorem dX10_open_29 : decode cX10_open 29 = .ok (.if_icmp .ge 51, 3) := by decide +kernel
theorem dX10_open_32 : decode cX10_open 32 = .ok (.aload_n 0, 1) := by decide +kernel
theorem dX10_open_33 : decode cX10_open 33 = .ok (.getfield 10, 3) := by decide +kernel
theorem dX10_open_36 : decode cX10_open 36 = .ok (.sipush 454, 3) := by decide +kernel
theorem dX10_open_39 : decode cX10_open 39 = .ok (.iload 4, 2) := by decide +kernel
theorem dX10_open_41 : decode cX10_open 41 = .ok (.iadd, 1) := by decide +kernel
theorem dX10_open_42 : decode cX10_open 42 = .ok (.iaload, 1) := by decide +kernel
theorem dX10_open_43 : decode cX10_open 43 = .ok (.iconst 1, 1) := by decide +kernel
theorem dX10_open_44 : decode cX10_open 44 = .ok (.if_icmp .ne 30, 3) := by decide +kernel
theorem dX10_open_47 : decode cX10_open 47 = .ok (.aload_n 0, 1) := by decide +kernel
theorem dX10_open_48 : decode cX10_open 48 = .ok (.iload 4, 2) := by decide +kernel
theorem dX10_open_50 : decode cX10_open 50 = .ok (.invokevirtual 57, 3) := by decide +kernel
theorem dX10_open_53 : decode cX10_open 53 = .ok (.ifCond .eq 21, 3) := by decide +kernel
theorem dX10_open_56 : decode cX10_open 56 = .ok (.aload_n 0, 1) := by decide +kernel
theorem dX10_open_57 : decode cX10_open 57 = .ok (.iload 4, 2) := by decide +kernel
theorem dX10_open_59 : decode cX10_open 59 = .ok (.iload_n 1, 1) := by decide +kernel
theorem dX10_open_60 : decode cX10_open 60 = .ok (.invokevirtual 45, 3) := by decide +kernel
theorem dX10_open_63 : decode cX10_open 63 = .ok (.iload_n 2, 1) := by decide +kernel
theorem dX10_open_64 : decode cX10_open 64 = .ok (.if_icmp .ne 10, 3) := by decide +kernel
theorem dX10_open_67 : decode cX10_open 67 = .ok (.iload_n 3, 1) := by decide +kernel
theorem dX10_open_68 : decode cX10_open 68 = .ok (.iconst 1, 1) := by decide +kernel
theorem dX10_open_69 : decode cX10_open 69 = .ok (.iload 4, 2) := by decide +kernel
theorem dX10_open_71 : decode cX10_open 71 = .ok (.ishl, 1) := by decide +kernel
theorem dX10_open_72 : decode cX10_open 72 = .ok (.ior, 1) := by decide +kernel
theorem dX10_open_73 : decode cX10_open 73 = .ok (.istore_n 3, 1) := by decide +kernel
theorem dX10_open_74 : decode cX10_open 74 = .ok (.iinc 4 1, 3) := by decide +kernel
theorem dX10_open_77 : decode cX10_open 77 = .ok (.goto (-52), 3) := by decide +kernel
theorem dX10_open_80 : decode cX10_open 80 = .ok (.iload_n 3, 1) := by decide +kernel
theorem dX10_open_81 : decode cX10_open 81 = .ok (.ireturn, 1) := by decide +kernel
set_option maxRecDepth 20000 in
theorem zl_X10_open_1 : z_All z_tab cX10_open 5 (some .int) RX10 pc_X10_open 40 (k_X10_open.drop 40) := z_cons (ok_ishl dX10_open_71 rfl rfl) <| z_cons (ok_ior dX10_open_72 rfl rfl) <| z_cons (ok_istore_n (Nat.le_of_ble_eq_true rfl) dX10_open_73 rfl rfl) <| z_cons (ok_iinc (by decide) (Nat.le_of_ble_eq_true rfl) dX10_open_74 rfl rfl) <| z_cons (ok_goto (tgt := 25) (by decide) rfl dX10_open_77 rfl) <| z_cons (ok_iload_n dX10_open_80 rfl rfl) <| z_cons (ok_iret rfl dX10_open_81 rfl) <| z_nil
set_option maxRecDepth 20000 in
theorem zl_X10_open_0 : z_All z_tab cX10_open 5 (some .int) RX10 pc_X10_open 0 (k_X10_open.drop 0) := z_cons (ok_iload_n dX10_open_0 rfl rfl) <| z_cons (ok_iconst (by decide) dX10_open_1 rfl rfl) <| z_cons (ok_iconst (by decide) dX10_open_2 rfl rfl) <| z_cons (ok_callS (k := 162) (n := 3) qw_617 qw_618 ⟨by decide +kernel, by decide +kernel, by decide +kernel⟩ (Nat.le_of_ble_eq_true rfl) qw_620 qw_619 dX10_open_3 rfl rfl) <| z_cons (ok_if_eq (tgt := 18) (by decide) rfl dX10_open_6 rfl rfl) <| z_cons (ok_iload_n dX10_open_9 rfl rfl) <| z_cons (ok_iconst (by decide) dX10_open_10 rfl rfl) <| z_cons (ok_iconst (by decide) dX10_open_11 rfl rfl) <| z_cons (ok_callS (k := 162) (n := 3) qw_617 qw_618 ⟨by decide +kernel, by decide +kernel, by decide +kernel⟩ (Nat.le_of_ble_eq_true rfl) qw_620 qw_619 dX10_open_12 rfl rfl) <| z_cons (ok_if_ne (tgt := 20) (by decide) rfl dX10_open_15 rfl rfl) <| z_cons (ok_iconst (by decide) dX10_open_18 rfl rfl) <| z_cons (ok_iret rfl dX10_open_19 rfl) <| z_cons (ok_iconst (by decide) dX10_open_20 rfl rfl) <| z_cons (ok_istore_n (Nat.le_of_ble_eq_true rfl) dX10_open_21 rfl rfl) <| z_cons (ok_iconst (by decide) dX10_open_22 rfl rfl) <| z_cons (ok_istore (Nat.le_of_ble_eq_true rfl) dX10_open_23 rfl rfl) <| z_cons (ok_iload dX10_open_25 rfl rfl) <| z_cons (ok_bipush (by decide) dX10_open_27 rfl rfl) <| z_cons (ok_icmp_ge (tgt := 80) (by decide) rfl dX10_open_29 rfl rfl) <| z_cons (ok_aload_n dX10_open_32 rfl rfl) <| z_cons (ok_getr (k := 0) ⟨by decide, by decide, by decide⟩ (ci := 8) (T := TX10) rfl rfl (Nat.le_of_ble_eq_true rfl) iw_X10 qw_616 gr_11_0 (fun _ _ => by simp) (fun w i => List.mem_of_getElem? (i := 0) rfl) dX10_open_33 rfl rfl) <| z_cons (ok_sipush (by decide) dX10_open_36 rfl rfl) <| z_cons (ok_iload dX10_open_39 rfl rfl) <| z_cons (ok_iadd dX10_open_41 rfl rfl) <| z_cons (ok_iald dX10_open_42 rfl rfl) <| z_cons (ok_iconst (by decide) dX10_open_43 rfl rfl) <| z_cons (ok_icmp_ne (tgt := 74) (by decide) rfl dX10_open_44 rfl rfl) <| z_cons (ok_aload_n dX10_open_47 rfl rfl) <| z_cons (ok_iload dX10_open_48 rfl rfl) <| z_cons (ok_callv ⟨by decide, by decide, by decide⟩ (ci := 8) (C := RX10) (T := TX10) rfl go_11 (k := 173) (n := 1) qw_642 qw_618 ⟨by decide +kernel, by decide +kernel, by decide +kernel⟩ (Nat.le_of_ble_eq_true rfl) qw_643 qw_644 qw_645 dX10_open_50 rfl rfl) <| z_cons (ok_if_eq (tgt := 74) (by decide) rfl dX10_open_53 rfl rfl) <| z_cons (ok_aload_n dX10_open_56 rfl rfl) <| z_cons (ok_iload dX10_open_57 rfl rfl) <| z_cons (ok_iload_n dX10_open_59 rfl rfl) <| z_cons (ok_callv ⟨by decide, by decide, by decide⟩ (ci := 8) (C := RX10) (T := TX10) rfl go_11 (k := 174) (n := 2) qw_630 qw_618 ⟨by decide +kernel, by decide +kernel, by decide +kernel⟩ (Nat.le_of_ble_eq_true rfl) qw_631 qw_632 qw_633 dX10_open_60 rfl rfl) <| z_cons (ok_iload_n dX10_open_63 rfl rfl) <| z_cons (ok_icmp_ne (tgt := 74) (by decide) rfl dX10_open_64 rfl rfl) <| z_cons (ok_iload_n dX10_open_67 rfl rfl) <| z_cons (ok_iconst (by decide) dX10_open_68 rfl rfl) <| z_cons (ok_iload dX10_open_69 rfl rfl) <| zl_X10_open_1
theorem dX10_apart_0 : decode cX10_apart 0 = .ok (.aload_n 0, 1) := by decide +kernel
theorem dX10_apart_1 : decode cX10_apart 1 = .ok (.iload_n 1, 1) := by decide +kernel
theorem dX10_apart_2 : decode cX10_apart 2 = .ok (.invokevirtual 74, 3) := by decide +kernel
theorem dX10_apart_5 : decode cX10_apart 5 = .ok (.ifCond .eq 11, 3) := by decide +kernel
theorem dX10_apart_8 : decode cX10_apart 8 = .ok (.aload_n 0, 1) := by decide +kernel
theorem dX10_apart_9 : decode cX10_apart 9 = .ok (.iload_n 2, 1) := by decide +kernel
theorem dX10_apart_10 : decode cX10_apart 10 = .ok (.invokevirtual 74, 3) := by decide +kernel
theorem dX10_apart_13 : decode cX10_apart 13 = .ok (.ifCond .ne 5, 3) := by decide +kernel
theorem dX10_apart_16 : decode cX10_apart 16 = .ok (.iconst (-1), 1) := by decide +kernel
theorem dX10_apart_17 : decode cX10_apart 17 = .ok (.ireturn, 1) := by decide +kernel
theorem dX10_apart_18 : decode cX10_apart 18 = .ok (.aload_n 0, 1) := by decide +kernel
theorem dX10_apart_19 : decode cX10_apart 19 = .ok (.getfield 10, 3) := by decide +kernel
theorem dX10_apart_22 : decode cX10_apart 22 = .ok (.sipush 478, 3) := by decide +kernel
theorem dX10_apart_25 : decode cX10_apart 25 = .ok (.iload_n 1, 1) := by decide +kernel
theorem dX10_apart_26 : decode cX10_apart 26 = .ok (.iadd, 1) := by decide +kernel
theorem dX10_apart_27 : decode cX10_apart 27 = .ok (.iaload, 1) := by decide +kernel
theorem dX10_apart_28 : decode cX10_apart 28 = .ok (.aload_n 0, 1) := by decide +kernel
theorem dX10_apart_29 : decode cX10_apart 29 = .ok (.getfield 10, 3) := by decide +kernel
theorem dX10_apart_32 : decode cX10_apart 32 = .ok (.sipush 478, 3) := by decide +kernel
theorem dX10_apart_35 : decode cX10_apart 35 = .ok (.iload_n 2, 1) := by decide +kernel
theorem dX10_apart_36 : decode cX10_apart 36 = .ok (.iadd, 1) := by decide +kernel
theorem dX10_apart_37 : decode cX10_apart 37 = .ok (.iaload, 1) := by decide +kernel
theorem dX10_apart_38 : decode cX10_apart 38 = .ok (.ixor, 1) := by decide +kernel
theorem dX10_apart_39 : decode cX10_apart 39 = .ok (.istore_n 3, 1) := by decide +kernel
theorem dX10_apart_40 : decode cX10_apart 40 = .ok (.iconst 0, 1) := by decide +kernel
theorem dX10_apart_41 : decode cX10_apart 41 = .ok (.istore 4, 2) := by decide +kernel
theorem dX10_apart_43 : decode cX10_apart 43 = .ok (.iload 4, 2) := by decide +kernel
theorem dX10_apart_45 : decode cX10_apart 45 = .ok (.bipush 32, 2) := by decide +kernel
theorem dX10_apart_47 : decode cX10_apart 47 = .ok (.if_icmp .ge 25, 3) := by decide +kernel
theorem dX10_apart_50 : decode cX10_apart 50 = .ok (.iload_n 3, 1) := by decide +kernel
theorem dX10_apart_51 : decode cX10_apart 51 = .ok (.bipush 31, 2) := by decide +kernel
theorem dX10_apart_53 : decode cX10_apart 53 = .ok (.iload 4, 2) := by decide +kernel
theorem dX10_apart_55 : decode cX10_apart 55 = .ok (.isub, 1) := by decide +kernel
theorem dX10_apart_56 : decode cX10_apart 56 = .ok (.iushr, 1) := by decide +kernel
theorem dX10_apart_57 : decode cX10_apart 57 = .ok (.iconst 1, 1) := by decide +kernel
theorem dX10_apart_58 : decode cX10_apart 58 = .ok (.iand, 1) := by decide +kernel
theorem dX10_apart_59 : decode cX10_apart 59 = .ok (.iconst 1, 1) := by decide +kernel
theorem dX10_apart_60 : decode cX10_apart 60 = .ok (.if_icmp .ne 6, 3) := by decide +kernel
theorem dX10_apart_63 : decode cX10_apart 63 = .ok (.iload 4, 2) := by decide +kernel
theorem dX10_apart_65 : decode cX10_apart 65 = .ok (.ireturn, 1) := by decide +kernel
theorem dX10_apart_66 : decode cX10_apart 66 = .ok (.iinc 4 1, 3) := by decide +kernel
theorem dX10_apart_69 : decode cX10_apart 69 = .ok (.goto (-26), 3) := by decide +kernel
theorem dX10_apart_72 : decode cX10_apart 72 = .ok (.iconst (-1), 1) := by decide +kernel
theorem dX10_apart_73 : decode cX10_apart 73 = .ok (.ireturn, 1) := by decide +kernel
set_option maxRecDepth 20000 in
theorem zl_X10_apart_1 : z_All z_tab cX10_apart 5 (some .int) RX10 pc_X10_apart 40 (k_X10_apart.drop 40) := z_cons (ok_iinc (by decide) (Nat.le_of_ble_eq_true rfl) dX10_apart_66 rfl rfl) <| z_cons (ok_goto (tgt := 43) (by decide) rfl dX10_apart_69 rfl) <| z_cons (ok_iconst (by decide) dX10_apart_72 rfl rfl) <| z_cons (ok_iret rfl dX10_apart_73 rfl) <| z_nil
set_option maxRecDepth 20000 in
theorem zl_X10_apart_0 : z_All z_tab cX10_apart 5 (some .int) RX10 pc_X10_apart 0 (k_X10_apart.drop 0) := z_cons (ok_aload_n dX10_apart_0 rfl rfl) <| z_cons (ok_iload_n dX10_apart_1 rfl rfl) <| z_cons (ok_callv ⟨by decide, by decide, by decide⟩ (ci := 8) (C := RX10) (T := TX10) rfl go_11 (k := 167) (n := 1) qw_665 qw_618 ⟨by decide +kernel, by decide +kernel, by decide +kernel⟩ (Nat.le_of_ble_eq_true rfl) qw_666 qw_667 qw_668 dX10_apart_2 rfl rfl) <| z_cons (ok_if_eq (tgt := 16) (by decide) rfl dX10_apart_5 rfl rfl) <| z_cons (ok_aload_n dX10_apart_8 rfl rfl) <| z_cons (ok_iload_n dX10_apart_9 rfl rfl) <| z_cons (ok_callv ⟨by decide, by decide, by decide⟩ (ci := 8) (C := RX10) (T := TX10) rfl go_11 (k := 167) (n := 1) qw_665 qw_618 ⟨by decide +kernel, by decide +kernel, by decide +kernel⟩ (Nat.le_of_ble_eq_true rfl) qw_666 qw_667 qw_668 dX10_apart_10 rfl rfl) <| z_cons (ok_if_ne (tgt := 18) (by decide) rfl dX10_apart_13 rfl rfl) <| z_cons (ok_iconst (by decide) dX10_apart_16 rfl rfl) <| z_cons (ok_iret rfl dX10_apart_17 rfl) <| z_cons (ok_aload_n dX10_apart_18 rfl rfl) <| z_cons (ok_getr (k := 0) ⟨by decide, by decide, by decide⟩ (ci := 8) (T := TX10) rfl rfl (Nat.le_of_ble_eq_true rfl) iw_X10 qw_616 gr_11_0 (fun _ _ => by simp) (fun w i => List.mem_of_getElem? (i := 0) rfl) dX10_apart_19 rfl rfl) <| z_cons (ok_sipush (by decide) dX10_apart_22 rfl rfl) <| z_cons (ok_iload_n dX10_apart_25 rfl rfl) <| z_cons (ok_iadd dX10_apart_26 rfl rfl) <| z_cons (ok_iald dX10_apart_27 rfl rfl) <| z_cons (ok_aload_n dX10_apart_28 rfl rfl) <| z_cons (ok_getr (k := 0) ⟨by decide, by decide, by decide⟩ (ci := 8) (T := TX10) rfl rfl (Nat.le_of_ble_eq_true rfl) iw_X10 qw_616 gr_11_0 (fun _ _ => by simp) (fun w i => List.mem_of_getElem? (i := 0) rfl) dX10_apart_29 rfl rfl) <| z_cons (ok_sipush (by decide) dX10_apart_32 rfl rfl) <| z_cons (ok_iload_n dX10_apart_35 rfl rfl) <| z_cons (ok_iadd dX10_apart_36 rfl rfl) <| z_cons (ok_iald dX10_apart_37 rfl rfl) <| z_cons (ok_ixor dX10_apart_38 rfl rfl) <| z_cons (ok_istore_n (Nat.le_of_ble_eq_true rfl) dX10_apart_39 rfl rfl) <| z_cons (ok_iconst (by decide) dX10_apart_40 rfl rfl) <| z_cons (ok_istore (Nat.le_of_ble_eq_true rfl) dX10_apart_41 rfl rfl) <| z_cons (ok_iload dX10_apart_43 rfl rfl) <| z_cons (ok_bipush (by decide) dX10_apart_45 rfl rfl) <| z_cons (ok_icmp_ge (tgt := 72) (by decide) rfl dX10_apart_47 rfl rfl) <| z_cons (ok_iload_n dX10_apart_50 rfl rfl) <| z_cons (ok_bipush (by decide) dX10_apart_51 rfl rfl) <| z_cons (ok_iload dX10_apart_53 rfl rfl) <| z_cons (ok_isub dX10_apart_55 rfl rfl) <| z_cons (ok_iushr dX10_apart_56 rfl rfl) <| z_cons (ok_iconst (by decide) dX10_apart_57 rfl rfl) <| z_cons (ok_iand dX10_apart_58 rfl rfl) <| z_cons (ok_iconst (by decide) dX10_apart_59 rfl rfl) <| z_cons (ok_icmp_ne (tgt := 66) (by decide) rfl dX10_apart_60 rfl rfl) <| z_cons (ok_iload dX10_apart_63 rfl rfl) <| z_cons (ok_iret rfl dX10_apart_65 rfl) <| zl_X10_apart_1
theorem dX10_log_0 : decode cX10_log 0 = .ok (.aload_n 0, 1) := by decide +kernel
theorem dX10_log_1 : decode cX10_log 1 = .ok (.getfield 10, 3) := by decide +kernel
theorem dX10_log_4 : decode cX10_log 4 = .ok (.iconst 4, 1) := by decide +kernel
theorem dX10_log_5 : decode cX10_log 5 = .ok (.iaload, 1) := by decide +kernel
theorem dX10_log_6 : decode cX10_log 6 = .ok (.bipush 60, 2) := by decide +kernel
theorem dX10_log_8 : decode cX10_log 8 = .ok (.if_icmp .ge 12, 3) := by decide +kernel
theorem dX10_log_11 : decode cX10_log 11 = .ok (.aload_n 0, 1) := by decide +kernel
theorem dX10_log_12 : decode cX10_log 12 = .ok (.getfield 10, 3) := by decide +kernel
theorem dX10_log_15 : decode cX10_log 15 = .ok (.iconst 4, 1) := by decide +kernel
theorem dX10_log_16 : decode cX10_log 16 = .ok (.iaload, 1) := by decide +kernel
theorem dX10_log_17 : decode cX10_log 17 = .ok (.goto 5, 3) := by decide +kernel
theorem dX10_log_20 : decode cX10_log 20 = .ok (.bipush 60, 2) := by decide +kernel
theorem dX10_log_22 : decode cX10_log 22 = .ok (.istore_n 3, 1) := by decide +kernel
theorem dX10_log_23 : decode cX10_log 23 = .ok (.iload_n 1, 1) := by decide +kernel
theorem dX10_log_24 : decode cX10_log 24 = .ok (.iconst 0, 1) := by decide +kernel
theorem dX10_log_25 : decode cX10_log 25 = .ok (.iload_n 3, 1) := by decide +kernel
theorem dX10_log_26 : decode cX10_log 26 = .ok (.iconst 1, 1) := by decide +kernel
theorem dX10_log_27 : decode cX10_log 27 = .ok (.isub, 1) := by decide +kernel
theorem dX10_log_28 : decode cX10_log 28 = .ok (.invokestatic 32, 3) := by decide +kernel
theorem dX10_log_31 : decode cX10_log 31 = .ok (.ifCond .eq 32, 3) := by decide +kernel
theorem dX10_log_34 : decode cX10_log 34 = .ok (.iload_n 2, 1) := by decide +kernel
theorem dX10_log_35 : decode cX10_log 35 = .ok (.iconst 0, 1) := by decide +kernel
theorem dX10_log_36 : decode cX10_log 36 = .ok (.iconst 3, 1) := by decide +kernel
theorem dX10_log_37 : decode cX10_log 37 = .ok (.invokestatic 32, 3) := by decide +kernel
theorem dX10_log_40 : decode cX10_log 40 = .ok (.ifCond .eq 23, 3) := by decide +kernel
theorem dX10_log_43 : decode cX10_log 43 = .ok (.aload_n 0, 1) := by decide +kernel
theorem dX10_log_44 : decode cX10_log 44 = .ok (.getfield 10, 3) := by decide +kernel
theorem dX10_log_47 : decode cX10_log 47 = .ok (.bipush 22, 2) := by decide +kernel
theorem dX10_log_49 : decode cX10_log 49 = .ok (.iconst 4, 1) := by decide +kernel
theorem dX10_log_50 : decode cX10_log 50 = .ok (.iload_n 3, 1) := by decide +kernel
theorem dX10_log_51 : decode cX10_log 51 = .ok (.iconst 1, 1) := by decide +kernel
theorem dX10_log_52 : decode cX10_log 52 = .ok (.isub, 1) := by decide +kernel
theorem dX10_log_53 : decode cX10_log 53 = .ok (.iload_n 1, 1) := by decide +kernel
theorem dX10_log_54 : decode cX10_log 54 = .ok (.isub, 1) := by decide +kernel
theorem dX10_log_55 : decode cX10_log 55 = .ok (.imul, 1) := by decide +kernel
theorem dX10_log_56 : decode cX10_log 56 = .ok (.iadd, 1) := by decide +kernel
theorem dX10_log_57 : decode cX10_log 57 = .ok (.iload_n 2, 1) := by decide +kernel
theorem dX10_log_58 : decode cX10_log 58 = .ok (.iadd, 1) := by decide +kernel
theorem dX10_log_59 : decode cX10_log 59 = .ok (.iaload, 1) := by decide +kernel
theorem dX10_log_60 : decode cX10_log 60 = .ok (.goto 4, 3) := by decide +kernel
theorem dX10_log_63 : decode cX10_log 63 = .ok (.iconst (-1), 1) := by decide +kernel
theorem dX10_log_64 : decode cX10_log 64 = .ok (.ireturn, 1) := by decide +kernel
set_option maxRecDepth 20000 in
theorem zl_X10_log_1 : z_All z_tab cX10_log 4 (some .int) RX10 pc_X10_log 40 (k_X10_log.drop 40) := z_cons (ok_iconst (by decide) dX10_log_63 rfl rfl) <| z_cons (ok_iret rfl dX10_log_64 rfl) <| z_nil
set_option maxRecDepth 20000 in
theorem zl_X10_log_0 : z_All z_tab cX10_log 4 (some .int) RX10 pc_X10_log 0 (k_X10_log.drop 0) := z_cons (ok_aload_n dX10_log_0 rfl rfl) <| z_cons (ok_getr (k := 0) ⟨by decide, by decide, by decide⟩ (ci := 8) (T := TX10) rfl rfl (Nat.le_of_ble_eq_true rfl) iw_X10 qw_616 gr_11_0 (fun _ _ => by simp) (fun w i => List.mem_of_getElem? (i := 0) rfl) dX10_log_1 rfl rfl) <| z_cons (ok_iconst (by decide) dX10_log_4 rfl rfl) <| z_cons (ok_iald dX10_log_5 rfl rfl) <| z_cons (ok_bipush (by decide) dX10_log_6 rfl rfl) <| z_cons (ok_icmp_ge (tgt := 20) (by decide) rfl dX10_log_8 rfl rfl) <| z_cons (ok_aload_n dX10_log_11 rfl rfl) <| z_cons (ok_getr (k := 0) ⟨by decide, by decide, by decide⟩ (ci := 8) (T := TX10) rfl rfl (Nat.le_of_ble_eq_true rfl) iw_X10 qw_616 gr_11_0 (fun _ _ => by simp) (fun w i => List.mem_of_getElem? (i := 0) rfl) dX10_log_12 rfl rfl) <| z_cons (ok_iconst (by decide) dX10_log_15 rfl rfl) <| z_cons (ok_iald dX10_log_16 rfl rfl) <| z_cons (ok_goto (tgt := 22) (by decide) rfl dX10_log_17 rfl) <| z_cons (ok_bipush (by decide) dX10_log_20 rfl rfl) <| z_cons (ok_istore_n (Nat.le_of_ble_eq_true rfl) dX10_log_22 rfl rfl) <| z_cons (ok_iload_n dX10_log_23 rfl rfl) <| z_cons (ok_iconst (by decide) dX10_log_24 rfl rfl) <| z_cons (ok_iload_n dX10_log_25 rfl rfl) <| z_cons (ok_iconst (by decide) dX10_log_26 rfl rfl) <| z_cons (ok_isub dX10_log_27 rfl rfl) <| z_cons (ok_callS (k := 162) (n := 3) qw_617 qw_618 ⟨by decide +kernel, by decide +kernel, by decide +kernel⟩ (Nat.le_of_ble_eq_true rfl) qw_620 qw_619 dX10_log_28 rfl rfl) <| z_cons (ok_if_eq (tgt := 63) (by decide) rfl dX10_log_31 rfl rfl) <| z_cons (ok_iload_n dX10_log_34 rfl rfl) <| z_cons (ok_iconst (by decide) dX10_log_35 rfl rfl) <| z_cons (ok_iconst (by decide) dX10_log_36 rfl rfl) <| z_cons (ok_callS (k := 162) (n := 3) qw_617 qw_618 ⟨by decide +kernel, by decide +kernel, by decide +kernel⟩ (Nat.le_of_ble_eq_true rfl) qw_620 qw_619 dX10_log_37 rfl rfl) <| z_cons (ok_if_eq (tgt := 63) (by decide) rfl dX10_log_40 rfl rfl) <| z_cons (ok_aload_n dX10_log_43 rfl rfl) <| z_cons (ok_getr (k := 0) ⟨by decide, by decide, by decide⟩ (ci := 8) (T := TX10) rfl rfl (Nat.le_of_ble_eq_true rfl) iw_X10 qw_616 gr_11_0 (fun _ _ => by simp) (fun w i => List.mem_of_getElem? (i := 0) rfl) dX10_log_44 rfl rfl) <| z_cons (ok_bipush (by decide) dX10_log_47 rfl rfl) <| z_cons (ok_iconst (by decide) dX10_log_49 rfl rfl) <| z_cons (ok_iload_n dX10_log_50 rfl rfl) <| z_cons (ok_iconst (by decide) dX10_log_51 rfl rfl) <| z_cons (ok_isub dX10_log_52 rfl rfl) <| z_cons (ok_iload_n dX10_log_53 rfl rfl) <| z_cons (ok_isub dX10_log_54 rfl rfl) <| z_cons (ok_imul dX10_log_55 rfl rfl) <| z_cons (ok_iadd dX10_log_56 rfl rfl) <| z_cons (ok_iload_n dX10_log_57 rfl rfl) <| z_cons (ok_iadd dX10_log_58 rfl rfl) <| z_cons (ok_iald dX10_log_59 rfl rfl) <| z_cons (ok_goto (tgt := 64) (by decide) rfl dX10_log_60 rfl) <| zl_X10_log_1
theorem dX10_wronglyBusy_0 : decode cX10_wronglyBusy 0 = .ok (.iconst 0, 1) := by decide +kernel
theorem dX10_wronglyBusy_1 : decode cX10_wronglyBusy 1 = .ok (.istore_n 1, 1) := by decide +kernel
theorem dX10_wronglyBusy_2 : decode cX10_wronglyBusy 2 = .ok (.iconst 0, 1) := by decide +kernel
theorem dX10_wronglyBusy_3 : decode cX10_wronglyBusy 3 = .ok (.istore_n 2, 1) := by decide +kernel
theorem dX10_wronglyBusy_4 : decode cX10_wronglyBusy 4 = .ok (.iload_n 2, 1) := by decide +kernel
theorem dX10_wronglyBusy_5 : decode cX10_wronglyBusy 5 = .ok (.bipush 24, 2) := by decide +kernel
theorem dX10_wronglyBusy_7 : decode cX10_wronglyBusy 7 = .ok (.if_icmp .ge 71, 3) := by decide +kernel
theorem dX10_wronglyBusy_10 : decode cX10_wronglyBusy 10 = .ok (.iload_n 1, 1) := by decide +kernel
theorem dX10_wronglyBusy_11 : decode cX10_wronglyBusy 11 = .ok (.aload_n 0, 1) := by decide +kernel
theorem dX10_wronglyBusy_12 : decode cX10_wronglyBusy 12 = .ok (.getfield 10, 3) := by decide +kernel
theorem dX10_wronglyBusy_15 : decode cX10_wronglyBusy 15 = .ok (.sipush 550, 3) := by decide +kernel
theorem dX10_wronglyBusy_18 : decode cX10_wronglyBusy 18 = .ok (.iload_n 2, 1) := by decide +kernel
theorem dX10_wronglyBusy_19 : decode cX10_wronglyBusy 19 = .ok (.iadd, 1) := by decide +kernel
theorem dX10_wronglyBusy_20 : decode cX10_wronglyBusy 20 = .ok (.iaload, 1) := by decide +kernel
theorem dX10_wronglyBusy_21 : decode cX10_wronglyBusy 21 = .ok (.iconst (-1), 1) := by decide +kernel
theorem dX10_wronglyBusy_22 : decode cX10_wronglyBusy 22 = .ok (.if_icmp .eq 47, 3) := by decide +kernel
theorem dX10_wronglyBusy_25 : decode cX10_wronglyBusy 25 = .ok (.aload_n 0, 1) := by decide +kernel
theorem dX10_wronglyBusy_26 : decode cX10_wronglyBusy 26 = .ok (.getfield 10, 3) := by decide +kernel
theorem dX10_wronglyBusy_29 : decode cX10_wronglyBusy 29 = .ok (.sipush 278, 3) := by decide +kernel
theorem dX10_wronglyBusy_32 : decode cX10_wronglyBusy 32 = .ok (.aload_n 0, 1) := by decide +kernel
theorem dX10_wronglyBusy_33 : decode cX10_wronglyBusy 33 = .ok (.getfield 10, 3) := by decide +kernel
theorem dX10_wronglyBusy_36 : decode cX10_wronglyBusy 36 = .ok (.sipush 550, 3) := by decide +kernel
theorem dX10_wronglyBusy_39 : decode cX10_wronglyBusy 39 = .ok (.iload_n 2, 1) := by decide +kernel
theorem dX10_wronglyBusy_40 : decode cX10_wronglyBusy 40 = .ok (.iadd, 1) := by decide +kernel
theorem dX10_wronglyBusy_41 : decode cX10_wronglyBusy 41 = .ok (.iaload, 1) := by decide +kernel
theorem dX10_wronglyBusy_42 : decode cX10_wronglyBusy 42 = .ok (.iadd, 1) := by decide +kernel
theorem dX10_wronglyBusy_43 : decode cX10_wronglyBusy 43 = .ok (.iaload, 1) := by decide +kernel
theorem dX10_wronglyBusy_44 : decode cX10_wronglyBusy 44 = .ok (.ifCond .eq 21, 3) := by decide +kernel
theorem dX10_wronglyBusy_47 : decode cX10_wronglyBusy 47 = .ok (.aload_n 0, 1) := by decide +kernel
theorem dX10_wronglyBusy_48 : decode cX10_wronglyBusy 48 = .ok (.aload_n 0, 1) := by decide +kernel
theorem dX10_wronglyBusy_49 : decode cX10_wronglyBusy 49 = .ok (.getfield 10, 3) := by decide +kernel
theorem dX10_wronglyBusy_52 : decode cX10_wronglyBusy 52 = .ok (.sipush 550, 3) := by decide +kernel
theorem dX10_wronglyBusy_55 : decode cX10_wronglyBusy 55 = .ok (.iload_n 2, 1) := by decide +kernel
theorem dX10_wronglyBusy_56 : decode cX10_wronglyBusy 56 = .ok (.iadd, 1) := by decide +kernel
theorem dX10_wronglyBusy_57 : decode cX10_wronglyBusy 57 = .ok (.iaload, 1) := by decide +kernel
theorem dX10_wronglyBusy_58 : decode cX10_wronglyBusy 58 = .ok (.iload_n 2, 1) := by decide +kernel
theorem dX10_wronglyBusy_59 : decode cX10_wronglyBusy 59 = .ok (.invokevirtual 42, 3) := by decide +kernel
theorem dX10_wronglyBusy_62 : decode cX10_wronglyBusy 62 = .ok (.ifCond .ne 7, 3) := by decide +kernel
theorem dX10_wronglyBusy_65 : decode cX10_wronglyBusy 65 = .ok (.iconst 1, 1) := by decide +kernel
theorem dX10_wronglyBusy_66 : decode cX10_wronglyBusy 66 = .ok (.goto 4, 3) := by decide +kernel
theorem dX10_wronglyBusy_69 : decode cX10_wronglyBusy 69 = .ok (.iconst 0, 1) := by decide +kernel
theorem dX10_wronglyBusy_70 : decode cX10_wronglyBusy 70 = .ok (.iadd, 1) := by decide +kernel
theorem dX10_wronglyBusy_71 : decode cX10_wronglyBusy 71 = .ok (.istore_n 1, 1) := by decide +kernel
theorem dX10_wronglyBusy_72 : decode cX10_wronglyBusy 72 = .ok (.iinc 2 1, 3) := by decide +kernel
theorem dX10_wronglyBusy_75 : decode cX10_wronglyBusy 75 = .ok (.goto (-71), 3) := by decide +kernel
theorem dX10_wronglyBusy_78 : decode cX10_wronglyBusy 78 = .ok (.iload_n 1, 1) := by decide +kernel
theorem dX10_wronglyBusy_79 : decode cX10_wronglyBusy 79 = .ok (.ireturn, 1) := by decide +kernel
set_option maxRecDepth 20000 in
theorem zl_X10_wronglyBusy_1 : z_All z_tab cX10_wronglyBusy 3 (some .int) RX10 pc_X10_wronglyBusy 40 (k_X10_wronglyBusy.drop 40) := z_cons (ok_iconst (by decide) dX10_wronglyBusy_69 rfl rfl) <| z_cons (ok_iadd dX10_wronglyBusy_70 rfl rfl) <| z_cons (ok_istore_n (Nat.le_of_ble_eq_true rfl) dX10_wronglyBusy_71 rfl rfl) <| z_cons (ok_iinc (by decide) (Nat.le_of_ble_eq_true rfl) dX10_wronglyBusy_72 rfl rfl) <| z_cons (ok_goto (tgt := 4) (by decide) rfl dX10_wronglyBusy_75 rfl) <| z_cons (ok_iload_n dX10_wronglyBusy_78 rfl rfl) <| z_cons (ok_iret rfl dX10_wronglyBusy_79 rfl) <| z_nil
set_option maxRecDepth 20000 in
theorem zl_X10_wronglyBusy_0 : z_All z_tab cX10_wronglyBusy 3 (some .int) RX10 pc_X10_wronglyBusy 0 (k_X10_wronglyBusy.drop 0) := z_cons (ok_iconst (by decide) dX10_wronglyBusy_0 rfl rfl) <| z_cons (ok_istore_n (Nat.le_of_ble_eq_true rfl) dX10_wronglyBusy_1 rfl rfl) <| z_cons (ok_iconst (by decide) dX10_wronglyBusy_2 rfl rfl) <| z_cons (ok_istore_n (Nat.le_of_ble_eq_true rfl) dX10_wronglyBusy_3 rfl rfl) <| z_cons (ok_iload_n dX10_wronglyBusy_4 rfl rfl) <| z_cons (ok_bipush (by decide) dX10_wronglyBusy_5 rfl rfl) <| z_cons (ok_icmp_ge (tgt := 78) (by decide) rfl dX10_wronglyBusy_7 rfl rfl) <| z_cons (ok_iload_n dX10_wronglyBusy_10 rfl rfl) <| z_cons (ok_aload_n dX10_wronglyBusy_11 rfl rfl) <| z_cons (ok_getr (k := 0) ⟨by decide, by decide, by decide⟩ (ci := 8) (T := TX10) rfl rfl (Nat.le_of_ble_eq_true rfl) iw_X10 qw_616 gr_11_0 (fun _ _ => by simp) (fun w i => List.mem_of_getElem? (i := 0) rfl) dX10_wronglyBusy_12 rfl rfl) <| z_cons (ok_sipush (by decide) dX10_wronglyBusy_15 rfl rfl) <| z_cons (ok_iload_n dX10_wronglyBusy_18 rfl rfl) <| z_cons (ok_iadd dX10_wronglyBusy_19 rfl rfl) <| z_cons (ok_iald dX10_wronglyBusy_20 rfl rfl) <| z_cons (ok_iconst (by decide) dX10_wronglyBusy_21 rfl rfl) <| z_cons (ok_icmp_eq (tgt := 69) (by decide) rfl dX10_wronglyBusy_22 rfl rfl) <| z_cons (ok_aload_n dX10_wronglyBusy_25 rfl rfl) <| z_cons (ok_getr (k := 0) ⟨by decide, by decide, by decide⟩ (ci := 8) (T := TX10) rfl rfl (Nat.le_of_ble_eq_true rfl) iw_X10 qw_616 gr_11_0 (fun _ _ => by simp) (fun w i => List.mem_of_getElem? (i := 0) rfl) dX10_wronglyBusy_26 rfl rfl) <| z_cons (ok_sipush (by decide) dX10_wronglyBusy_29 rfl rfl) <| z_cons (ok_aload_n dX10_wronglyBusy_32 rfl rfl) <| z_cons (ok_getr (k := 0) ⟨by decide, by decide, by decide⟩ (ci := 8) (T := TX10) rfl rfl (Nat.le_of_ble_eq_true rfl) iw_X10 qw_616 gr_11_0 (fun _ _ => by simp) (fun w i => List.mem_of_getElem? (i := 0) rfl) dX10_wronglyBusy_33 rfl rfl) <| z_cons (ok_sipush (by decide) dX10_wronglyBusy_36 rfl rfl) <| z_cons (ok_iload_n dX10_wronglyBusy_39 rfl rfl) <| z_cons (ok_iadd dX10_wronglyBusy_40 rfl rfl) <| z_cons (ok_iald dX10_wronglyBusy_41 rfl rfl) <| z_cons (ok_iadd dX10_wronglyBusy_42 rfl rfl) <| z_cons (ok_iald dX10_wronglyBusy_43 rfl rfl) <| z_cons (ok_if_eq (tgt := 65) (by decide) rfl dX10_wronglyBusy_44 rfl rfl) <| z_cons (ok_aload_n dX10_wronglyBusy_47 rfl rfl) <| z_cons (ok_aload_n dX10_wronglyBusy_48 rfl rfl) <| z_cons (ok_getr (k := 0) ⟨by decide, by decide, by decide⟩ (ci := 8) (T := TX10) rfl rfl (Nat.le_of_ble_eq_true rfl) iw_X10 qw_616 gr_11_0 (fun _ _ => by simp) (fun w i => List.mem_of_getElem? (i := 0) rfl) dX10_wronglyBusy_49 rfl rfl) <| z_cons (ok_sipush (by decide) dX10_wronglyBusy_52 rfl rfl) <| z_cons (ok_iload_n dX10_wronglyBusy_55 rfl rfl) <| z_cons (ok_iadd dX10_wronglyBusy_56 rfl rfl) <| z_cons (ok_iald dX10_wronglyBusy_57 rfl rfl) <| z_cons (ok_iload_n dX10_wronglyBusy_58 rfl rfl) <| z_cons (ok_callv ⟨by decide, by decide, by decide⟩ (ci := 8) (C := RX10) (T := TX10) rfl go_11 (k := 172) (n := 2) qw_626 qw_618 ⟨by decide +kernel, by decide +kernel, by decide +kernel⟩ (Nat.le_of_ble_eq_true rfl) qw_627 qw_628 qw_629 dX10_wronglyBusy_59 rfl rfl) <| z_cons (ok_if_ne (tgt := 69) (by decide) rfl dX10_wronglyBusy_62 rfl rfl) <| z_cons (ok_iconst (by decide) dX10_wronglyBusy_65 rfl rfl) <| z_cons (ok_goto (tgt := 70) (by decide) rfl dX10_wronglyBusy_66 rfl) <| zl_X10_wronglyBusy_1
theorem dX10_never_0 : decode cX10_never 0 = .ok (.iload_n 1, 1) := by decide +kernel
theorem dX10_never_1 : decode cX10_never 1 = .ok (.iconst 2, 1) := by decide +kernel
theorem dX10_never_2 : decode cX10_never 2 = .ok (.if_icmp .ne 10, 3) := by decide +kernel
theorem dX10_never_5 : decode cX10_never 5 = .ok (.aload_n 0, 1) := by decide +kernel
theorem dX10_never_6 : decode cX10_never 6 = .ok (.invokevirtual 262, 3) := by decide +kernel
theorem dX10_never_9 : decode cX10_never 9 = .ok (.goto 25, 3) := by decide +kernel
theorem dX10_never_12 : decode cX10_never 12 = .ok (.iload_n 1, 1) := by decide +kernel
theorem dX10_never_13 : decode cX10_never 13 = .ok (.iconst 0, 1) := by decide +kernel
theorem dX10_never_14 : decode cX10_never 14 = .ok (.iconst 1, 1) := by decide +kernel
theorem dX10_never_15 : decode cX10_never 15 = .ok (.invokestatic 32, 3) := by decide +kernel
theorem dX10_never_18 : decode cX10_never 18 = .ok (.ifCond .eq 15, 3) := by decide +kernel
theorem dX10_never_21 : decode cX10_never 21 = .ok (.aload_n 0, 1) := by decide +kernel
theorem dX10_never_22 : decode cX10_never 22 = .ok (.getfield 10, 3) := by decide +kernel
theorem dX10_never_25 : decode cX10_never 25 = .ok (.bipush 19, 2) := by decide +kernel
theorem dX10_never_27 : decode cX10_never 27 = .ok (.iload_n 1, 1) := by decide +kernel
theorem dX10_never_28 : decode cX10_never 28 = .ok (.iadd, 1) := by decide +kernel
theorem dX10_never_29 : decode cX10_never 29 = .ok (.iaload, 1) := by decide +kernel
theorem dX10_never_30 : decode cX10_never 30 = .ok (.goto 4, 3) := by decide +kernel
theorem dX10_never_33 : decode cX10_never 33 = .ok (.iconst (-1), 1) := by decide +kernel
theorem dX10_never_34 : decode cX10_never 34 = .ok (.ireturn, 1) := by decide +kernel
set_option maxRecDepth 20000 in
theorem zl_X10_never_0 : z_All z_tab cX10_never 2 (some .int) RX10 pc_X10_never 0 (k_X10_never.drop 0) := z_cons (ok_iload_n dX10_never_0 rfl rfl) <| z_cons (ok_iconst (by decide) dX10_never_1 rfl rfl) <| z_cons (ok_icmp_ne (tgt := 12) (by decide) rfl dX10_never_2 rfl rfl) <| z_cons (ok_aload_n dX10_never_5 rfl rfl) <| z_cons (ok_callv ⟨by decide, by decide, by decide⟩ (ci := 8) (C := RX10) (T := TX10) rfl go_11 (k := 266) (n := 0) qw_880 qw_618 ⟨by decide +kernel, by decide +kernel, by decide +kernel⟩ (Nat.le_of_ble_eq_true rfl) qw_881 qw_882 qw_883 dX10_never_6 rfl rfl) <| z_cons (ok_goto (tgt := 34) (by decide) rfl dX10_never_9 rfl) <| z_cons (ok_iload_n dX10_never_12 rfl rfl) <| z_cons (ok_iconst (by decide) dX10_never_13 rfl rfl) <| z_cons (ok_iconst (by decide) dX10_never_14 rfl rfl) <| z_cons (ok_callS (k := 162) (n := 3) qw_617 qw_618 ⟨by decide +kernel, by decide +kernel, by decide +kernel⟩ (Nat.le_of_ble_eq_true rfl) qw_620 qw_619 dX10_never_15 rfl rfl) <| z_cons (ok_if_eq (tgt := 33) (by decide) rfl dX10_never_18 rfl rfl) <| z_cons (ok_aload_n dX10_never_21 rfl rfl) <| z_cons (ok_getr (k := 0) ⟨by decide, by decide, by decide⟩ (ci := 8) (T := TX10) rfl rfl (Nat.le_of_ble_eq_true rfl) iw_X10 qw_616 gr_11_0 (fun _ _ => by simp) (fun w i => List.mem_of_getElem? (i := 0) rfl) dX10_never_22 rfl rfl) <| z_cons (ok_bipush (by decide) dX10_never_25 rfl rfl) <| z_cons (ok_iload_n dX10_never_27 rfl rfl) <| z_cons (ok_iadd dX10_never_28 rfl rfl) <| z_cons (ok_iald dX10_never_29 rfl rfl) <| z_cons (ok_goto (tgt := 34) (by decide) rfl dX10_never_30 rfl) <| z_cons (ok_iconst (by decide) dX10_never_33 rfl rfl) <| z_cons (ok_iret rfl dX10_never_34 rfl) <| z_nil
theorem dX10_count_0 : decode cX10_count 0 = .ok (.iload_n 1, 1) := by decide +kernel
theorem dX10_count_1 : decode cX10_count 1 = .ok (.iconst 0, 1) := by decide +kernel
theorem dX10_count_2 : decode cX10_count 2 = .ok (.bipush 13, 2) := by decide +kernel
theorem dX10_count_4 : decode cX10_count 4 = .ok (.invokestatic 32, 3) := by decide +kernel
theorem dX10_count_7 : decode cX10_count 7 = .ok (.ifCond .eq 14, 3) := by decide +kernel
theorem dX10_count_10 : decode cX10_count 10 = .ok (.aload_n 0, 1) := by decide +kernel
theorem dX10_count_11 : decode cX10_count 11 = .ok (.getfield 10, 3) := by decide +kernel
theorem dX10_count_14 : decode cX10_count 14 = .ok (.iconst 5, 1) := by decide +kernel
theorem dX10_count_15 : decode cX10_count 15 = .ok (.iload_n 1, 1) := by decide +kernel
theorem dX10_count_16 : decode cX10_count 16 = .ok (.iadd, 1) := by decide +kernel
theorem dX10_count_17 : decode cX10_count 17 = .ok (.iaload, 1) := by decide +kernel
theorem dX10_count_18 : decode cX10_count 18 = .ok (.goto 4, 3) := by decide +kernel
theorem dX10_count_21 : decode cX10_count 21 = .ok (.iconst (-1), 1) := by decide +kernel
theorem dX10_count_22 : decode cX10_count 22 = .ok (.ireturn, 1) := by decide +kernel
set_option maxRecDepth 20000 in
theorem zl_X10_count_0 : z_All z_tab cX10_count 2 (some .int) RX10 pc_X10_count 0 (k_X10_count.drop 0) := z_cons (ok_iload_n dX10_count_0 rfl rfl) <| z_cons (ok_iconst (by decide) dX10_count_1 rfl rfl) <| z_cons (ok_bipush (by decide) dX10_count_2 rfl rfl) <| z_cons (ok_callS (k := 162) (n := 3) qw_617 qw_618 ⟨by decide +kernel, by decide +kernel, by decide +kernel⟩ (Nat.le_of_ble_eq_true rfl) qw_620 qw_619 dX10_count_4 rfl rfl) <| z_cons (ok_if_eq (tgt := 21) (by decide) rfl dX10_count_7 rfl rfl) <| z_cons (ok_aload_n dX10_count_10 rfl rfl) <| z_cons (ok_getr (k := 0) ⟨by decide, by decide, by decide⟩ (ci := 8) (T := TX10) rfl rfl (Nat.le_of_ble_eq_true rfl) iw_X10 qw_616 gr_11_0 (fun _ _ => by simp) (fun w i => List.mem_of_getElem? (i := 0) rfl) dX10_count_11 rfl rfl) <| z_cons (ok_iconst (by decide) dX10_count_14 rfl rfl) <| z_cons (ok_iload_n dX10_count_15 rfl rfl) <| z_cons (ok_iadd dX10_count_16 rfl rfl) <| z_cons (ok_iald dX10_count_17 rfl rfl) <| z_cons (ok_goto (tgt := 22) (by decide) rfl dX10_count_18 rfl) <| z_cons (ok_iconst (by decide) dX10_count_21 rfl rfl) <| z_cons (ok_iret rfl dX10_count_22 rfl) <| z_nil
theorem dX10_image_0 : decode cX10_image 0 = .ok (.iload_n 1, 1) := by decide +kernel
theorem dX10_image_1 : decode cX10_image 1 = .ok (.ifCond .ne 12, 3) := by decide +kernel
theorem dX10_image_4 : decode cX10_image 4 = .ok (.aload_n 0, 1) := by decide +kernel
theorem dX10_image_5 : decode cX10_image 5 = .ok (.getfield 265, 3) := by decide +kernel
theorem dX10_image_8 : decode cX10_image 8 = .ok (.ifCond .ne 5, 3) := by decide +kernel
theorem dX10_image_11 : decode cX10_image 11 = .ok (.iconst 0, 1) := by decide +kernel
theorem dX10_image_12 : decode cX10_image 12 = .ok (.ireturn, 1) := by decide +kernel
theorem dX10_image_13 : decode cX10_image 13 = .ok (.iload_n 1, 1) := by decide +kernel
theorem dX10_image_14 : decode cX10_image 14 = .ok (.ifCond .eq 17, 3) := by decide +kernel
theorem dX10_image_17 : decode cX10_image 17 = .ok (.aload_n 0, 1) := by decide +kernel
theorem dX10_image_18 : decode cX10_image 18 = .ok (.getfield 10, 3) := by decide +kernel
theorem dX10_image_21 : decode cX10_image 21 = .ok (.aload_n 0, 1) := by decide +kernel
theorem dX10_image_22 : decode cX10_image 22 = .ok (.getfield 17, 3) := by decide +kernel
theorem dX10_image_25 : decode cX10_image 25 = .ok (.invokestatic 219, 3) := by decide +kernel
theorem dX10_image_28 : decode cX10_image 28 = .ok (.goto 14, 3) := by decide +kernel
theorem dX10_image_31 : decode cX10_image 31 = .ok (.aload_n 0, 1) := by decide +kernel
theorem dX10_image_32 : decode cX10_image 32 = .ok (.getfield 17, 3) := by decide +kernel
theorem dX10_image_35 : decode cX10_image 35 = .ok (.aload_n 0, 1) := by decide +kernel
theorem dX10_image_36 : decode cX10_image 36 = .ok (.getfield 10, 3) := by decide +kernel
theorem dX10_image_39 : decode cX10_image 39 = .ok (.invokestatic 219, 3) := by decide +kernel
theorem dX10_image_42 : decode cX10_image 42 = .ok (.aload_n 0, 1) := by decide +kernel
theorem dX10_image_43 : decode cX10_image 43 = .ok (.iconst 1, 1) := by decide +kernel
theorem dX10_image_44 : decode cX10_image 44 = .ok (.putfield 265, 3) := by decide +kernel
theorem dX10_image_47 : decode cX10_image 47 = .ok (.iconst 1, 1) := by decide +kernel
theorem dX10_image_48 : decode cX10_image 48 = .ok (.ireturn, 1) := by decide +kernel
set_option maxRecDepth 20000 in
theorem zl_X10_image_0 : z_All z_tab cX10_image 2 (some .boolean) RX10 pc_X10_image 0 (k_X10_image.drop 0) := z_cons (ok_iload_n dX10_image_0 rfl rfl) <| z_cons (ok_if_ne (tgt := 13) (by decide) rfl dX10_image_1 rfl rfl) <| z_cons (ok_aload_n dX10_image_4 rfl rfl) <| z_cons (ok_get ⟨by decide, by decide, by decide⟩ (ci := 8) (T := TX10) rfl rfl (Nat.le_of_ble_eq_true rfl) iw_X10 qw_884 gv_11_3 dX10_image_5 rfl rfl) <| z_cons (ok_if_ne (tgt := 13) (by decide) rfl dX10_image_8 rfl rfl) <| z_cons (ok_iconst (by decide) dX10_image_11 rfl rfl) <| z_cons (ok_zret rfl dX10_image_12 rfl) <| z_cons (ok_iload_n dX10_image_13 rfl rfl) <| z_cons (ok_if_eq (tgt := 31) (by decide) rfl dX10_image_14 rfl rfl) <| z_cons (ok_aload_n dX10_image_17 rfl rfl) <| z_cons (ok_getr (k := 0) ⟨by decide, by decide, by decide⟩ (ci := 8) (T := TX10) rfl rfl (Nat.le_of_ble_eq_true rfl) iw_X10 qw_616 gr_11_0 (fun _ _ => by simp) (fun w i => List.mem_of_getElem? (i := 0) rfl) dX10_image_18 rfl rfl) <| z_cons (ok_aload_n dX10_image_21 rfl rfl) <| z_cons (ok_getr (k := 2) ⟨by decide, by decide, by decide⟩ (ci := 8) (T := TX10) rfl rfl (Nat.le_of_ble_eq_true rfl) iw_X10 qw_885 gr_11_2 (fun _ _ => by simp) (fun w i => List.mem_of_getElem? (i := 2) rfl) dX10_image_22 rfl rfl) <| z_cons (ok_callS (k := 164) (n := 2) qw_835 qw_618 ⟨by decide +kernel, by decide +kernel, by decide +kernel⟩ (Nat.le_of_ble_eq_true rfl) qw_837 qw_836 dX10_image_25 rfl rfl) <| z_cons (ok_goto (tgt := 42) (by decide) rfl dX10_image_28 rfl) <| z_cons (ok_aload_n dX10_image_31 rfl rfl) <| z_cons (ok_getr (k := 2) ⟨by decide, by decide, by decide⟩ (ci := 8) (T := TX10) rfl rfl (Nat.le_of_ble_eq_true rfl) iw_X10 qw_885 gr_11_2 (fun _ _ => by simp) (fun w i => List.mem_of_getElem? (i := 2) rfl) dX10_image_32 rfl rfl) <| z_cons (ok_aload_n dX10_image_35 rfl rfl) <| z_cons (ok_getr (k := 0) ⟨by decide, by decide, by decide⟩ (ci := 8) (T := TX10) rfl rfl (Nat.le_of_ble_eq_true rfl) iw_X10 qw_616 gr_11_0 (fun _ _ => by simp) (fun w i => List.mem_of_getElem? (i := 0) rfl) dX10_image_36 rfl rfl) <| z_cons (ok_callS (k := 164) (n := 2) qw_835 qw_618 ⟨by decide +kernel, by decide +kernel, by decide +kernel⟩ (Nat.le_of_ble_eq_true rfl) qw_837 qw_836 dX10_image_39 rfl rfl) <| z_cons (ok_aload_n dX10_image_42 rfl rfl) <| z_cons (ok_iconst (by decide) dX10_image_43 rfl rfl) <| z_cons (ok_putz ⟨by decide, by decide, by decide⟩ (ci := 8) (T := TX10) rfl rfl (Nat.le_of_ble_eq_true rfl) iw_X10 qw_884 tyX10_ok nmX10 rfl pv_11_3 rfl dX10_image_44 rfl rfl) <| z_cons (ok_iconst (by decide) dX10_image_47 rfl rfl) <| z_cons (ok_zret rfl dX10_image_48 rfl) <| z_nil
theorem dX10_tagsThat_0 : decode cX10_tagsThat 0 = .ok (.iconst 0, 1) := by decide +kernel
theorem dX10_tagsThat_1 : decode cX10_tagsThat 1 = .ok (.istore_n 2, 1) := by decide +kernel
theorem dX10_tagsThat_2 : decode cX10_tagsThat 2 = .ok (.iconst 0, 1) := by decide +kernel
theorem dX10_tagsThat_3 : decode cX10_tagsThat 3 = .ok (.istore_n 3, 1) := by decide +kernel
theorem dX10_tagsThat_4 : decode cX10_tagsThat 4 = .ok (.iload_n 3, 1) := by decide +kernel
theorem dX10_tagsThat_5 : decode cX10_tagsThat 5 = .ok (.bipush 24, 2) := by decide +kernel
theorem dX10_tagsThat_7 : decode cX10_tagsThat 7 = .ok (.if_icmp .ge 80, 3) := by decide +kernel
theorem dX10_tagsThat_10 : decode cX10_tagsThat 10 = .ok (.iload_n 2, 1) := by decide +kernel
theorem dX10_tagsThat_11 : decode cX10_tagsThat 11 = .ok (.aload_n 0, 1) := by decide +kernel
theorem dX10_tagsThat_12 : decode cX10_tagsThat 12 = .ok (.getfield 10, 3) := by decide +kernel
theorem dX10_tagsThat_15 : decode cX10_tagsThat 15 = .ok (.sipush 454, 3) := by decide +kernel
theorem dX10_tagsThat_18 : decode cX10_tagsThat 18 = .ok (.iload_n 3, 1) := by decide +kernel
theorem dX10_tagsThat_19 : decode cX10_tagsThat 19 = .ok (.iadd, 1) := by decide +kernel
theorem dX10_tagsThat_20 : decode cX10_tagsThat 20 = .ok (.iaload, 1) := by decide +kernel
theorem dX10_tagsThat_21 : decode cX10_tagsThat 21 = .ok (.iconst 1, 1) := by decide +kernel
theorem dX10_tagsThat_22 : decode cX10_tagsThat 22 = .ok (.if_icmp .ne 56, 3) := by decide +kernel
theorem dX10_tagsThat_25 : decode cX10_tagsThat 25 = .ok (.iload_n 1, 1) := by decide +kernel
theorem dX10_tagsThat_26 : decode cX10_tagsThat 26 = .ok (.iconst 5, 1) := by decide +kernel
theorem dX10_tagsThat_27 : decode cX10_tagsThat 27 = .ok (.if_icmp .ne 14, 3) := by decide +kernel
theorem dX10_tagsThat_30 : decode cX10_tagsThat 30 = .ok (.aload_n 0, 1) := by decide +kernel
theorem dX10_tagsThat_31 : decode cX10_tagsThat 31 = .ok (.iload_n 3, 1) := by decide +kernel
theorem dX10_tagsThat_32 : decode cX10_tagsThat 32 = .ok (.invokevirtual 57, 3) := by decide +kernel
theorem dX10_tagsThat_35 : decode cX10_tagsThat 35 = .ok (.ifCond .eq 43, 3) := by decide +kernel
theorem dX10_tagsThat_38 : decode cX10_tagsThat 38 = .ok (.goto 36, 3) := by decide +kernel
theorem dX10_tagsThat_41 : decode cX10_tagsThat 41 = .ok (.iload_n 1, 1) := by decide +kernel
theorem dX10_tagsThat_42 : decode cX10_tagsThat 42 = .ok (.bipush 6, 2) := by decide +kernel
theorem dX10_tagsThat_44 : decode cX10_tagsThat 44 = .ok (.if_icmp .ne 20, 3) := by decide +kernel
theorem dX10_tagsThat_47 : decode cX10_tagsThat 47 = .ok (.aload_n 0, 1) := by decide +kernel
theorem dX10_tagsThat_48 : decode cX10_tagsThat 48 = .ok (.getfield 10, 3) := by decide +kernel
theorem dX10_tagsThat_51 : decode cX10_tagsThat 51 = .ok (.sipush 550, 3) := by decide +kernel
theorem dX10_tagsThat_54 : decode cX10_tagsThat 54 = .ok (.iload_n 3, 1) := by decide +kernel
theorem dX10_tagsThat_55 : decode cX10_tagsThat 55 = .ok (.iadd, 1) := by decide +kernel
theorem dX10_tagsThat_56 : decode cX10_tagsThat 56 = .ok (.iaload, 1) := by decide +kernel
theorem dX10_tagsThat_57 : decode cX10_tagsThat 57 = .ok (.iconst (-1), 1) := by decide +kernel
theorem dX10_tagsThat_58 : decode cX10_tagsThat 58 = .ok (.if_icmp .eq 20, 3) := by decide +kernel
theorem dX10_tagsThat_61 : decode cX10_tagsThat 61 = .ok (.goto 13, 3) := by decide +kernel
theorem dX10_tagsThat_64 : decode cX10_tagsThat 64 = .ok (.aload_n 0, 1) := by decide +kernel
theorem dX10_tagsThat_65 : decode cX10_tagsThat 65 = .ok (.iload_n 3, 1) := by decide +kernel
theorem dX10_tagsThat_66 : decode cX10_tagsThat 66 = .ok (.iconst 4, 1) := by decide +kernel
theorem dX10_tagsThat_67 : decode cX10_tagsThat 67 = .ok (.invokevirtual 45, 3) := by decide +kernel
theorem dX10_tagsThat_70 : decode cX10_tagsThat 70 = .ok (.iconst 1, 1) := by decide +kernel
theorem dX10_tagsThat_71 : decode cX10_tagsThat 71 = .ok (.if_icmp .ne 7, 3) := by decide +kernel
theorem dX10_tagsThat_74 : decode cX10_tagsThat 74 = .ok (.iconst 1, 1) := by decide +kernel
theorem dX10_tagsThat_75 : decode cX10_tagsThat 75 = .ok (.goto 4, 3) := by decide +kernel
theorem dX10_tagsThat_78 : decode cX10_tagsThat 78 = .ok (.iconst 0, 1) := by decide +kernel
theorem dX10_tagsThat_79 : decode cX10_tagsThat 79 = .ok (.iadd, 1) := by decide +kernel
theorem dX10_tagsThat_80 : decode cX10_tagsThat 80 = .ok (.istore_n 2, 1) := by decide +kernel
theorem dX10_tagsThat_81 : decode cX10_tagsThat 81 = .ok (.iinc 3 1, 3) := by decide +kernel
theorem dX10_tagsThat_84 : decode cX10_tagsThat 84 = .ok (.goto (-80), 3) := by decide +kernel
theorem dX10_tagsThat_87 : decode cX10_tagsThat 87 = .ok (.iload_n 2, 1) := by decide +kernel
theorem dX10_tagsThat_88 : decode cX10_tagsThat 88 = .ok (.ireturn, 1) := by decide +kernel
set_option maxRecDepth 20000 in
theorem zl_X10_tagsThat_1 : z_All z_tab cX10_tagsThat 4 (some .int) RX10 pc_X10_tagsThat 40 (k_X10_tagsThat.drop 40) := z_cons (ok_iconst (by decide) dX10_tagsThat_70 rfl rfl) <| z_cons (ok_icmp_ne (tgt := 78) (by decide) rfl dX10_tagsThat_71 rfl rfl) <| z_cons (ok_iconst (by decide) dX10_tagsThat_74 rfl rfl) <| z_cons (ok_goto (tgt := 79) (by decide) rfl dX10_tagsThat_75 rfl) <| z_cons (ok_iconst (by decide) dX10_tagsThat_78 rfl rfl) <| z_cons (ok_iadd dX10_tagsThat_79 rfl rfl) <| z_cons (ok_istore_n (Nat.le_of_ble_eq_true rfl) dX10_tagsThat_80 rfl rfl) <| z_cons (ok_iinc (by decide) (Nat.le_of_ble_eq_true rfl) dX10_tagsThat_81 rfl rfl) <| z_cons (ok_goto (tgt := 4) (by decide) rfl dX10_tagsThat_84 rfl) <| z_cons (ok_iload_n dX10_tagsThat_87 rfl rfl) <| z_cons (ok_iret rfl dX10_tagsThat_88 rfl) <| z_nil
set_option maxRecDepth 20000 in
theorem zl_X10_tagsThat_0 : z_All z_tab cX10_tagsThat 4 (some .int) RX10 pc_X10_tagsThat 0 (k_X10_tagsThat.drop 0) := z_cons (ok_iconst (by decide) dX10_tagsThat_0 rfl rfl) <| z_cons (ok_istore_n (Nat.le_of_ble_eq_true rfl) dX10_tagsThat_1 rfl rfl) <| z_cons (ok_iconst (by decide) dX10_tagsThat_2 rfl rfl) <| z_cons (ok_istore_n (Nat.le_of_ble_eq_true rfl) dX10_tagsThat_3 rfl rfl) <| z_cons (ok_iload_n dX10_tagsThat_4 rfl rfl) <| z_cons (ok_bipush (by decide) dX10_tagsThat_5 rfl rfl) <| z_cons (ok_icmp_ge (tgt := 87) (by decide) rfl dX10_tagsThat_7 rfl rfl) <| z_cons (ok_iload_n dX10_tagsThat_10 rfl rfl) <| z_cons (ok_aload_n dX10_tagsThat_11 rfl rfl) <| z_cons (ok_getr (k := 0) ⟨by decide, by decide, by decide⟩ (ci := 8) (T := TX10) rfl rfl (Nat.le_of_ble_eq_true rfl) iw_X10 qw_616 gr_11_0 (fun _ _ => by simp) (fun w i => List.mem_of_getElem? (i := 0) rfl) dX10_tagsThat_12 rfl rfl) <| z_cons (ok_sipush (by decide) dX10_tagsThat_15 rfl rfl) <| z_cons (ok_iload_n dX10_tagsThat_18 rfl rfl) <| z_cons (ok_iadd dX10_tagsThat_19 rfl rfl) <| z_cons (ok_iald dX10_tagsThat_20 rfl rfl) <| z_cons (ok_iconst (by decide) dX10_tagsThat_21 rfl rfl) <| z_cons (ok_icmp_ne (tgt := 78) (by decide) rfl dX10_tagsThat_22 rfl rfl) <| z_cons (ok_iload_n dX10_tagsThat_25 rfl rfl) <| z_cons (ok_iconst (by decide) dX10_tagsThat_26 rfl rfl) <| z_cons (ok_icmp_ne (tgt := 41) (by decide) rfl dX10_tagsThat_27 rfl rfl) <| z_cons (ok_aload_n dX10_tagsThat_30 rfl rfl) <| z_cons (ok_iload_n dX10_tagsThat_31 rfl rfl) <| z_cons (ok_callv ⟨by decide, by decide, by decide⟩ (ci := 8) (C := RX10) (T := TX10) rfl go_11 (k := 173) (n := 1) qw_642 qw_618 ⟨by decide +kernel, by decide +kernel, by decide +kernel⟩ (Nat.le_of_ble_eq_true rfl) qw_643 qw_644 qw_645 dX10_tagsThat_32 rfl rfl) <| z_cons (ok_if_eq (tgt := 78) (by decide) rfl dX10_tagsThat_35 rfl rfl) <| z_cons (ok_goto (tgt := 74) (by decide) rfl dX10_tagsThat_38 rfl) <| z_cons (ok_iload_n dX10_tagsThat_41 rfl rfl) <| z_cons (ok_bipush (by decide) dX10_tagsThat_42 rfl rfl) <| z_cons (ok_icmp_ne (tgt := 64) (by decide) rfl dX10_tagsThat_44 rfl rfl) <| z_cons (ok_aload_n dX10_tagsThat_47 rfl rfl) <| z_cons (ok_getr (k := 0) ⟨by decide, by decide, by decide⟩ (ci := 8) (T := TX10) rfl rfl (Nat.le_of_ble_eq_true rfl) iw_X10 qw_616 gr_11_0 (fun _ _ => by simp) (fun w i => List.mem_of_getElem? (i := 0) rfl) dX10_tagsThat_48 rfl rfl) <| z_cons (ok_sipush (by decide) dX10_tagsThat_51 rfl rfl) <| z_cons (ok_iload_n dX10_tagsThat_54 rfl rfl) <| z_cons (ok_iadd dX10_tagsThat_55 rfl rfl) <| z_cons (ok_iald dX10_tagsThat_56 rfl rfl) <| z_cons (ok_iconst (by decide) dX10_tagsThat_57 rfl rfl) <| z_cons (ok_icmp_eq (tgt := 78) (by decide) rfl dX10_tagsThat_58 rfl rfl) <| z_cons (ok_goto (tgt := 74) (by decide) rfl dX10_tagsThat_61 rfl) <| z_cons (ok_aload_n dX10_tagsThat_64 rfl rfl) <| z_cons (ok_iload_n dX10_tagsThat_65 rfl rfl) <| z_cons (ok_iconst (by decide) dX10_tagsThat_66 rfl rfl) <| z_cons (ok_callv ⟨by decide, by decide, by decide⟩ (ci := 8) (C := RX10) (T := TX10) rfl go_11 (k := 174) (n := 2) qw_630 qw_618 ⟨by decide +kernel, by decide +kernel, by decide +kernel⟩ (Nat.le_of_ble_eq_true rfl) qw_631 qw_632 qw_633 dX10_tagsThat_67 rfl rfl) <| zl_X10_tagsThat_1
theorem dX10_readersThat_0 : decode cX10_readersThat 0 = .ok (.iconst 0, 1) := by decide +kernel
theorem dX10_readersThat_1 : decode cX10_readersThat 1 = .ok (.istore_n 2, 1) := by decide +kernel
theorem dX10_readersThat_2 : decode cX10_readersThat 2 = .ok (.iconst 0, 1) := by decide +kernel
theorem dX10_readersThat_3 : decode cX10_readersThat 3 = .ok (.istore_n 3, 1) := by decide +kernel
theorem dX10_readersThat_4 : decode cX10_readersThat 4 = .ok (.iload_n 3, 1) := by decide +kernel
theorem dX10_readersThat_5 : decode cX10_readersThat 5 = .ok (.iconst 4, 1) := by decide +kernel
theorem dX10_readersThat_6 : decode cX10_readersThat 6 = .ok (.if_icmp .ge 22, 3) := by decide +kernel
theorem dX10_readersThat_9 : decode cX10_readersThat 9 = .ok (.iload_n 2, 1) := by decide +kernel
theorem dX10_readersThat_10 : decode cX10_readersThat 10 = .ok (.aload_n 0, 1) := by decide +kernel
theorem dX10_readersThat_11 : decode cX10_readersThat 11 = .ok (.getfield 10, 3) := by decide +kernel
theorem dX10_readersThat_14 : decode cX10_readersThat 14 = .ok (.iload_n 1, 1) := by decide +kernel
theorem dX10_readersThat_15 : decode cX10_readersThat 15 = .ok (.iload_n 3, 1) := by decide +kernel
theorem dX10_readersThat_16 : decode cX10_readersThat 16 = .ok (.iadd, 1) := by decide +kernel
theorem dX10_readersThat_17 : decode cX10_readersThat 17 = .ok (.iaload, 1) := by decide +kernel
theorem dX10_readersThat_18 : decode cX10_readersThat 18 = .ok (.iload_n 3, 1) := by decide +kernel
theorem dX10_readersThat_19 : decode cX10_readersThat 19 = .ok (.ishl, 1) := by decide +kernel
theorem dX10_readersThat_20 : decode cX10_readersThat 20 = .ok (.ior, 1) := by decide +kernel
theorem dX10_readersThat_21 : decode cX10_readersThat 21 = .ok (.istore_n 2, 1) := by decide +kernel
theorem dX10_readersThat_22 : decode cX10_readersThat 22 = .ok (.iinc 3 1, 3) := by decide +kernel
theorem dX10_readersThat_25 : decode cX10_readersThat 25 = .ok (.goto (-21), 3) := by decide +kernel
theorem dX10_readersThat_28 : decode cX10_readersThat 28 = .ok (.iload_n 2, 1) := by decide +kernel
theorem dX10_readersThat_29 : decode cX10_readersThat 29 = .ok (.ireturn, 1) := by decide +kernel
set_option maxRecDepth 20000 in
theorem zl_X10_readersThat_0 : z_All z_tab cX10_readersThat 4 (some .int) RX10 pc_X10_readersThat 0 (k_X10_readersThat.drop 0) := z_cons (ok_iconst (by decide) dX10_readersThat_0 rfl rfl) <| z_cons (ok_istore_n (Nat.le_of_ble_eq_true rfl) dX10_readersThat_1 rfl rfl) <| z_cons (ok_iconst (by decide) dX10_readersThat_2 rfl rfl) <| z_cons (ok_istore_n (Nat.le_of_ble_eq_true rfl) dX10_readersThat_3 rfl rfl) <| z_cons (ok_iload_n dX10_readersThat_4 rfl rfl) <| z_cons (ok_iconst (by decide) dX10_readersThat_5 rfl rfl) <| z_cons (ok_icmp_ge (tgt := 28) (by decide) rfl dX10_readersThat_6 rfl rfl) <| z_cons (ok_iload_n dX10_readersThat_9 rfl rfl) <| z_cons (ok_aload_n dX10_readersThat_10 rfl rfl) <| z_cons (ok_getr (k := 0) ⟨by decide, by decide, by decide⟩ (ci := 8) (T := TX10) rfl rfl (Nat.le_of_ble_eq_true rfl) iw_X10 qw_616 gr_11_0 (fun _ _ => by simp) (fun w i => List.mem_of_getElem? (i := 0) rfl) dX10_readersThat_11 rfl rfl) <| z_cons (ok_iload_n dX10_readersThat_14 rfl rfl) <| z_cons (ok_iload_n dX10_readersThat_15 rfl rfl) <| z_cons (ok_iadd dX10_readersThat_16 rfl rfl) <| z_cons (ok_iald dX10_readersThat_17 rfl rfl) <| z_cons (ok_iload_n dX10_readersThat_18 rfl rfl) <| z_cons (ok_ishl dX10_readersThat_19 rfl rfl) <| z_cons (ok_ior dX10_readersThat_20 rfl rfl) <| z_cons (ok_istore_n (Nat.le_of_ble_eq_true rfl) dX10_readersThat_21 rfl rfl) <| z_cons (ok_iinc (by decide) (Nat.le_of_ble_eq_true rfl) dX10_readersThat_22 rfl rfl) <| z_cons (ok_goto (tgt := 4) (by decide) rfl dX10_readersThat_25 rfl) <| z_cons (ok_iload_n dX10_readersThat_28 rfl rfl) <| z_cons (ok_iret rfl dX10_readersThat_29 rfl) <| z_nil
theorem dX10_look_0 : decode cX10_look 0 = .ok (.iload_n 1, 1) := by decide +kernel
theorem dX10_look_1 : decode cX10_look 1 = .ok (.tableswitch 121 0 10 #[59, 66, 73, 80, 87, 92, 92, 92, 98, 106, 114], 59) := by decide +kernel
theorem dX10_look_60 : decode cX10_look 60 = .ok (.aload_n 0, 1) := by decide +kernel
theorem dX10_look_61 : decode cX10_look 61 = .ok (.getfield 10, 3) := by decide +kernel
theorem dX10_look_64 : decode cX10_look 64 = .ok (.iconst 0, 1) := by decide +kernel
theorem dX10_look_65 : decode cX10_look 65 = .ok (.iaload, 1) := by decide +kernel
theorem dX10_look_66 : decode cX10_look 66 = .ok (.ireturn, 1) := by decide +kernel
theorem dX10_look_67 : decode cX10_look 67 = .ok (.aload_n 0, 1) := by decide +kernel
theorem dX10_look_68 : decode cX10_look 68 = .ok (.getfield 10, 3) := by decide +kernel
theorem dX10_look_71 : decode cX10_look 71 = .ok (.iconst 1, 1) := by decide +kernel
theorem dX10_look_72 : decode cX10_look 72 = .ok (.iaload, 1) := by decide +kernel
theorem dX10_look_73 : decode cX10_look 73 = .ok (.ireturn, 1) := by decide +kernel
theorem dX10_look_74 : decode cX10_look 74 = .ok (.aload_n 0, 1) := by decide +kernel
theorem dX10_look_75 : decode cX10_look 75 = .ok (.getfield 10, 3) := by decide +kernel
theorem dX10_look_78 : decode cX10_look 78 = .ok (.iconst 2, 1) := by decide +kernel
theorem dX10_look_79 : decode cX10_look 79 = .ok (.iaload, 1) := by decide +kernel
theorem dX10_look_80 : decode cX10_look 80 = .ok (.ireturn, 1) := by decide +kernel
theorem dX10_look_81 : decode cX10_look 81 = .ok (.aload_n 0, 1) := by decide +kernel
theorem dX10_look_82 : decode cX10_look 82 = .ok (.getfield 10, 3) := by decide +kernel
theorem dX10_look_85 : decode cX10_look 85 = .ok (.iconst 3, 1) := by decide +kernel
theorem dX10_look_86 : decode cX10_look 86 = .ok (.iaload, 1) := by decide +kernel
theorem dX10_look_87 : decode cX10_look 87 = .ok (.ireturn, 1) := by decide +kernel
theorem dX10_look_88 : decode cX10_look 88 = .ok (.aload_n 0, 1) := by decide +kernel
theorem dX10_look_89 : decode cX10_look 89 = .ok (.invokevirtual 253, 3) := by decide +kernel
theorem dX10_look_92 : decode cX10_look 92 = .ok (.ireturn, 1) := by decide +kernel
theorem dX10_look_93 : decode cX10_look 93 = .ok (.aload_n 0, 1) := by decide +kernel
theorem dX10_look_94 : decode cX10_look 94 = .ok (.iload_n 1, 1) := by decide +kernel
theorem dX10_look_95 : decode cX10_look 95 = .ok (.invokevirtual 269, 3) := by decide +kernel
theorem dX10_look_98 : decode cX10_look 98 = .ok (.ireturn, 1) := by decide +kernel
theorem dX10_look_99 : decode cX10_look 99 = .ok (.aload_n 0, 1) := by decide +kernel
theorem dX10_look_100 : decode cX10_look 100 = .ok (.sipush 262, 3) := by decide +kernel
theorem dX10_look_103 : decode cX10_look 103 = .ok (.invokevirtual 272, 3) := by decide +kernel
theorem dX10_look_106 : decode cX10_look 106 = .ok (.ireturn, 1) := by decide +kernel
theorem dX10_look_107 : decode cX10_look 107 = .ok (.aload_n 0, 1) := by decide +kernel
theorem dX10_look_108 : decode cX10_look 108 = .ok (.sipush 278, 3) := by decide +kernel
theorem dX10_look_111 : decode cX10_look 111 = .ok (.invokevirtual 272, 3) := by decide +kernel
theorem dX10_look_114 : decode cX10_look 114 = .ok (.ireturn, 1) := by decide +kernel
theorem dX10_look_115 : decode cX10_look 115 = .ok (.aload_n 0, 1) := by decide +kernel
theorem dX10_look_116 : decode cX10_look 116 = .ok (.getfield 10, 3) := by decide +kernel
theorem dX10_look_119 : decode cX10_look 119 = .ok (.iconst 4, 1) := by decide +kernel
theorem dX10_look_120 : decode cX10_look 120 = .ok (.iaload, 1) := by decide +kernel
theorem dX10_look_121 : decode cX10_look 121 = .ok (.ireturn, 1) := by decide +kernel
theorem dX10_look_122 : decode cX10_look 122 = .ok (.ldc_w 275, 3) := by decide +kernel
theorem dX10_look_125 : decode cX10_look 125 = .ok (.ireturn, 1) := by decide +kernel
set_option maxRecDepth 20000 in
theorem zl_X10_look_1 : z_All z_tab cX10_look 2 (some .int) RX10 pc_X10_look 40 (k_X10_look.drop 40) := z_cons (ok_iald dX10_look_120 rfl rfl) <| z_cons (ok_iret rfl dX10_look_121 rfl) <| z_cons (ok_ldcw qw_894 dX10_look_122 rfl rfl) <| z_cons (ok_iret rfl dX10_look_125 rfl) <| z_nil
set_option maxRecDepth 20000 in
theorem zl_X10_look_0 : z_All z_tab cX10_look 2 (some .int) RX10 pc_X10_look 0 (k_X10_look.drop 0) := z_cons (ok_iload_n dX10_look_0 rfl rfl) <| z_cons (ok_tsw (lo := 0) dX10_look_1 rfl (Nat.le_of_ble_eq_true rfl) (by decide) (by decide +kernel) (by decide)) <| z_cons (ok_aload_n dX10_look_60 rfl rfl) <| z_cons (ok_getr (k := 0) ⟨by decide, by decide, by decide⟩ (ci := 8) (T := TX10) rfl rfl (Nat.le_of_ble_eq_true rfl) iw_X10 qw_616 gr_11_0 (fun _ _ => by simp) (fun w i => List.mem_of_getElem? (i := 0) rfl) dX10_look_61 rfl rfl) <| z_cons (ok_iconst (by decide) dX10_look_64 rfl rfl) <| z_cons (ok_iald dX10_look_65 rfl rfl) <| z_cons (ok_iret rfl dX10_look_66 rfl) <| z_cons (ok_aload_n dX10_look_67 rfl rfl) <| z_cons (ok_getr (k := 0) ⟨by decide, by decide, by decide⟩ (ci := 8) (T := TX10) rfl rfl (Nat.le_of_ble_eq_true rfl) iw_X10 qw_616 gr_11_0 (fun _ _ => by simp) (fun w i => List.mem_of_getElem? (i := 0) rfl) dX10_look_68 rfl rfl) <| z_cons (ok_iconst (by decide) dX10_look_71 rfl rfl) <| z_cons (ok_iald dX10_look_72 rfl rfl) <| z_cons (ok_iret rfl dX10_look_73 rfl) <| z_cons (ok_aload_n dX10_look_74 rfl rfl) <| z_cons (ok_getr (k := 0) ⟨by decide, by decide, by decide⟩ (ci := 8) (T := TX10) rfl rfl (Nat.le_of_ble_eq_true rfl) iw_X10 qw_616 gr_11_0 (fun _ _ => by simp) (fun w i => List.mem_of_getElem? (i := 0) rfl) dX10_look_75 rfl rfl) <| z_cons (ok_iconst (by decide) dX10_look_78 rfl rfl) <| z_cons (ok_iald dX10_look_79 rfl rfl) <| z_cons (ok_iret rfl dX10_look_80 rfl) <| z_cons (ok_aload_n dX10_look_81 rfl rfl) <| z_cons (ok_getr (k := 0) ⟨by decide, by decide, by decide⟩ (ci := 8) (T := TX10) rfl rfl (Nat.le_of_ble_eq_true rfl) iw_X10 qw_616 gr_11_0 (fun _ _ => by simp) (fun w i => List.mem_of_getElem? (i := 0) rfl) dX10_look_82 rfl rfl) <| z_cons (ok_iconst (by decide) dX10_look_85 rfl rfl) <| z_cons (ok_iald dX10_look_86 rfl rfl) <| z_cons (ok_iret rfl dX10_look_87 rfl) <| z_cons (ok_aload_n dX10_look_88 rfl rfl) <| z_cons (ok_callv ⟨by decide, by decide, by decide⟩ (ci := 8) (C := RX10) (T := TX10) rfl go_11 (k := 253) (n := 0) qw_868 qw_618 ⟨by decide +kernel, by decide +kernel, by decide +kernel⟩ (Nat.le_of_ble_eq_true rfl) qw_869 qw_870 qw_871 dX10_look_89 rfl rfl) <| z_cons (ok_iret rfl dX10_look_92 rfl) <| z_cons (ok_aload_n dX10_look_93 rfl rfl) <| z_cons (ok_iload_n dX10_look_94 rfl rfl) <| z_cons (ok_callv ⟨by decide, by decide, by decide⟩ (ci := 8) (C := RX10) (T := TX10) rfl go_11 (k := 270) (n := 1) qw_886 qw_618 ⟨by decide +kernel, by decide +kernel, by decide +kernel⟩ (Nat.le_of_ble_eq_true rfl) qw_887 qw_888 qw_889 dX10_look_95 rfl rfl) <| z_cons (ok_iret rfl dX10_look_98 rfl) <| z_cons (ok_aload_n dX10_look_99 rfl rfl) <| z_cons (ok_sipush (by decide) dX10_look_100 rfl rfl) <| z_cons (ok_callv ⟨by decide, by decide, by decide⟩ (ci := 8) (C := RX10) (T := TX10) rfl go_11 (k := 271) (n := 1) qw_890 qw_618 ⟨by decide +kernel, by decide +kernel, by decide +kernel⟩ (Nat.le_of_ble_eq_true rfl) qw_891 qw_892 qw_893 dX10_look_103 rfl rfl) <| z_cons (ok_iret rfl dX10_look_106 rfl) <| z_cons (ok_aload_n dX10_look_107 rfl rfl) <| z_cons (ok_sipush (by decide) dX10_look_108 rfl rfl) <| z_cons (ok_callv ⟨by decide, by decide, by decide⟩ (ci := 8) (C := RX10) (T := TX10) rfl go_11 (k := 271) (n := 1) qw_890 qw_618 ⟨by decide +kernel, by decide +kernel, by decide +kernel⟩ (Nat.le_of_ble_eq_true rfl) qw_891 qw_892 qw_893 dX10_look_111 rfl rfl) <| z_cons (ok_iret rfl dX10_look_114 rfl) <| z_cons (ok_aload_n dX10_look_115 rfl rfl) <| z_cons (ok_getr (k := 0) ⟨by decide, by decide, by decide⟩ (ci := 8) (T := TX10) rfl rfl (Nat.le_of_ble_eq_true rfl) iw_X10 qw_616 gr_11_0 (fun _ _ => by simp) (fun w i => List.mem_of_getElem? (i := 0) rfl) dX10_look_116 rfl rfl) <| z_cons (ok_iconst (by decide) dX10_look_119 rfl rfl) <| zl_X10_look_1
theorem dJ6_numberOfTrailingZeros_0f7a4_0 : decode cJ6_numberOfTrailingZeros_0f7a4 0 = .ok (.iload_n 0, 1) := by decide +kernel
theorem dJ6_numberOfTrailingZeros_0f7a4_1 : decode cJ6_numberOfTrailingZeros_0f7a4 1 = .ok (.iconst (-1), 1) := by decide +kernel
theorem dJ6_numberOfTrailingZeros_0f7a4_2 : decode cJ6_numberOfTrailingZeros_0f7a4 2 = .ok (.ixor, 1) := by decide +kernel
theorem dJ6_numberOfTrailingZeros_0f7a4_3 : decode cJ6_numberOfTrailingZeros_0f7a4 3 = .ok (.iload_n 0, 1) := by decide +kernel
theorem dJ6_numberOfTrailingZeros_0f7a4_4 : decode cJ6_numberOfTrailingZeros_0f7a4 4 = .ok (.iconst 1, 1) := by decide +kernel
theorem dJ6_numberOfTrailingZeros_0f7a4_5 : decode cJ6_numberOfTrailingZeros_0f7a4 5 = .ok (.isub, 1) := by decide +kernel
theorem dJ6_numberOfTrailingZeros_0f7a4_6 : decode cJ6_numberOfTrailingZeros_0f7a4 6 = .ok (.iand, 1) := by decide +kernel
theorem dJ6_numberOfTrailingZeros_0f7a4_7 : decode cJ6_numberOfTrailingZeros_0f7a4 7 = .ok (.istore_n 0, 1) := by decide +kernel
theorem dJ6_numberOfTrailingZeros_0f7a4_8 : decode cJ6_numberOfTrailingZeros_0f7a4 8 = .ok (.iload_n 0, 1) := by decide +kernel
theorem dJ6_numberOfTrailingZeros_0f7a4_9 : decode cJ6_numberOfTrailingZeros_0f7a4 9 = .ok (.ifCond .gt 8, 3) := by decide +kernel
theorem dJ6_numberOfTrailingZeros_0f7a4_12 : decode cJ6_numberOfTrailingZeros_0f7a4 12 = .ok (.iload_n 0, 1) := by decide +kernel
theorem dJ6_numberOfTrailingZeros_0f7a4_13 : decode cJ6_numberOfTrailingZeros_0f7a4 13 = .ok (.bipush 32, 2) := by decide +kernel
theorem dJ6_numberOfTrailingZeros_0f7a4_15 : decode cJ6_numberOfTrailingZeros_0f7a4 15 = .ok (.iand, 1) := by decide +kernel
theorem dJ6_numberOfTrailingZeros_0f7a4_16 : decode cJ6_numberOfTrailingZeros_0f7a4 16 = .ok (.ireturn, 1) := by decide +kernel
theorem dJ6_numberOfTrailingZeros_0f7a4_17 : decode cJ6_numberOfTrailingZeros_0f7a4 17 = .ok (.iconst 1, 1) := by decide +kernel
theorem dJ6_numberOfTrailingZeros_0f7a4_18 : decode cJ6_numberOfTrailingZeros_0f7a4 18 = .ok (.istore_n 1, 1) := by decide +kernel
theorem dJ6_numberOfTrailingZeros_0f7a4_19 : decode cJ6_numberOfTrailingZeros_0f7a4 19 = .ok (.iload_n 0, 1) := by decide +kernel
theorem dJ6_numberOfTrailingZeros_0f7a4_20 : decode cJ6_numberOfTrailingZeros_0f7a4 20 = .ok (.ldc_w 264, 3) := by decide +kernel
theorem dJ6_numberOfTrailingZeros_0f7a4_23 : decode cJ6_numberOfTrailingZeros_0f7a4 23 = .ok (.if_icmp .le 11, 3) := by decide +kernel
theorem dJ6_numberOfTrailingZeros_0f7a4_26 : decode cJ6_numberOfTrailingZeros_0f7a4 26 = .ok (.iinc 1 16, 3) := by decide +kernel
theorem dJ6_numberOfTrailingZeros_0f7a4_29 : decode cJ6_numberOfTrailingZeros_0f7a4 29 = .ok (.iload_n 0, 1) := by decide +kernel
theorem dJ6_numberOfTrailingZeros_0f7a4_30 : decode cJ6_numberOfTrailingZeros_0f7a4 30 = .ok (.bipush 16, 2) := by decide +kernel
theorem dJ6_numberOfTrailingZeros_0f7a4_32 : decode cJ6_numberOfTrailingZeros_0f7a4 32 = .ok (.iushr, 1) := by decide +kernel
theorem dJ6_numberOfTrailingZeros_0f7a4_33 : decode cJ6_numberOfTrailingZeros_0f7a4 33 = .ok (.istore_n 0, 1) := by decide +kernel
theorem dJ6_numberOfTrailingZeros_0f7a4_34 : decode cJ6_numberOfTrailingZeros_0f7a4 34 = .ok (.iload_n 0, 1) := by decide +kernel
theorem dJ6_numberOfTrailingZeros_0f7a4_35 : decode cJ6_numberOfTrailingZeros_0f7a4 35 = .ok (.sipush 256, 3) := by decide +kernel
theorem dJ6_numberOfTrailingZeros_0f7a4_38 : decode cJ6_numberOfTrailingZeros_0f7a4 38 = .ok (.if_icmp .le 11, 3) := by decide +kernel
theorem dJ6_numberOfTrailingZeros_0f7a4_41 : decode cJ6_numberOfTrailingZeros_0f7a4 41 = .ok (.iinc 1 8, 3) := by decide +kernel
theorem dJ6_numberOfTrailingZeros_0f7a4_44 : decode cJ6_numberOfTrailingZeros_0f7a4 44 = .ok (.iload_n 0, 1) := by decide +kernel
theorem dJ6_numberOfTrailingZeros_0f7a4_45 : decode cJ6_numberOfTrailingZeros_0f7a4 45 = .ok (.bipush 8, 2) := by decide +kernel
theorem dJ6_numberOfTrailingZeros_0f7a4_47 : decode cJ6_numberOfTrailingZeros_0f7a4 47 = .ok (.iushr, 1) := by decide +kernel
theorem dJ6_numberOfTrailingZeros_0f7a4_48 : decode cJ6_numberOfTrailingZeros_0f7a4 48 = .ok (.istore_n 0, 1) := by decide +kernel
theorem dJ6_numberOfTrailingZeros_0f7a4_49 : decode cJ6_numberOfTrailingZeros_0f7a4 49 = .ok (.iload_n 0, 1) := by decide +kernel
theorem dJ6_numberOfTrailingZeros_0f7a4_50 : decode cJ6_numberOfTrailingZeros_0f7a4 50 = .ok (.bipush 16, 2) := by decide +kernel
theorem dJ6_numberOfTrailingZeros_0f7a4_52 : decode cJ6_numberOfTrailingZeros_0f7a4 52 = .ok (.if_icmp .le 10, 3) := by decide +kernel
theorem dJ6_numberOfTrailingZeros_0f7a4_55 : decode cJ6_numberOfTrailingZeros_0f7a4 55 = .ok (.iinc 1 4, 3) := by decide +kernel
theorem dJ6_numberOfTrailingZeros_0f7a4_58 : decode cJ6_numberOfTrailingZeros_0f7a4 58 = .ok (.iload_n 0, 1) := by decide +kernel
theorem dJ6_numberOfTrailingZeros_0f7a4_59 : decode cJ6_numberOfTrailingZeros_0f7a4 59 = .ok (.iconst 4, 1) := by decide +kernel
theorem dJ6_numberOfTrailingZeros_0f7a4_60 : decode cJ6_numberOfTrailingZeros_0f7a4 60 = .ok (.iushr, 1) := by decide +kernel
theorem dJ6_numberOfTrailingZeros_0f7a4_61 : decode cJ6_numberOfTrailingZeros_0f7a4 61 = .ok (.istore_n 0, 1) := by decide +kernel
theorem dJ6_numberOfTrailingZeros_0f7a4_62 : decode cJ6_numberOfTrailingZeros_0f7a4 62 = .ok (.iload_n 0, 1) := by decide +kernel
theorem dJ6_numberOfTrailingZeros_0f7a4_63 : decode cJ6_numberOfTrailingZeros_0f7a4 63 = .ok (.iconst 4, 1) := by decide +kernel
theorem dJ6_numberOfTrailingZeros_0f7a4_64 : decode cJ6_numberOfTrailingZeros_0f7a4 64 = .ok (.if_icmp .le 10, 3) := by decide +kernel
theorem dJ6_numberOfTrailingZeros_0f7a4_67 : decode cJ6_numberOfTrailingZeros_0f7a4 67 = .ok (.iinc 1 2, 3) := by decide +kernel
theorem dJ6_numberOfTrailingZeros_0f7a4_70 : decode cJ6_numberOfTrailingZeros_0f7a4 70 = .ok (.iload_n 0, 1) := by decide +kernel
theorem dJ6_numberOfTrailingZeros_0f7a4_71 : decode cJ6_numberOfTrailingZeros_0f7a4 71 = .ok (.iconst 2, 1) := by decide +kernel
theorem dJ6_numberOfTrailingZeros_0f7a4_72 : decode cJ6_numberOfTrailingZeros_0f7a4 72 = .ok (.iushr, 1) := by decide +kernel
theorem dJ6_numberOfTrailingZeros_0f7a4_73 : decode cJ6_numberOfTrailingZeros_0f7a4 73 = .ok (.istore_n 0, 1) := by decide +kernel
theorem dJ6_numberOfTrailingZeros_0f7a4_74 : decode cJ6_numberOfTrailingZeros_0f7a4 74 = .ok (.iload_n 1, 1) := by decide +kernel
theorem dJ6_numberOfTrailingZeros_0f7a4_75 : decode cJ6_numberOfTrailingZeros_0f7a4 75 = .ok (.iload_n 0, 1) := by decide +kernel
theorem dJ6_numberOfTrailingZeros_0f7a4_76 : decode cJ6_numberOfTrailingZeros_0f7a4 76 = .ok (.iconst 1, 1) := by decide +kernel
theorem dJ6_numberOfTrailingZeros_0f7a4_77 : decode cJ6_numberOfTrailingZeros_0f7a4 77 = .ok (.iushr, 1) := by decide +kernel
theorem dJ6_numberOfTrailingZeros_0f7a4_78 : decode cJ6_numberOfTrailingZeros_0f7a4 78 = .ok (.iadd, 1) := by decide +kernel
theorem dJ6_numberOfTrailingZeros_0f7a4_79 : decode cJ6_numberOfTrailingZeros_0f7a4 79 = .ok (.ireturn, 1) := by decide +kernel
set_option maxRecDepth 20000 in
theorem zl_J6_numberOfTrailingZeros_0f7a4_1 : z_All z_tab cJ6_numberOfTrailingZeros_0f7a4 2 (some .int) RJ6 pc_J6_numberOfTrailingZeros_0f7a4 40 (k_J6_numberOfTrailingZeros_0f7a4.drop 40) := z_cons (ok_iload_n dJ6_numberOfTrailingZeros_0f7a4_62 rfl rfl) <| z_cons (ok_iconst (by decide) dJ6_numberOfTrailingZeros_0f7a4_63 rfl rfl) <| z_cons (ok_icmp_le (tgt := 74) (by decide) rfl dJ6_numberOfTrailingZeros_0f7a4_64 rfl rfl) <| z_cons (ok_iinc (by decide) (Nat.le_of_ble_eq_true rfl) dJ6_numberOfTrailingZeros_0f7a4_67 rfl rfl) <| z_cons (ok_iload_n dJ6_numberOfTrailingZeros_0f7a4_70 rfl rfl) <| z_cons (ok_iconst (by decide) dJ6_numberOfTrailingZeros_0f7a4_71 rfl rfl) <| z_cons (ok_iushr dJ6_numberOfTrailingZeros_0f7a4_72 rfl rfl) <| z_cons (ok_istore_n (Nat.le_of_ble_eq_true rfl) dJ6_numberOfTrailingZeros_0f7a4_73 rfl rfl) <| z_cons (ok_iload_n dJ6_numberOfTrailingZeros_0f7a4_74 rfl rfl) <| z_cons (ok_iload_n dJ6_numberOfTrailingZeros_0f7a4_75 rfl rfl) <| z_cons (ok_iconst (by decide) dJ6_numberOfTrailingZeros_0f7a4_76 rfl rfl) <| z_cons (ok_iushr dJ6_numberOfTrailingZeros_0f7a4_77 rfl rfl) <| z_cons (ok_iadd dJ6_numberOfTrailingZeros_0f7a4_78 rfl rfl) <| z_cons (ok_iret rfl dJ6_numberOfTrailingZeros_0f7a4_79 rfl) <| z_nil
set_option maxRecDepth 20000 in
theorem zl_J6_numberOfTrailingZeros_0f7a4_0 : z_All z_tab cJ6_numberOfTrailingZeros_0f7a4 2 (some .int) RJ6 pc_J6_numberOfTrailingZeros_0f7a4 0 (k_J6_numberOfTrailingZeros_0f7a4.drop 0) := z_cons (ok_iload_n dJ6_numberOfTrailingZeros_0f7a4_0 rfl rfl) <| z_cons (ok_iconst (by decide) dJ6_numberOfTrailingZeros_0f7a4_1 rfl rfl) <| z_cons (ok_ixor dJ6_numberOfTrailingZeros_0f7a4_2 rfl rfl) <| z_cons (ok_iload_n dJ6_numberOfTrailingZeros_0f7a4_3 rfl rfl) <| z_cons (ok_iconst (by decide) dJ6_numberOfTrailingZeros_0f7a4_4 rfl rfl) <| z_cons (ok_isub dJ6_numberOfTrailingZeros_0f7a4_5 rfl rfl) <| z_cons (ok_iand dJ6_numberOfTrailingZeros_0f7a4_6 rfl rfl) <| z_cons (ok_istore_n (Nat.le_of_ble_eq_true rfl) dJ6_numberOfTrailingZeros_0f7a4_7 rfl rfl) <| z_cons (ok_iload_n dJ6_numberOfTrailingZeros_0f7a4_8 rfl rfl) <| z_cons (ok_if_gt (tgt := 17) (by decide) rfl dJ6_numberOfTrailingZeros_0f7a4_9 rfl rfl) <| z_cons (ok_iload_n dJ6_numberOfTrailingZeros_0f7a4_12 rfl rfl) <| z_cons (ok_bipush (by decide) dJ6_numberOfTrailingZeros_0f7a4_13 rfl rfl) <| z_cons (ok_iand dJ6_numberOfTrailingZeros_0f7a4_15 rfl rfl) <| z_cons (ok_iret rfl dJ6_numberOfTrailingZeros_0f7a4_16 rfl) <| z_cons (ok_iconst (by decide) dJ6_numberOfTrailingZeros_0f7a4_17 rfl rfl) <| z_cons (ok_istore_n (Nat.le_of_ble_eq_true rfl) dJ6_numberOfTrailingZeros_0f7a4_18 rfl rfl) <| z_cons (ok_iload_n dJ6_numberOfTrailingZeros_0f7a4_19 rfl rfl) <| z_cons (ok_ldcw qw_895 dJ6_numberOfTrailingZeros_0f7a4_20 rfl rfl) <| z_cons (ok_icmp_le (tgt := 34) (by decide) rfl dJ6_numberOfTrailingZeros_0f7a4_23 rfl rfl) <| z_cons (ok_iinc (by decide) (Nat.le_of_ble_eq_true rfl) dJ6_numberOfTrailingZeros_0f7a4_26 rfl rfl) <| z_cons (ok_iload_n dJ6_numberOfTrailingZeros_0f7a4_29 rfl rfl) <| z_cons (ok_bipush (by decide) dJ6_numberOfTrailingZeros_0f7a4_30 rfl rfl) <| z_cons (ok_iushr dJ6_numberOfTrailingZeros_0f7a4_32 rfl rfl) <| z_cons (ok_istore_n (Nat.le_of_ble_eq_true rfl) dJ6_numberOfTrailingZeros_0f7a4_33 rfl rfl) <| z_cons (ok_iload_n dJ6_numberOfTrailingZeros_0f7a4_34 rfl rfl) <| z_cons (ok_sipush (by decide) dJ6_numberOfTrailingZeros_0f7a4_35 rfl rfl) <| z_cons (ok_icmp_le (tgt := 49) (by decide) rfl dJ6_numberOfTrailingZeros_0f7a4_38 rfl rfl) <| z_cons (ok_iinc (by decide) (Nat.le_of_ble_eq_true rfl) dJ6_numberOfTrailingZeros_0f7a4_41 rfl rfl) <| z_cons (ok_iload_n dJ6_numberOfTrailingZeros_0f7a4_44 rfl rfl) <| z_cons (ok_bipush (by decide) dJ6_numberOfTrailingZeros_0f7a4_45 rfl rfl) <| z_cons (ok_iushr dJ6_numberOfTrailingZeros_0f7a4_47 rfl rfl) <| z_cons (ok_istore_n (Nat.le_of_ble_eq_true rfl) dJ6_numberOfTrailingZeros_0f7a4_48 rfl rfl) <| z_cons (ok_iload_n dJ6_numberOfTrailingZeros_0f7a4_49 rfl rfl) <| z_cons (ok_bipush (by decide) dJ6_numberOfTrailingZeros_0f7a4_50 rfl rfl) <| z_cons (ok_icmp_le (tgt := 62) (by decide) rfl dJ6_numberOfTrailingZeros_0f7a4_52 rfl rfl) <| z_cons (ok_iinc (by decide) (Nat.le_of_ble_eq_true rfl) dJ6_numberOfTrailingZeros_0f7a4_55 rfl rfl) <| z_cons (ok_iload_n dJ6_numberOfTrailingZeros_0f7a4_58 rfl rfl) <| z_cons (ok_iconst (by decide) dJ6_numberOfTrailingZeros_0f7a4_59 rfl rfl) <| z_cons (ok_iushr dJ6_numberOfTrailingZeros_0f7a4_60 rfl rfl) <| z_cons (ok_istore_n (Nat.le_of_ble_eq_true rfl) dJ6_numberOfTrailingZeros_0f7a4_61 rfl rfl) <| zl_J6_numberOfTrailingZeros_0f7a4_1
theorem dJ6_bitCount_0f7a4_0 : decode cJ6_bitCount_0f7a4 0 = .ok (.iload_n 0, 1) := by decide +kernel
theorem dJ6_bitCount_0f7a4_1 : decode cJ6_bitCount_0f7a4 1 = .ok (.iload_n 0, 1) := by decide +kernel
theorem dJ6_bitCount_0f7a4_2 : decode cJ6_bitCount_0f7a4 2 = .ok (.iconst 1, 1) := by decide +kernel
theorem dJ6_bitCount_0f7a4_3 : decode cJ6_bitCount_0f7a4 3 = .ok (.iushr, 1) := by decide +kernel
theorem dJ6_bitCount_0f7a4_4 : decode cJ6_bitCount_0f7a4 4 = .ok (.ldc_w 265, 3) := by decide +kernel
theorem dJ6_bitCount_0f7a4_7 : decode cJ6_bitCount_0f7a4 7 = .ok (.iand, 1) := by decide +kernel
theorem dJ6_bitCount_0f7a4_8 : decode cJ6_bitCount_0f7a4 8 = .ok (.isub, 1) := by decide +kernel
theorem dJ6_bitCount_0f7a4_9 : decode cJ6_bitCount_0f7a4 9 = .ok (.istore_n 0, 1) := by decide +kernel
theorem dJ6_bitCount_0f7a4_10 : decode cJ6_bitCount_0f7a4 10 = .ok (.iload_n 0, 1) := by decide +kernel
theorem dJ6_bitCount_0f7a4_11 : decode cJ6_bitCount_0f7a4 11 = .ok (.ldc_w 266, 3) := by decide +kernel
theorem dJ6_bitCount_0f7a4_14 : decode cJ6_bitCount_0f7a4 14 = .ok (.iand, 1) := by decide +kernel
theorem dJ6_bitCount_0f7a4_15 : decode cJ6_bitCount_0f7a4 15 = .ok (.iload_n 0, 1) := by decide +kernel
theorem dJ6_bitCount_0f7a4_16 : decode cJ6_bitCount_0f7a4 16 = .ok (.iconst 2, 1) := by decide +kernel
theorem dJ6_bitCount_0f7a4_17 : decode cJ6_bitCount_0f7a4 17 = .ok (.iushr, 1) := by decide +kernel
theorem dJ6_bitCount_0f7a4_18 : decode cJ6_bitCount_0f7a4 18 = .ok (.ldc_w 266, 3) := by decide +kernel
theorem dJ6_bitCount_0f7a4_21 : decode cJ6_bitCount_0f7a4 21 = .ok (.iand, 1) := by decide +kernel
theorem dJ6_bitCount_0f7a4_22 : decode cJ6_bitCount_0f7a4 22 = .ok (.iadd, 1) := by decide +kernel
theorem dJ6_bitCount_0f7a4_23 : decode cJ6_bitCount_0f7a4 23 = .ok (.istore_n 0, 1) := by decide +kernel
theorem dJ6_bitCount_0f7a4_24 : decode cJ6_bitCount_0f7a4 24 = .ok (.iload_n 0, 1) := by decide +kernel
theorem dJ6_bitCount_0f7a4_25 : decode cJ6_bitCount_0f7a4 25 = .ok (.iload_n 0, 1) := by decide +kernel
theorem dJ6_bitCount_0f7a4_26 : decode cJ6_bitCount_0f7a4 26 = .ok (.iconst 4, 1) := by decide +kernel
theorem dJ6_bitCount_0f7a4_27 : decode cJ6_bitCount_0f7a4 27 = .ok (.iushr, 1) := by decide +kernel
theorem dJ6_bitCount_0f7a4_28 : decode cJ6_bitCount_0f7a4 28 = .ok (.iadd, 1) := by decide +kernel
theorem dJ6_bitCount_0f7a4_29 : decode cJ6_bitCount_0f7a4 29 = .ok (.ldc_w 267, 3) := by decide +kernel
theorem dJ6_bitCount_0f7a4_32 : decode cJ6_bitCount_0f7a4 32 = .ok (.iand, 1) := by decide +kernel
theorem dJ6_bitCount_0f7a4_33 : decode cJ6_bitCount_0f7a4 33 = .ok (.istore_n 0, 1) := by decide +kernel
theorem dJ6_bitCount_0f7a4_34 : decode cJ6_bitCount_0f7a4 34 = .ok (.iload_n 0, 1) := by decide +kernel
theorem dJ6_bitCount_0f7a4_35 : decode cJ6_bitCount_0f7a4 35 = .ok (.iload_n 0, 1) := by decide +kernel
theorem dJ6_bitCount_0f7a4_36 : decode cJ6_bitCount_0f7a4 36 = .ok (.bipush 8, 2) := by decide +kernel
theorem dJ6_bitCount_0f7a4_38 : decode cJ6_bitCount_0f7a4 38 = .ok (.iushr, 1) := by decide +kernel
theorem dJ6_bitCount_0f7a4_39 : decode cJ6_bitCount_0f7a4 39 = .ok (.iadd, 1) := by decide +kernel
theorem dJ6_bitCount_0f7a4_40 : decode cJ6_bitCount_0f7a4 40 = .ok (.istore_n 0, 1) := by decide +kernel
theorem dJ6_bitCount_0f7a4_41 : decode cJ6_bitCount_0f7a4 41 = .ok (.iload_n 0, 1) := by decide +kernel
theorem dJ6_bitCount_0f7a4_42 : decode cJ6_bitCount_0f7a4 42 = .ok (.iload_n 0, 1) := by decide +kernel
theorem dJ6_bitCount_0f7a4_43 : decode cJ6_bitCount_0f7a4 43 = .ok (.bipush 16, 2) := by decide +kernel
theorem dJ6_bitCount_0f7a4_45 : decode cJ6_bitCount_0f7a4 45 = .ok (.iushr, 1) := by decide +kernel
theorem dJ6_bitCount_0f7a4_46 : decode cJ6_bitCount_0f7a4 46 = .ok (.iadd, 1) := by decide +kernel
theorem dJ6_bitCount_0f7a4_47 : decode cJ6_bitCount_0f7a4 47 = .ok (.istore_n 0, 1) := by decide +kernel
theorem dJ6_bitCount_0f7a4_48 : decode cJ6_bitCount_0f7a4 48 = .ok (.iload_n 0, 1) := by decide +kernel
theorem dJ6_bitCount_0f7a4_49 : decode cJ6_bitCount_0f7a4 49 = .ok (.bipush 63, 2) := by decide +kernel
theorem dJ6_bitCount_0f7a4_51 : decode cJ6_bitCount_0f7a4 51 = .ok (.iand, 1) := by decide +kernel
theorem dJ6_bitCount_0f7a4_52 : decode cJ6_bitCount_0f7a4 52 = .ok (.ireturn, 1) := by decide +kernel
set_option maxRecDepth 20000 in
theorem zl_J6_bitCount_0f7a4_1 : z_All z_tab cJ6_bitCount_0f7a4 1 (some .int) RJ6 pc_J6_bitCount_0f7a4 40 (k_J6_bitCount_0f7a4.drop 40) := z_cons (ok_iand dJ6_bitCount_0f7a4_51 rfl rfl) <| z_cons (ok_iret rfl dJ6_bitCount_0f7a4_52 rfl) <| z_nil
set_option maxRecDepth 20000 in
theorem zl_J6_bitCount_0f7a4_0 : z_All z_tab cJ6_bitCount_0f7a4 1 (some .int) RJ6 pc_J6_bitCount_0f7a4 0 (k_J6_bitCount_0f7a4.drop 0) := z_cons (ok_iload_n dJ6_bitCount_0f7a4_0 rfl rfl) <| z_cons (ok_iload_n dJ6_bitCount_0f7a4_1 rfl rfl) <| z_cons (ok_iconst (by decide) dJ6_bitCount_0f7a4_2 rfl rfl) <| z_cons (ok_iushr dJ6_bitCount_0f7a4_3 rfl rfl) <| z_cons (ok_ldcw qw_896 dJ6_bitCount_0f7a4_4 rfl rfl) <| z_cons (ok_iand dJ6_bitCount_0f7a4_7 rfl rfl) <| z_cons (ok_isub dJ6_bitCount_0f7a4_8 rfl rfl) <| z_cons (ok_istore_n (Nat.le_of_ble_eq_true rfl) dJ6_bitCount_0f7a4_9 rfl rfl) <| z_cons (ok_iload_n dJ6_bitCount_0f7a4_10 rfl rfl) <| z_cons (ok_ldcw qw_897 dJ6_bitCount_0f7a4_11 rfl rfl) <| z_cons (ok_iand dJ6_bitCount_0f7a4_14 rfl rfl) <| z_cons (ok_iload_n dJ6_bitCount_0f7a4_15 rfl rfl) <| z_cons (ok_iconst (by decide) dJ6_bitCount_0f7a4_16 rfl rfl) <| z_cons (ok_iushr dJ6_bitCount_0f7a4_17 rfl rfl) <| z_cons (ok_ldcw qw_897 dJ6_bitCount_0f7a4_18 rfl rfl) <| z_cons (ok_iand dJ6_bitCount_0f7a4_21 rfl rfl) <| z_cons (ok_iadd dJ6_bitCount_0f7a4_22 rfl rfl) <| z_cons (ok_istore_n (Nat.le_of_ble_eq_true rfl) dJ6_bitCount_0f7a4_23 rfl rfl) <| z_cons (ok_iload_n dJ6_bitCount_0f7a4_24 rfl rfl) <| z_cons (ok_iload_n dJ6_bitCount_0f7a4_25 rfl rfl) <| z_cons (ok_iconst (by decide) dJ6_bitCount_0f7a4_26 rfl rfl) <| z_cons (ok_iushr dJ6_bitCount_0f7a4_27 rfl rfl) <| z_cons (ok_iadd dJ6_bitCount_0f7a4_28 rfl rfl) <| z_cons (ok_ldcw qw_898 dJ6_bitCount_0f7a4_29 rfl rfl) <| z_cons (ok_iand dJ6_bitCount_0f7a4_32 rfl rfl) <| z_cons (ok_istore_n (Nat.le_of_ble_eq_true rfl) dJ6_bitCount_0f7a4_33 rfl rfl) <| z_cons (ok_iload_n dJ6_bitCount_0f7a4_34 rfl rfl) <| z_cons (ok_iload_n dJ6_bitCount_0f7a4_35 rfl rfl) <| z_cons (ok_bipush (by decide) dJ6_bitCount_0f7a4_36 rfl rfl) <| z_cons (ok_iushr dJ6_bitCount_0f7a4_38 rfl rfl) <| z_cons (ok_iadd dJ6_bitCount_0f7a4_39 rfl rfl) <| z_cons (ok_istore_n (Nat.le_of_ble_eq_true rfl) dJ6_bitCount_0f7a4_40 rfl rfl) <| z_cons (ok_iload_n dJ6_bitCount_0f7a4_41 rfl rfl) <| z_cons (ok_iload_n dJ6_bitCount_0f7a4_42 rfl rfl) <| z_cons (ok_bipush (by decide) dJ6_bitCount_0f7a4_43 rfl rfl) <| z_cons (ok_iushr dJ6_bitCount_0f7a4_45 rfl rfl) <| z_cons (ok_iadd dJ6_bitCount_0f7a4_46 rfl rfl) <| z_cons (ok_istore_n (Nat.le_of_ble_eq_true rfl) dJ6_bitCount_0f7a4_47 rfl rfl) <| z_cons (ok_iload_n dJ6_bitCount_0f7a4_48 rfl rfl) <| z_cons (ok_bipush (by decide) dJ6_bitCount_0f7a4_49 rfl rfl) <| zl_J6_bitCount_0f7a4_1
theorem dJ9_floorMod_7cf53_0 : decode cJ9_floorMod_7cf53 0 = .ok (.iload_n 0, 1) := by decide +kernel
theorem dJ9_floorMod_7cf53_1 : decode cJ9_floorMod_7cf53 1 = .ok (.iload_n 1, 1) := by decide +kernel
theorem dJ9_floorMod_7cf53_2 : decode cJ9_floorMod_7cf53 2 = .ok (.irem, 1) := by decide +kernel
theorem dJ9_floorMod_7cf53_3 : decode cJ9_floorMod_7cf53 3 = .ok (.istore_n 2, 1) := by decide +kernel
theorem dJ9_floorMod_7cf53_4 : decode cJ9_floorMod_7cf53 4 = .ok (.iload_n 0, 1) := by decide +kernel
theorem dJ9_floorMod_7cf53_5 : decode cJ9_floorMod_7cf53 5 = .ok (.iload_n 1, 1) := by decide +kernel
theorem dJ9_floorMod_7cf53_6 : decode cJ9_floorMod_7cf53 6 = .ok (.ixor, 1) := by decide +kernel
theorem dJ9_floorMod_7cf53_7 : decode cJ9_floorMod_7cf53 7 = .ok (.ifCond .ge 11, 3) := by decide +kernel
theorem dJ9_floorMod_7cf53_10 : decode cJ9_floorMod_7cf53 10 = .ok (.iload_n 2, 1) := by decide +kernel
theorem dJ9_floorMod_7cf53_11 : decode cJ9_floorMod_7cf53 11 = .ok (.ifCond .eq 7, 3) := by decide +kernel
theorem dJ9_floorMod_7cf53_14 : decode cJ9_floorMod_7cf53 14 = .ok (.iload_n 2, 1) := by decide +kernel
theorem dJ9_floorMod_7cf53_15 : decode cJ9_floorMod_7cf53 15 = .ok (.iload_n 1, 1) := by decide +kernel
theorem dJ9_floorMod_7cf53_16 : decode cJ9_floorMod_7cf53 16 = .ok (.iadd, 1) := by decide +kernel
theorem dJ9_floorMod_7cf53_17 : decode cJ9_floorMod_7cf53 17 = .ok (.ireturn, 1) := by decide +kernel
theorem dJ9_floorMod_7cf53_18 : decode cJ9_floorMod_7cf53 18 = .ok (.iload_n 2, 1) := by decide +kernel
theorem dJ9_floorMod_7cf53_19 : decode cJ9_floorMod_7cf53 19 = .ok (.ireturn, 1) := by decide +kernel
set_option maxRecDepth 20000 in
theorem zl_J9_floorMod_7cf53_0 : z_All z_tab cJ9_floorMod_7cf53 3 (some .int) RJ9 pc_J9_floorMod_7cf53 0 (k_J9_floorMod_7cf53.drop 0) := z_cons (ok_iload_n dJ9_floorMod_7cf53_0 rfl rfl) <| z_cons (ok_iload_n dJ9_floorMod_7cf53_1 rfl rfl) <| z_cons (ok_irem dJ9_floorMod_7cf53_2 rfl rfl) <| z_cons (ok_istore_n (Nat.le_of_ble_eq_true rfl) dJ9_floorMod_7cf53_3 rfl rfl) <| z_cons (ok_iload_n dJ9_floorMod_7cf53_4 rfl rfl) <| z_cons (ok_iload_n dJ9_floorMod_7cf53_5 rfl rfl) <| z_cons (ok_ixor dJ9_floorMod_7cf53_6 rfl rfl) <| z_cons (ok_if_ge (tgt := 18) (by decide) rfl dJ9_floorMod_7cf53_7 rfl rfl) <| z_cons (ok_iload_n dJ9_floorMod_7cf53_10 rfl rfl) <| z_cons (ok_if_eq (tgt := 18) (by decide) rfl dJ9_floorMod_7cf53_11 rfl rfl) <| z_cons (ok_iload_n dJ9_floorMod_7cf53_14 rfl rfl) <| z_cons (ok_iload_n dJ9_floorMod_7cf53_15 rfl rfl) <| z_cons (ok_iadd dJ9_floorMod_7cf53_16 rfl rfl) <| z_cons (ok_iret rfl dJ9_floorMod_7cf53_17 rfl) <| z_cons (ok_iload_n dJ9_floorMod_7cf53_18 rfl rfl) <| z_cons (ok_iret rfl dJ9_floorMod_7cf53_19 rfl) <| z_nil
theorem dX0_mostHopeful_0 : decode cX0_mostHopeful 0 = .ok (.iconst 0, 1) := by decide +kernel
theorem dX0_mostHopeful_1 : decode cX0_mostHopeful 1 = .ok (.istore_n 1, 1) := by decide +kernel
theorem dX0_mostHopeful_2 : decode cX0_mostHopeful 2 = .ok (.iconst 1, 1) := by decide +kernel
theorem dX0_mostHopeful_3 : decode cX0_mostHopeful 3 = .ok (.istore_n 2, 1) := by decide +kernel
theorem dX0_mostHopeful_4 : decode cX0_mostHopeful 4 = .ok (.iload_n 2, 1) := by decide +kernel
theorem dX0_mostHopeful_5 : decode cX0_mostHopeful 5 = .ok (.iconst 4, 1) := by decide +kernel
theorem dX0_mostHopeful_6 : decode cX0_mostHopeful 6 = .ok (.if_icmp .gt 25, 3) := by decide +kernel
theorem dX0_mostHopeful_9 : decode cX0_mostHopeful 9 = .ok (.iload_n 0, 1) := by decide +kernel
theorem dX0_mostHopeful_10 : decode cX0_mostHopeful 10 = .ok (.iload_n 2, 1) := by decide +kernel
theorem dX0_mostHopeful_11 : decode cX0_mostHopeful 11 = .ok (.invokestatic 58, 3) := by decide +kernel
theorem dX0_mostHopeful_14 : decode cX0_mostHopeful 14 = .ok (.iload_n 0, 1) := by decide +kernel
theorem dX0_mostHopeful_15 : decode cX0_mostHopeful 15 = .ok (.iload_n 1, 1) := by decide +kernel
theorem dX0_mostHopeful_16 : decode cX0_mostHopeful 16 = .ok (.invokestatic 58, 3) := by decide +kernel
theorem dX0_mostHopeful_19 : decode cX0_mostHopeful 19 = .ok (.lcmp, 1) := by decide +kernel
theorem dX0_mostHopeful_20 : decode cX0_mostHopeful 20 = .ok (.ifCond .le 5, 3) := by decide +kernel
theorem dX0_mostHopeful_23 : decode cX0_mostHopeful 23 = .ok (.iload_n 2, 1) := by decide +kernel
theorem dX0_mostHopeful_24 : decode cX0_mostHopeful 24 = .ok (.istore_n 1, 1) := by decide +kernel
theorem dX0_mostHopeful_25 : decode cX0_mostHopeful 25 = .ok (.iinc 2 1, 3) := by decide +kernel
theorem dX0_mostHopeful_28 : decode cX0_mostHopeful 28 = .ok (.goto (-24), 3) := by decide +kernel
theorem dX0_mostHopeful_31 : decode cX0_mostHopeful 31 = .ok (.iload_n 1, 1) := by decide +kernel
theorem dX0_mostHopeful_32 : decode cX0_mostHopeful 32 = .ok (.ireturn, 1) := by decide +kernel
set_option maxRecDepth 20000 in
theorem zl_X0_mostHopeful_0 : z_All z_tab cX0_mostHopeful 3 (some .int) RX0 pc_X0_mostHopeful 0 (k_X0_mostHopeful.drop 0) := z_cons (ok_iconst (by decide) dX0_mostHopeful_0 rfl rfl) <| z_cons (ok_istore_n (Nat.le_of_ble_eq_true rfl) dX0_mostHopeful_1 rfl rfl) <| z_cons (ok_iconst (by decide) dX0_mostHopeful_2 rfl rfl) <| z_cons (ok_istore_n (Nat.le_of_ble_eq_true rfl) dX0_mostHopeful_3 rfl rfl) <| z_cons (ok_iload_n dX0_mostHopeful_4 rfl rfl) <| z_cons (ok_iconst (by decide) dX0_mostHopeful_5 rfl rfl) <| z_cons (ok_icmp_gt (tgt := 31) (by decide) rfl dX0_mostHopeful_6 rfl rfl) <| z_cons (ok_iload_n dX0_mostHopeful_9 rfl rfl) <| z_cons (ok_iload_n dX0_mostHopeful_10 rfl rfl) <| z_cons (ok_callS (k := 10) (n := 2) qw_899 qw_1 ⟨by decide +kernel, by decide +kernel, by decide +kernel⟩ (Nat.le_of_ble_eq_true rfl) qw_901 qw_900 dX0_mostHopeful_11 rfl rfl) <| z_cons (ok_iload_n dX0_mostHopeful_14 rfl rfl) <| z_cons (ok_iload_n dX0_mostHopeful_15 rfl rfl) <| z_cons (ok_callS (k := 10) (n := 2) qw_899 qw_1 ⟨by decide +kernel, by decide +kernel, by decide +kernel⟩ (Nat.le_of_ble_eq_true rfl) qw_901 qw_900 dX0_mostHopeful_16 rfl rfl) <| z_cons (ok_lcmp dX0_mostHopeful_19 rfl rfl) <| z_cons (ok_if_le (tgt := 25) (by decide) rfl dX0_mostHopeful_20 rfl rfl) <| z_cons (ok_iload_n dX0_mostHopeful_23 rfl rfl) <| z_cons (ok_istore_n (Nat.le_of_ble_eq_true rfl) dX0_mostHopeful_24 rfl rfl) <| z_cons (ok_iinc (by decide) (Nat.le_of_ble_eq_true rfl) dX0_mostHopeful_25 rfl rfl) <| z_cons (ok_goto (tgt := 4) (by decide) rfl dX0_mostHopeful_28 rfl) <| z_cons (ok_iload_n dX0_mostHopeful_31 rfl rfl) <| z_cons (ok_iret rfl dX0_mostHopeful_32 rfl) <| z_nil
