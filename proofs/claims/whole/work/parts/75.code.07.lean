theorem dX10_isUnclean_0 : decode cX10_isUnclean 0 = .ok (.aload_n 0, 1) := by decide +kernel
theorem dX10_isUnclean_1 : decode cX10_isUnclean 1 = .ok (.getfield 10, 3) := by decide +kernel
theorem dX10_isUnclean_4 : decode cX10_isUnclean 4 = .ok (.sipush 550, 3) := by decide +kernel
theorem dX10_isUnclean_7 : decode cX10_isUnclean 7 = .ok (.iload_n 1, 1) := by decide +kernel
theorem dX10_isUnclean_8 : decode cX10_isUnclean 8 = .ok (.iadd, 1) := by decide +kernel
theorem dX10_isUnclean_9 : decode cX10_isUnclean 9 = .ok (.iaload, 1) := by decide +kernel
theorem dX10_isUnclean_10 : decode cX10_isUnclean 10 = .ok (.iconst (-1), 1) := by decide +kernel
theorem dX10_isUnclean_11 : decode cX10_isUnclean 11 = .ok (.if_icmp .eq 23, 3) := by decide +kernel
theorem dX10_isUnclean_14 : decode cX10_isUnclean 14 = .ok (.aload_n 0, 1) := by decide +kernel
theorem dX10_isUnclean_15 : decode cX10_isUnclean 15 = .ok (.getfield 10, 3) := by decide +kernel
theorem dX10_isUnclean_18 : decode cX10_isUnclean 18 = .ok (.sipush 350, 3) := by decide +kernel
theorem dX10_isUnclean_21 : decode cX10_isUnclean 21 = .ok (.aload_n 0, 1) := by decide +kernel
theorem dX10_isUnclean_22 : decode cX10_isUnclean 22 = .ok (.getfield 10, 3) := by decide +kernel
theorem dX10_isUnclean_25 : decode cX10_isUnclean 25 = .ok (.sipush 550, 3) := by decide +kernel
theorem dX10_isUnclean_28 : decode cX10_isUnclean 28 = .ok (.iload_n 1, 1) := by decide +kernel
theorem dX10_isUnclean_29 : decode cX10_isUnclean 29 = .ok (.iadd, 1) := by decide +kernel
theorem dX10_isUnclean_30 : decode cX10_isUnclean 30 = .ok (.iaload, 1) := by decide +kernel
theorem dX10_isUnclean_31 : decode cX10_isUnclean 31 = .ok (.iadd, 1) := by decide +kernel
theorem dX10_isUnclean_32 : decode cX10_isUnclean 32 = .ok (.iconst 0, 1) := by decide +kernel
theorem dX10_isUnclean_33 : decode cX10_isUnclean 33 = .ok (.iastore, 1) := by decide +kernel
theorem dX10_isUnclean_34 : decode cX10_isUnclean 34 = .ok (.return_, 1) := by decide +kernel
set_option maxRecDepth 20000 in
theorem zl_X10_isUnclean_0 : z_All z_tab cX10_isUnclean 2 none RX10 pc_X10_isUnclean 0 (k_X10_isUnclean.drop 0) := z_cons (ok_aload_n dX10_isUnclean_0 rfl rfl) <| z_cons (ok_getr (k := 0) ⟨by decide, by decide, by decide⟩ (ci := 8) (T := TX10) rfl rfl (Nat.le_of_ble_eq_true rfl) iw_X10 qw_616 gr_11_0 (fun _ _ => by simp) (fun w i => List.mem_of_getElem? (i := 0) rfl) dX10_isUnclean_1 rfl rfl) <| z_cons (ok_sipush (by decide) dX10_isUnclean_4 rfl rfl) <| z_cons (ok_iload_n dX10_isUnclean_7 rfl rfl) <| z_cons (ok_iadd dX10_isUnclean_8 rfl rfl) <| z_cons (ok_iald dX10_isUnclean_9 rfl rfl) <| z_cons (ok_iconst (by decide) dX10_isUnclean_10 rfl rfl) <| z_cons (ok_icmp_eq (tgt := 34) (by decide) rfl dX10_isUnclean_11 rfl rfl) <| z_cons (ok_aload_n dX10_isUnclean_14 rfl rfl) <| z_cons (ok_getr (k := 0) ⟨by decide, by decide, by decide⟩ (ci := 8) (T := TX10) rfl rfl (Nat.le_of_ble_eq_true rfl) iw_X10 qw_616 gr_11_0 (fun _ _ => by simp) (fun w i => List.mem_of_getElem? (i := 0) rfl) dX10_isUnclean_15 rfl rfl) <| z_cons (ok_sipush (by decide) dX10_isUnclean_18 rfl rfl) <| z_cons (ok_aload_n dX10_isUnclean_21 rfl rfl) <| z_cons (ok_getr (k := 0) ⟨by decide, by decide, by decide⟩ (ci := 8) (T := TX10) rfl rfl (Nat.le_of_ble_eq_true rfl) iw_X10 qw_616 gr_11_0 (fun _ _ => by simp) (fun w i => List.mem_of_getElem? (i := 0) rfl) dX10_isUnclean_22 rfl rfl) <| z_cons (ok_sipush (by decide) dX10_isUnclean_25 rfl rfl) <| z_cons (ok_iload_n dX10_isUnclean_28 rfl rfl) <| z_cons (ok_iadd dX10_isUnclean_29 rfl rfl) <| z_cons (ok_iald dX10_isUnclean_30 rfl rfl) <| z_cons (ok_iadd dX10_isUnclean_31 rfl rfl) <| z_cons (ok_iconst (by decide) dX10_isUnclean_32 rfl rfl) <| z_cons (ok_iast dX10_isUnclean_33 rfl rfl) <| z_cons (ok_ret rfl dX10_isUnclean_34 rfl) <| z_nil
theorem dX10_tag_0 : decode cX10_tag 0 = .ok (.iload_n 1, 1) := by decide +kernel
theorem dX10_tag_1 : decode cX10_tag 1 = .ok (.iconst 0, 1) := by decide +kernel
theorem dX10_tag_2 : decode cX10_tag 2 = .ok (.bipush 23, 2) := by decide +kernel
theorem dX10_tag_4 : decode cX10_tag 4 = .ok (.invokestatic 32, 3) := by decide +kernel
theorem dX10_tag_7 : decode cX10_tag 7 = .ok (.ifCond .eq 27, 3) := by decide +kernel
theorem dX10_tag_10 : decode cX10_tag 10 = .ok (.aload_n 0, 1) := by decide +kernel
theorem dX10_tag_11 : decode cX10_tag 11 = .ok (.getfield 10, 3) := by decide +kernel
theorem dX10_tag_14 : decode cX10_tag 14 = .ok (.sipush 454, 3) := by decide +kernel
theorem dX10_tag_17 : decode cX10_tag 17 = .ok (.iload_n 1, 1) := by decide +kernel
theorem dX10_tag_18 : decode cX10_tag 18 = .ok (.iadd, 1) := by decide +kernel
theorem dX10_tag_19 : decode cX10_tag 19 = .ok (.iaload, 1) := by decide +kernel
theorem dX10_tag_20 : decode cX10_tag 20 = .ok (.iconst 1, 1) := by decide +kernel
theorem dX10_tag_21 : decode cX10_tag 21 = .ok (.if_icmp .eq 13, 3) := by decide +kernel
theorem dX10_tag_24 : decode cX10_tag 24 = .ok (.iload_n 3, 1) := by decide +kernel
theorem dX10_tag_25 : decode cX10_tag 25 = .ok (.iconst 0, 1) := by decide +kernel
theorem dX10_tag_26 : decode cX10_tag 26 = .ok (.bipush 15, 2) := by decide +kernel
theorem dX10_tag_28 : decode cX10_tag 28 = .ok (.invokestatic 32, 3) := by decide +kernel
theorem dX10_tag_31 : decode cX10_tag 31 = .ok (.ifCond .ne 5, 3) := by decide +kernel
theorem dX10_tag_34 : decode cX10_tag 34 = .ok (.iconst 0, 1) := by decide +kernel
theorem dX10_tag_35 : decode cX10_tag 35 = .ok (.ireturn, 1) := by decide +kernel
theorem dX10_tag_36 : decode cX10_tag 36 = .ok (.iconst 0, 1) := by decide +kernel
theorem dX10_tag_37 : decode cX10_tag 37 = .ok (.istore 4, 2) := by decide +kernel
theorem dX10_tag_39 : decode cX10_tag 39 = .ok (.iload 4, 2) := by decide +kernel
theorem dX10_tag_41 : decode cX10_tag 41 = .ok (.bipush 24, 2) := by decide +kernel
theorem dX10_tag_43 : decode cX10_tag 43 = .ok (.if_icmp .ge 39, 3) := by decide +kernel
theorem dX10_tag_46 : decode cX10_tag 46 = .ok (.aload_n 0, 1) := by decide +kernel
theorem dX10_tag_47 : decode cX10_tag 47 = .ok (.getfield 10, 3) := by decide +kernel
theorem dX10_tag_50 : decode cX10_tag 50 = .ok (.sipush 454, 3) := by decide +kernel
theorem dX10_tag_53 : decode cX10_tag 53 = .ok (.iload 4, 2) := by decide +kernel
theorem dX10_tag_55 : decode cX10_tag 55 = .ok (.iadd, 1) := by decide +kernel
theorem dX10_tag_56 : decode cX10_tag 56 = .ok (.iaload, 1) := by decide +kernel
theorem dX10_tag_57 : decode cX10_tag 57 = .ok (.iconst 1, 1) := by decide +kernel
theorem dX10_tag_58 : decode cX10_tag 58 = .ok (.if_icmp .ne 18, 3) := by decide +kernel
theorem dX10_tag_61 : decode cX10_tag 61 = .ok (.aload_n 0, 1) := by decide +kernel
theorem dX10_tag_62 : decode cX10_tag 62 = .ok (.iload 4, 2) := by decide +kernel
theorem dX10_tag_64 : decode cX10_tag 64 = .ok (.invokevirtual 67, 3) := by decide +kernel
theorem dX10_tag_67 : decode cX10_tag 67 = .ok (.iload_n 2, 1) := by decide +kernel
theorem dX10_tag_68 : decode cX10_tag 68 = .ok (.bipush 16, 2) := by decide +kernel
theorem dX10_tag_70 : decode cX10_tag 70 = .ok (.iushr, 1) := by decide +kernel
theorem dX10_tag_71 : decode cX10_tag 71 = .ok (.if_icmp .ne 5, 3) := by decide +kernel
theorem dX10_tag_74 : decode cX10_tag 74 = .ok (.iconst 0, 1) := by decide +kernel
theorem dX10_tag_75 : decode cX10_tag 75 = .ok (.ireturn, 1) := by decide +kernel
theorem dX10_tag_76 : decode cX10_tag 76 = .ok (.iinc 4 1, 3) := by decide +kernel
theorem dX10_tag_79 : decode cX10_tag 79 = .ok (.goto (-40), 3) := by decide +kernel
theorem dX10_tag_82 : decode cX10_tag 82 = .ok (.aload_n 0, 1) := by decide +kernel
theorem dX10_tag_83 : decode cX10_tag 83 = .ok (.iload_n 1, 1) := by decide +kernel
theorem dX10_tag_84 : decode cX10_tag 84 = .ok (.invokevirtual 28, 3) := by decide +kernel
theorem dX10_tag_87 : decode cX10_tag 87 = .ok (.aload_n 0, 1) := by decide +kernel
theorem dX10_tag_88 : decode cX10_tag 88 = .ok (.getfield 10, 3) := by decide +kernel
theorem dX10_tag_91 : decode cX10_tag 91 = .ok (.sipush 454, 3) := by decide +kernel
theorem dX10_tag_94 : decode cX10_tag 94 = .ok (.iload_n 1, 1) := by decide +kernel
theorem dX10_tag_95 : decode cX10_tag 95 = .ok (.iadd, 1) := by decide +kernel
theorem dX10_tag_96 : decode cX10_tag 96 = .ok (.iconst 1, 1) := by decide +kernel
theorem dX10_tag_97 : decode cX10_tag 97 = .ok (.iastore, 1) := by decide +kernel
theorem dX10_tag_98 : decode cX10_tag 98 = .ok (.aload_n 0, 1) := by decide +kernel
theorem dX10_tag_99 : decode cX10_tag 99 = .ok (.getfield 10, 3) := by decide +kernel
theorem dX10_tag_102 : decode cX10_tag 102 = .ok (.sipush 478, 3) := by decide +kernel
theorem dX10_tag_105 : decode cX10_tag 105 = .ok (.iload_n 1, 1) := by decide +kernel
theorem dX10_tag_106 : decode cX10_tag 106 = .ok (.iadd, 1) := by decide +kernel
theorem dX10_tag_107 : decode cX10_tag 107 = .ok (.iload_n 2, 1) := by decide +kernel
theorem dX10_tag_108 : decode cX10_tag 108 = .ok (.iastore, 1) := by decide +kernel
theorem dX10_tag_109 : decode cX10_tag 109 = .ok (.aload_n 0, 1) := by decide +kernel
theorem dX10_tag_110 : decode cX10_tag 110 = .ok (.getfield 10, 3) := by decide +kernel
theorem dX10_tag_113 : decode cX10_tag 113 = .ok (.sipush 502, 3) := by decide +kernel
theorem dX10_tag_116 : decode cX10_tag 116 = .ok (.iload_n 1, 1) := by decide +kernel
theorem dX10_tag_117 : decode cX10_tag 117 = .ok (.iadd, 1) := by decide +kernel
theorem dX10_tag_118 : decode cX10_tag 118 = .ok (.iload_n 3, 1) := by decide +kernel
theorem dX10_tag_119 : decode cX10_tag 119 = .ok (.iastore, 1) := by decide +kernel
theorem dX10_tag_120 : decode cX10_tag 120 = .ok (.aload_n 0, 1) := by decide +kernel
theorem dX10_tag_121 : decode cX10_tag 121 = .ok (.invokevirtual 71, 3) := by decide +kernel
theorem dX10_tag_124 : decode cX10_tag 124 = .ok (.iconst 1, 1) := by decide +kernel
theorem dX10_tag_125 : decode cX10_tag 125 = .ok (.ireturn, 1) := by decide +kernel
set_option maxRecDepth 20000 in
theorem zl_X10_tag_1 : z_All z_tab cX10_tag 5 (some .boolean) RX10 pc_X10_tag 40 (k_X10_tag.drop 40) := z_cons (ok_iconst (by decide) dX10_tag_74 rfl rfl) <| z_cons (ok_zret rfl dX10_tag_75 rfl) <| z_cons (ok_iinc (by decide) (Nat.le_of_ble_eq_true rfl) dX10_tag_76 rfl rfl) <| z_cons (ok_goto (tgt := 39) (by decide) rfl dX10_tag_79 rfl) <| z_cons (ok_aload_n dX10_tag_82 rfl rfl) <| z_cons (ok_iload_n dX10_tag_83 rfl rfl) <| z_cons (ok_callv ⟨by decide, by decide, by decide⟩ (ci := 8) (C := RX10) (T := TX10) rfl go_11 (k := 165) (n := 1) qw_657 qw_618 ⟨by decide +kernel, by decide +kernel, by decide +kernel⟩ (Nat.le_of_ble_eq_true rfl) qw_658 qw_659 qw_660 dX10_tag_84 rfl rfl) <| z_cons (ok_aload_n dX10_tag_87 rfl rfl) <| z_cons (ok_getr (k := 0) ⟨by decide, by decide, by decide⟩ (ci := 8) (T := TX10) rfl rfl (Nat.le_of_ble_eq_true rfl) iw_X10 qw_616 gr_11_0 (fun _ _ => by simp) (fun w i => List.mem_of_getElem? (i := 0) rfl) dX10_tag_88 rfl rfl) <| z_cons (ok_sipush (by decide) dX10_tag_91 rfl rfl) <| z_cons (ok_iload_n dX10_tag_94 rfl rfl) <| z_cons (ok_iadd dX10_tag_95 rfl rfl) <| z_cons (ok_iconst (by decide) dX10_tag_96 rfl rfl) <| z_cons (ok_iast dX10_tag_97 rfl rfl) <| z_cons (ok_aload_n dX10_tag_98 rfl rfl) <| z_cons (ok_getr (k := 0) ⟨by decide, by decide, by decide⟩ (ci := 8) (T := TX10) rfl rfl (Nat.le_of_ble_eq_true rfl) iw_X10 qw_616 gr_11_0 (fun _ _ => by simp) (fun w i => List.mem_of_getElem? (i := 0) rfl) dX10_tag_99 rfl rfl) <| z_cons (ok_sipush (by decide) dX10_tag_102 rfl rfl) <| z_cons (ok_iload_n dX10_tag_105 rfl rfl) <| z_cons (ok_iadd dX10_tag_106 rfl rfl) <| z_cons (ok_iload_n dX10_tag_107 rfl rfl) <| z_cons (ok_iast dX10_tag_108 rfl rfl) <| z_cons (ok_aload_n dX10_tag_109 rfl rfl) <| z_cons (ok_getr (k := 0) ⟨by decide, by decide, by decide⟩ (ci := 8) (T := TX10) rfl rfl (Nat.le_of_ble_eq_true rfl) iw_X10 qw_616 gr_11_0 (fun _ _ => by simp) (fun w i => List.mem_of_getElem? (i := 0) rfl) dX10_tag_110 rfl rfl) <| z_cons (ok_sipush (by decide) dX10_tag_113 rfl rfl) <| z_cons (ok_iload_n dX10_tag_116 rfl rfl) <| z_cons (ok_iadd dX10_tag_117 rfl rfl) <| z_cons (ok_iload_n dX10_tag_118 rfl rfl) <| z_cons (ok_iast dX10_tag_119 rfl rfl) <| z_cons (ok_aload_n dX10_tag_120 rfl rfl) <| z_cons (ok_callv ⟨by decide, by decide, by decide⟩ (ci := 8) (C := RX10) (T := TX10) rfl go_11 (k := 177) (n := 0) qw_661 qw_618 ⟨by decide +kernel, by decide +kernel, by decide +kernel⟩ (Nat.le_of_ble_eq_true rfl) qw_662 qw_663 qw_664 dX10_tag_121 rfl rfl) <| z_cons (ok_iconst (by decide) dX10_tag_124 rfl rfl) <| z_cons (ok_zret rfl dX10_tag_125 rfl) <| z_nil
set_option maxRecDepth 20000 in
theorem zl_X10_tag_0 : z_All z_tab cX10_tag 5 (some .boolean) RX10 pc_X10_tag 0 (k_X10_tag.drop 0) := z_cons (ok_iload_n dX10_tag_0 rfl rfl) <| z_cons (ok_iconst (by decide) dX10_tag_1 rfl rfl) <| z_cons (ok_bipush (by decide) dX10_tag_2 rfl rfl) <| z_cons (ok_callS (k := 162) (n := 3) qw_617 qw_618 ⟨by decide +kernel, by decide +kernel, by decide +kernel⟩ (Nat.le_of_ble_eq_true rfl) qw_620 qw_619 dX10_tag_4 rfl rfl) <| z_cons (ok_if_eq (tgt := 34) (by decide) rfl dX10_tag_7 rfl rfl) <| z_cons (ok_aload_n dX10_tag_10 rfl rfl) <| z_cons (ok_getr (k := 0) ⟨by decide, by decide, by decide⟩ (ci := 8) (T := TX10) rfl rfl (Nat.le_of_ble_eq_true rfl) iw_X10 qw_616 gr_11_0 (fun _ _ => by simp) (fun w i => List.mem_of_getElem? (i := 0) rfl) dX10_tag_11 rfl rfl) <| z_cons (ok_sipush (by decide) dX10_tag_14 rfl rfl) <| z_cons (ok_iload_n dX10_tag_17 rfl rfl) <| z_cons (ok_iadd dX10_tag_18 rfl rfl) <| z_cons (ok_iald dX10_tag_19 rfl rfl) <| z_cons (ok_iconst (by decide) dX10_tag_20 rfl rfl) <| z_cons (ok_icmp_eq (tgt := 34) (by decide) rfl dX10_tag_21 rfl rfl) <| z_cons (ok_iload_n dX10_tag_24 rfl rfl) <| z_cons (ok_iconst (by decide) dX10_tag_25 rfl rfl) <| z_cons (ok_bipush (by decide) dX10_tag_26 rfl rfl) <| z_cons (ok_callS (k := 162) (n := 3) qw_617 qw_618 ⟨by decide +kernel, by decide +kernel, by decide +kernel⟩ (Nat.le_of_ble_eq_true rfl) qw_620 qw_619 dX10_tag_28 rfl rfl) <| z_cons (ok_if_ne (tgt := 36) (by decide) rfl dX10_tag_31 rfl rfl) <| z_cons (ok_iconst (by decide) dX10_tag_34 rfl rfl) <| z_cons (ok_zret rfl dX10_tag_35 rfl) <| z_cons (ok_iconst (by decide) dX10_tag_36 rfl rfl) <| z_cons (ok_istore (Nat.le_of_ble_eq_true rfl) dX10_tag_37 rfl rfl) <| z_cons (ok_iload dX10_tag_39 rfl rfl) <| z_cons (ok_bipush (by decide) dX10_tag_41 rfl rfl) <| z_cons (ok_icmp_ge (tgt := 82) (by decide) rfl dX10_tag_43 rfl rfl) <| z_cons (ok_aload_n dX10_tag_46 rfl rfl) <| z_cons (ok_getr (k := 0) ⟨by decide, by decide, by decide⟩ (ci := 8) (T := TX10) rfl rfl (Nat.le_of_ble_eq_true rfl) iw_X10 qw_616 gr_11_0 (fun _ _ => by simp) (fun w i => List.mem_of_getElem? (i := 0) rfl) dX10_tag_47 rfl rfl) <| z_cons (ok_sipush (by decide) dX10_tag_50 rfl rfl) <| z_cons (ok_iload dX10_tag_53 rfl rfl) <| z_cons (ok_iadd dX10_tag_55 rfl rfl) <| z_cons (ok_iald dX10_tag_56 rfl rfl) <| z_cons (ok_iconst (by decide) dX10_tag_57 rfl rfl) <| z_cons (ok_icmp_ne (tgt := 76) (by decide) rfl dX10_tag_58 rfl rfl) <| z_cons (ok_aload_n dX10_tag_61 rfl rfl) <| z_cons (ok_iload dX10_tag_62 rfl rfl) <| z_cons (ok_callv ⟨by decide, by decide, by decide⟩ (ci := 8) (C := RX10) (T := TX10) rfl go_11 (k := 171) (n := 1) qw_653 qw_618 ⟨by decide +kernel, by decide +kernel, by decide +kernel⟩ (Nat.le_of_ble_eq_true rfl) qw_654 qw_655 qw_656 dX10_tag_64 rfl rfl) <| z_cons (ok_iload_n dX10_tag_67 rfl rfl) <| z_cons (ok_bipush (by decide) dX10_tag_68 rfl rfl) <| z_cons (ok_iushr dX10_tag_70 rfl rfl) <| z_cons (ok_icmp_ne (tgt := 76) (by decide) rfl dX10_tag_71 rfl rfl) <| zl_X10_tag_1
theorem dX10_gone_0 : decode cX10_gone 0 = .ok (.aload_n 0, 1) := by decide +kernel
theorem dX10_gone_1 : decode cX10_gone 1 = .ok (.iload_n 1, 1) := by decide +kernel
theorem dX10_gone_2 : decode cX10_gone 2 = .ok (.invokevirtual 74, 3) := by decide +kernel
theorem dX10_gone_5 : decode cX10_gone 5 = .ok (.ifCond .ne 5, 3) := by decide +kernel
theorem dX10_gone_8 : decode cX10_gone 8 = .ok (.iconst 0, 1) := by decide +kernel
theorem dX10_gone_9 : decode cX10_gone 9 = .ok (.ireturn, 1) := by decide +kernel
theorem dX10_gone_10 : decode cX10_gone 10 = .ok (.aload_n 0, 1) := by decide +kernel
theorem dX10_gone_11 : decode cX10_gone 11 = .ok (.iload_n 1, 1) := by decide +kernel
theorem dX10_gone_12 : decode cX10_gone 12 = .ok (.invokevirtual 77, 3) := by decide +kernel
theorem dX10_gone_15 : decode cX10_gone 15 = .ok (.aload_n 0, 1) := by decide +kernel
theorem dX10_gone_16 : decode cX10_gone 16 = .ok (.iload_n 1, 1) := by decide +kernel
theorem dX10_gone_17 : decode cX10_gone 17 = .ok (.invokevirtual 28, 3) := by decide +kernel
theorem dX10_gone_20 : decode cX10_gone 20 = .ok (.iconst 1, 1) := by decide +kernel
theorem dX10_gone_21 : decode cX10_gone 21 = .ok (.ireturn, 1) := by decide +kernel
set_option maxRecDepth 20000 in
theorem zl_X10_gone_0 : z_All z_tab cX10_gone 2 (some .boolean) RX10 pc_X10_gone 0 (k_X10_gone.drop 0) := z_cons (ok_aload_n dX10_gone_0 rfl rfl) <| z_cons (ok_iload_n dX10_gone_1 rfl rfl) <| z_cons (ok_callv ⟨by decide, by decide, by decide⟩ (ci := 8) (C := RX10) (T := TX10) rfl go_11 (k := 167) (n := 1) qw_665 qw_618 ⟨by decide +kernel, by decide +kernel, by decide +kernel⟩ (Nat.le_of_ble_eq_true rfl) qw_666 qw_667 qw_668 dX10_gone_2 rfl rfl) <| z_cons (ok_if_ne (tgt := 10) (by decide) rfl dX10_gone_5 rfl rfl) <| z_cons (ok_iconst (by decide) dX10_gone_8 rfl rfl) <| z_cons (ok_zret rfl dX10_gone_9 rfl) <| z_cons (ok_aload_n dX10_gone_10 rfl rfl) <| z_cons (ok_iload_n dX10_gone_11 rfl rfl) <| z_cons (ok_callv ⟨by decide, by decide, by decide⟩ (ci := 8) (C := RX10) (T := TX10) rfl go_11 (k := 182) (n := 1) qw_669 qw_618 ⟨by decide +kernel, by decide +kernel, by decide +kernel⟩ (Nat.le_of_ble_eq_true rfl) qw_670 qw_671 qw_672 dX10_gone_12 rfl rfl) <| z_cons (ok_aload_n dX10_gone_15 rfl rfl) <| z_cons (ok_iload_n dX10_gone_16 rfl rfl) <| z_cons (ok_callv ⟨by decide, by decide, by decide⟩ (ci := 8) (C := RX10) (T := TX10) rfl go_11 (k := 165) (n := 1) qw_657 qw_618 ⟨by decide +kernel, by decide +kernel, by decide +kernel⟩ (Nat.le_of_ble_eq_true rfl) qw_658 qw_659 qw_660 dX10_gone_17 rfl rfl) <| z_cons (ok_iconst (by decide) dX10_gone_20 rfl rfl) <| z_cons (ok_zret rfl dX10_gone_21 rfl) <| z_nil
theorem dX10_isFree_0 : decode cX10_isFree 0 = .ok (.aload_n 0, 1) := by decide +kernel
theorem dX10_isFree_1 : decode cX10_isFree 1 = .ok (.getfield 10, 3) := by decide +kernel
theorem dX10_isFree_4 : decode cX10_isFree 4 = .ok (.sipush 550, 3) := by decide +kernel
theorem dX10_isFree_7 : decode cX10_isFree 7 = .ok (.iload_n 1, 1) := by decide +kernel
theorem dX10_isFree_8 : decode cX10_isFree 8 = .ok (.iadd, 1) := by decide +kernel
theorem dX10_isFree_9 : decode cX10_isFree 9 = .ok (.iconst (-1), 1) := by decide +kernel
theorem dX10_isFree_10 : decode cX10_isFree 10 = .ok (.iastore, 1) := by decide +kernel
theorem dX10_isFree_11 : decode cX10_isFree 11 = .ok (.aload_n 0, 1) := by decide +kernel
theorem dX10_isFree_12 : decode cX10_isFree 12 = .ok (.getfield 10, 3) := by decide +kernel
theorem dX10_isFree_15 : decode cX10_isFree 15 = .ok (.sipush 574, 3) := by decide +kernel
theorem dX10_isFree_18 : decode cX10_isFree 18 = .ok (.iload_n 1, 1) := by decide +kernel
theorem dX10_isFree_19 : decode cX10_isFree 19 = .ok (.iadd, 1) := by decide +kernel
theorem dX10_isFree_20 : decode cX10_isFree 20 = .ok (.iconst (-1), 1) := by decide +kernel
theorem dX10_isFree_21 : decode cX10_isFree 21 = .ok (.iastore, 1) := by decide +kernel
theorem dX10_isFree_22 : decode cX10_isFree 22 = .ok (.return_, 1) := by decide +kernel
set_option maxRecDepth 20000 in
theorem zl_X10_isFree_0 : z_All z_tab cX10_isFree 2 none RX10 pc_X10_isFree 0 (k_X10_isFree.drop 0) := z_cons (ok_aload_n dX10_isFree_0 rfl rfl) <| z_cons (ok_getr (k := 0) ⟨by decide, by decide, by decide⟩ (ci := 8) (T := TX10) rfl rfl (Nat.le_of_ble_eq_true rfl) iw_X10 qw_616 gr_11_0 (fun _ _ => by simp) (fun w i => List.mem_of_getElem? (i := 0) rfl) dX10_isFree_1 rfl rfl) <| z_cons (ok_sipush (by decide) dX10_isFree_4 rfl rfl) <| z_cons (ok_iload_n dX10_isFree_7 rfl rfl) <| z_cons (ok_iadd dX10_isFree_8 rfl rfl) <| z_cons (ok_iconst (by decide) dX10_isFree_9 rfl rfl) <| z_cons (ok_iast dX10_isFree_10 rfl rfl) <| z_cons (ok_aload_n dX10_isFree_11 rfl rfl) <| z_cons (ok_getr (k := 0) ⟨by decide, by decide, by decide⟩ (ci := 8) (T := TX10) rfl rfl (Nat.le_of_ble_eq_true rfl) iw_X10 qw_616 gr_11_0 (fun _ _ => by simp) (fun w i => List.mem_of_getElem? (i := 0) rfl) dX10_isFree_12 rfl rfl) <| z_cons (ok_sipush (by decide) dX10_isFree_15 rfl rfl) <| z_cons (ok_iload_n dX10_isFree_18 rfl rfl) <| z_cons (ok_iadd dX10_isFree_19 rfl rfl) <| z_cons (ok_iconst (by decide) dX10_isFree_20 rfl rfl) <| z_cons (ok_iast dX10_isFree_21 rfl rfl) <| z_cons (ok_ret rfl dX10_isFree_22 rfl) <| z_nil
theorem dX10_move_0 : decode cX10_move 0 = .ok (.aload_n 0, 1) := by decide +kernel
theorem dX10_move_1 : decode cX10_move 1 = .ok (.iload_n 1, 1) := by decide +kernel
theorem dX10_move_2 : decode cX10_move 2 = .ok (.invokevirtual 74, 3) := by decide +kernel
theorem dX10_move_5 : decode cX10_move 5 = .ok (.ifCond .eq 13, 3) := by decide +kernel
theorem dX10_move_8 : decode cX10_move 8 = .ok (.iload_n 2, 1) := by decide +kernel
theorem dX10_move_9 : decode cX10_move 9 = .ok (.iconst 0, 1) := by decide +kernel
theorem dX10_move_10 : decode cX10_move 10 = .ok (.bipush 15, 2) := by decide +kernel
theorem dX10_move_12 : decode cX10_move 12 = .ok (.invokestatic 32, 3) := by decide +kernel
theorem dX10_move_15 : decode cX10_move 15 = .ok (.ifCond .ne 5, 3) := by decide +kernel
theorem dX10_move_18 : decode cX10_move 18 = .ok (.iconst 0, 1) := by decide +kernel
theorem dX10_move_19 : decode cX10_move 19 = .ok (.ireturn, 1) := by decide +kernel
theorem dX10_move_20 : decode cX10_move 20 = .ok (.aload_n 0, 1) := by decide +kernel
theorem dX10_move_21 : decode cX10_move 21 = .ok (.iload_n 1, 1) := by decide +kernel
theorem dX10_move_22 : decode cX10_move 22 = .ok (.invokevirtual 77, 3) := by decide +kernel
theorem dX10_move_25 : decode cX10_move 25 = .ok (.aload_n 0, 1) := by decide +kernel
theorem dX10_move_26 : decode cX10_move 26 = .ok (.getfield 10, 3) := by decide +kernel
theorem dX10_move_29 : decode cX10_move 29 = .ok (.sipush 502, 3) := by decide +kernel
theorem dX10_move_32 : decode cX10_move 32 = .ok (.iload_n 1, 1) := by decide +kernel
theorem dX10_move_33 : decode cX10_move 33 = .ok (.iadd, 1) := by decide +kernel
theorem dX10_move_34 : decode cX10_move 34 = .ok (.iload_n 2, 1) := by decide +kernel
theorem dX10_move_35 : decode cX10_move 35 = .ok (.iastore, 1) := by decide +kernel
theorem dX10_move_36 : decode cX10_move 36 = .ok (.aload_n 0, 1) := by decide +kernel
theorem dX10_move_37 : decode cX10_move 37 = .ok (.getfield 10, 3) := by decide +kernel
theorem dX10_move_40 : decode cX10_move 40 = .ok (.sipush 550, 3) := by decide +kernel
theorem dX10_move_43 : decode cX10_move 43 = .ok (.iload_n 1, 1) := by decide +kernel
theorem dX10_move_44 : decode cX10_move 44 = .ok (.iadd, 1) := by decide +kernel
theorem dX10_move_45 : decode cX10_move 45 = .ok (.iaload, 1) := by decide +kernel
theorem dX10_move_46 : decode cX10_move 46 = .ok (.iconst (-1), 1) := by decide +kernel
theorem dX10_move_47 : decode cX10_move 47 = .ok (.if_icmp .eq 33, 3) := by decide +kernel
theorem dX10_move_50 : decode cX10_move 50 = .ok (.aload_n 0, 1) := by decide +kernel
theorem dX10_move_51 : decode cX10_move 51 = .ok (.aload_n 0, 1) := by decide +kernel
theorem dX10_move_52 : decode cX10_move 52 = .ok (.getfield 10, 3) := by decide +kernel
theorem dX10_move_55 : decode cX10_move 55 = .ok (.sipush 550, 3) := by decide +kernel
theorem dX10_move_58 : decode cX10_move 58 = .ok (.iload_n 1, 1) := by decide +kernel
theorem dX10_move_59 : decode cX10_move 59 = .ok (.iadd, 1) := by decide +kernel
theorem dX10_move_60 : decode cX10_move 60 = .ok (.iaload, 1) := by decide +kernel
theorem dX10_move_61 : decode cX10_move 61 = .ok (.iload_n 1, 1) := by decide +kernel
theorem dX10_move_62 : decode cX10_move 62 = .ok (.invokevirtual 42, 3) := by decide +kernel
theorem dX10_move_65 : decode cX10_move 65 = .ok (.ifCond .ne 15, 3) := by decide +kernel
theorem dX10_move_68 : decode cX10_move 68 = .ok (.aload_n 0, 1) := by decide +kernel
theorem dX10_move_69 : decode cX10_move 69 = .ok (.iload_n 1, 1) := by decide +kernel
theorem dX10_move_70 : decode cX10_move 70 = .ok (.invokevirtual 80, 3) := by decide +kernel
theorem dX10_move_73 : decode cX10_move 73 = .ok (.aload_n 0, 1) := by decide +kernel
theorem dX10_move_74 : decode cX10_move 74 = .ok (.bipush 7, 2) := by decide +kernel
theorem dX10_move_76 : decode cX10_move 76 = .ok (.iconst 1, 1) := by decide +kernel
theorem dX10_move_77 : decode cX10_move 77 = .ok (.invokevirtual 53, 3) := by decide +kernel
theorem dX10_move_80 : decode cX10_move 80 = .ok (.aload_n 0, 1) := by decide +kernel
theorem dX10_move_81 : decode cX10_move 81 = .ok (.invokevirtual 71, 3) := by decide +kernel
theorem dX10_move_84 : decode cX10_move 84 = .ok (.iconst 1, 1) := by decide +kernel
theorem dX10_move_85 : decode cX10_move 85 = .ok (.ireturn, 1) := by decide +kernel
set_option maxRecDepth 20000 in
theorem zl_X10_move_1 : z_All z_tab cX10_move 3 (some .boolean) RX10 pc_X10_move 40 (k_X10_move.drop 40) := z_cons (ok_iload_n dX10_move_69 rfl rfl) <| z_cons (ok_callv ⟨by decide, by decide, by decide⟩ (ci := 8) (C := RX10) (T := TX10) rfl go_11 (k := 185) (n := 1) qw_673 qw_618 ⟨by decide +kernel, by decide +kernel, by decide +kernel⟩ (Nat.le_of_ble_eq_true rfl) qw_674 qw_675 qw_676 dX10_move_70 rfl rfl) <| z_cons (ok_aload_n dX10_move_73 rfl rfl) <| z_cons (ok_bipush (by decide) dX10_move_74 rfl rfl) <| z_cons (ok_iconst (by decide) dX10_move_76 rfl rfl) <| z_cons (ok_callv ⟨by decide, by decide, by decide⟩ (ci := 8) (C := RX10) (T := TX10) rfl go_11 (k := 168) (n := 2) qw_638 qw_618 ⟨by decide +kernel, by decide +kernel, by decide +kernel⟩ (Nat.le_of_ble_eq_true rfl) qw_639 qw_640 qw_641 dX10_move_77 rfl rfl) <| z_cons (ok_aload_n dX10_move_80 rfl rfl) <| z_cons (ok_callv ⟨by decide, by decide, by decide⟩ (ci := 8) (C := RX10) (T := TX10) rfl go_11 (k := 177) (n := 0) qw_661 qw_618 ⟨by decide +kernel, by decide +kernel, by decide +kernel⟩ (Nat.le_of_ble_eq_true rfl) qw_662 qw_663 qw_664 dX10_move_81 rfl rfl) <| z_cons (ok_iconst (by decide) dX10_move_84 rfl rfl) <| z_cons (ok_zret rfl dX10_move_85 rfl) <| z_nil
set_option maxRecDepth 20000 in
theorem zl_X10_move_0 : z_All z_tab cX10_move 3 (some .boolean) RX10 pc_X10_move 0 (k_X10_move.drop 0) := z_cons (ok_aload_n dX10_move_0 rfl rfl) <| z_cons (ok_iload_n dX10_move_1 rfl rfl) <| z_cons (ok_callv ⟨by decide, by decide, by decide⟩ (ci := 8) (C := RX10) (T := TX10) rfl go_11 (k := 167) (n := 1) qw_665 qw_618 ⟨by decide +kernel, by decide +kernel, by decide +kernel⟩ (Nat.le_of_ble_eq_true rfl) qw_666 qw_667 qw_668 dX10_move_2 rfl rfl) <| z_cons (ok_if_eq (tgt := 18) (by decide) rfl dX10_move_5 rfl rfl) <| z_cons (ok_iload_n dX10_move_8 rfl rfl) <| z_cons (ok_iconst (by decide) dX10_move_9 rfl rfl) <| z_cons (ok_bipush (by decide) dX10_move_10 rfl rfl) <| z_cons (ok_callS (k := 162) (n := 3) qw_617 qw_618 ⟨by decide +kernel, by decide +kernel, by decide +kernel⟩ (Nat.le_of_ble_eq_true rfl) qw_620 qw_619 dX10_move_12 rfl rfl) <| z_cons (ok_if_ne (tgt := 20) (by decide) rfl dX10_move_15 rfl rfl) <| z_cons (ok_iconst (by decide) dX10_move_18 rfl rfl) <| z_cons (ok_zret rfl dX10_move_19 rfl) <| z_cons (ok_aload_n dX10_move_20 rfl rfl) <| z_cons (ok_iload_n dX10_move_21 rfl rfl) <| z_cons (ok_callv ⟨by decide, by decide, by decide⟩ (ci := 8) (C := RX10) (T := TX10) rfl go_11 (k := 182) (n := 1) qw_669 qw_618 ⟨by decide +kernel, by decide +kernel, by decide +kernel⟩ (Nat.le_of_ble_eq_true rfl) qw_670 qw_671 qw_672 dX10_move_22 rfl rfl) <| z_cons (ok_aload_n dX10_move_25 rfl rfl) <| z_cons (ok_getr (k := 0) ⟨by decide, by decide, by decide⟩ (ci := 8) (T := TX10) rfl rfl (Nat.le_of_ble_eq_true rfl) iw_X10 qw_616 gr_11_0 (fun _ _ => by simp) (fun w i => List.mem_of_getElem? (i := 0) rfl) dX10_move_26 rfl rfl) <| z_cons (ok_sipush (by decide) dX10_move_29 rfl rfl) <| z_cons (ok_iload_n dX10_move_32 rfl rfl) <| z_cons (ok_iadd dX10_move_33 rfl rfl) <| z_cons (ok_iload_n dX10_move_34 rfl rfl) <| z_cons (ok_iast dX10_move_35 rfl rfl) <| z_cons (ok_aload_n dX10_move_36 rfl rfl) <| z_cons (ok_getr (k := 0) ⟨by decide, by decide, by decide⟩ (ci := 8) (T := TX10) rfl rfl (Nat.le_of_ble_eq_true rfl) iw_X10 qw_616 gr_11_0 (fun _ _ => by simp) (fun w i => List.mem_of_getElem? (i := 0) rfl) dX10_move_37 rfl rfl) <| z_cons (ok_sipush (by decide) dX10_move_40 rfl rfl) <| z_cons (ok_iload_n dX10_move_43 rfl rfl) <| z_cons (ok_iadd dX10_move_44 rfl rfl) <| z_cons (ok_iald dX10_move_45 rfl rfl) <| z_cons (ok_iconst (by decide) dX10_move_46 rfl rfl) <| z_cons (ok_icmp_eq (tgt := 80) (by decide) rfl dX10_move_47 rfl rfl) <| z_cons (ok_aload_n dX10_move_50 rfl rfl) <| z_cons (ok_aload_n dX10_move_51 rfl rfl) <| z_cons (ok_getr (k := 0) ⟨by decide, by decide, by decide⟩ (ci := 8) (T := TX10) rfl rfl (Nat.le_of_ble_eq_true rfl) iw_X10 qw_616 gr_11_0 (fun _ _ => by simp) (fun w i => List.mem_of_getElem? (i := 0) rfl) dX10_move_52 rfl rfl) <| z_cons (ok_sipush (by decide) dX10_move_55 rfl rfl) <| z_cons (ok_iload_n dX10_move_58 rfl rfl) <| z_cons (ok_iadd dX10_move_59 rfl rfl) <| z_cons (ok_iald dX10_move_60 rfl rfl) <| z_cons (ok_iload_n dX10_move_61 rfl rfl) <| z_cons (ok_callv ⟨by decide, by decide, by decide⟩ (ci := 8) (C := RX10) (T := TX10) rfl go_11 (k := 172) (n := 2) qw_626 qw_618 ⟨by decide +kernel, by decide +kernel, by decide +kernel⟩ (Nat.le_of_ble_eq_true rfl) qw_627 qw_628 qw_629 dX10_move_62 rfl rfl) <| z_cons (ok_if_ne (tgt := 80) (by decide) rfl dX10_move_65 rfl rfl) <| z_cons (ok_aload_n dX10_move_68 rfl rfl) <| zl_X10_move_1
theorem dX10_ofIt_0 : decode cX10_ofIt 0 = .ok (.iconst 0, 1) := by decide +kernel
theorem dX10_ofIt_1 : decode cX10_ofIt 1 = .ok (.istore_n 2, 1) := by decide +kernel
theorem dX10_ofIt_2 : decode cX10_ofIt 2 = .ok (.iconst 0, 1) := by decide +kernel
theorem dX10_ofIt_3 : decode cX10_ofIt 3 = .ok (.istore_n 3, 1) := by decide +kernel
theorem dX10_ofIt_4 : decode cX10_ofIt 4 = .ok (.iload_n 3, 1) := by decide +kernel
theorem dX10_ofIt_5 : decode cX10_ofIt 5 = .ok (.bipush 24, 2) := by decide +kernel
theorem dX10_ofIt_7 : decode cX10_ofIt 7 = .ok (.if_icmp .ge 31, 3) := by decide +kernel
theorem dX10_ofIt_10 : decode cX10_ofIt 10 = .ok (.iload_n 2, 1) := by decide +kernel
theorem dX10_ofIt_11 : decode cX10_ofIt 11 = .ok (.aload_n 0, 1) := by decide +kernel
theorem dX10_ofIt_12 : decode cX10_ofIt 12 = .ok (.getfield 10, 3) := by decide +kernel
theorem dX10_ofIt_15 : decode cX10_ofIt 15 = .ok (.sipush 550, 3) := by decide +kernel
theorem dX10_ofIt_18 : decode cX10_ofIt 18 = .ok (.iload_n 3, 1) := by decide +kernel
theorem dX10_ofIt_19 : decode cX10_ofIt 19 = .ok (.iadd, 1) := by decide +kernel
theorem dX10_ofIt_20 : decode cX10_ofIt 20 = .ok (.iaload, 1) := by decide +kernel
theorem dX10_ofIt_21 : decode cX10_ofIt 21 = .ok (.iload_n 1, 1) := by decide +kernel
theorem dX10_ofIt_22 : decode cX10_ofIt 22 = .ok (.if_icmp .ne 7, 3) := by decide +kernel
theorem dX10_ofIt_25 : decode cX10_ofIt 25 = .ok (.iconst 1, 1) := by decide +kernel
theorem dX10_ofIt_26 : decode cX10_ofIt 26 = .ok (.goto 4, 3) := by decide +kernel
theorem dX10_ofIt_29 : decode cX10_ofIt 29 = .ok (.iconst 0, 1) := by decide +kernel
theorem dX10_ofIt_30 : decode cX10_ofIt 30 = .ok (.iadd, 1) := by decide +kernel
theorem dX10_ofIt_31 : decode cX10_ofIt 31 = .ok (.istore_n 2, 1) := by decide +kernel
theorem dX10_ofIt_32 : decode cX10_ofIt 32 = .ok (.iinc 3 1, 3) := by decide +kernel
theorem dX10_ofIt_35 : decode cX10_ofIt 35 = .ok (.goto (-31), 3) := by decide +kernel
theorem dX10_ofIt_38 : decode cX10_ofIt 38 = .ok (.iload_n 2, 1) := by decide +kernel
theorem dX10_ofIt_39 : decode cX10_ofIt 39 = .ok (.ireturn, 1) := by decide +kernel
set_option maxRecDepth 20000 in
theorem zl_X10_ofIt_0 : z_All z_tab cX10_ofIt 4 (some .int) RX10 pc_X10_ofIt 0 (k_X10_ofIt.drop 0) := z_cons (ok_iconst (by decide) dX10_ofIt_0 rfl rfl) <| z_cons (ok_istore_n (Nat.le_of_ble_eq_true rfl) dX10_ofIt_1 rfl rfl) <| z_cons (ok_iconst (by decide) dX10_ofIt_2 rfl rfl) <| z_cons (ok_istore_n (Nat.le_of_ble_eq_true rfl) dX10_ofIt_3 rfl rfl) <| z_cons (ok_iload_n dX10_ofIt_4 rfl rfl) <| z_cons (ok_bipush (by decide) dX10_ofIt_5 rfl rfl) <| z_cons (ok_icmp_ge (tgt := 38) (by decide) rfl dX10_ofIt_7 rfl rfl) <| z_cons (ok_iload_n dX10_ofIt_10 rfl rfl) <| z_cons (ok_aload_n dX10_ofIt_11 rfl rfl) <| z_cons (ok_getr (k := 0) ⟨by decide, by decide, by decide⟩ (ci := 8) (T := TX10) rfl rfl (Nat.le_of_ble_eq_true rfl) iw_X10 qw_616 gr_11_0 (fun _ _ => by simp) (fun w i => List.mem_of_getElem? (i := 0) rfl) dX10_ofIt_12 rfl rfl) <| z_cons (ok_sipush (by decide) dX10_ofIt_15 rfl rfl) <| z_cons (ok_iload_n dX10_ofIt_18 rfl rfl) <| z_cons (ok_iadd dX10_ofIt_19 rfl rfl) <| z_cons (ok_iald dX10_ofIt_20 rfl rfl) <| z_cons (ok_iload_n dX10_ofIt_21 rfl rfl) <| z_cons (ok_icmp_ne (tgt := 29) (by decide) rfl dX10_ofIt_22 rfl rfl) <| z_cons (ok_iconst (by decide) dX10_ofIt_25 rfl rfl) <| z_cons (ok_goto (tgt := 30) (by decide) rfl dX10_ofIt_26 rfl) <| z_cons (ok_iconst (by decide) dX10_ofIt_29 rfl rfl) <| z_cons (ok_iadd dX10_ofIt_30 rfl rfl) <| z_cons (ok_istore_n (Nat.le_of_ble_eq_true rfl) dX10_ofIt_31 rfl rfl) <| z_cons (ok_iinc (by decide) (Nat.le_of_ble_eq_true rfl) dX10_ofIt_32 rfl rfl) <| z_cons (ok_goto (tgt := 4) (by decide) rfl dX10_ofIt_35 rfl) <| z_cons (ok_iload_n dX10_ofIt_38 rfl rfl) <| z_cons (ok_iret rfl dX10_ofIt_39 rfl) <| z_nil
theorem dX10_frees_0 : decode cX10_frees 0 = .ok (.iconst 0, 1) := by decide +kernel
theorem dX10_frees_1 : decode cX10_frees 1 = .ok (.istore_n 2, 1) := by decide +kernel
theorem dX10_frees_2 : decode cX10_frees 2 = .ok (.iload_n 2, 1) := by decide +kernel
theorem dX10_frees_3 : decode cX10_frees 3 = .ok (.bipush 24, 2) := by decide +kernel
theorem dX10_frees_5 : decode cX10_frees 5 = .ok (.if_icmp .ge 28, 3) := by decide +kernel
theorem dX10_frees_8 : decode cX10_frees 8 = .ok (.aload_n 0, 1) := by decide +kernel
theorem dX10_frees_9 : decode cX10_frees 9 = .ok (.getfield 10, 3) := by decide +kernel
theorem dX10_frees_12 : decode cX10_frees 12 = .ok (.sipush 550, 3) := by decide +kernel
theorem dX10_frees_15 : decode cX10_frees 15 = .ok (.iload_n 2, 1) := by decide +kernel
theorem dX10_frees_16 : decode cX10_frees 16 = .ok (.iadd, 1) := by decide +kernel
theorem dX10_frees_17 : decode cX10_frees 17 = .ok (.iaload, 1) := by decide +kernel
theorem dX10_frees_18 : decode cX10_frees 18 = .ok (.iload_n 1, 1) := by decide +kernel
theorem dX10_frees_19 : decode cX10_frees 19 = .ok (.if_icmp .ne 8, 3) := by decide +kernel
theorem dX10_frees_22 : decode cX10_frees 22 = .ok (.aload_n 0, 1) := by decide +kernel
theorem dX10_frees_23 : decode cX10_frees 23 = .ok (.iload_n 2, 1) := by decide +kernel
theorem dX10_frees_24 : decode cX10_frees 24 = .ok (.invokevirtual 80, 3) := by decide +kernel
theorem dX10_frees_27 : decode cX10_frees 27 = .ok (.iinc 2 1, 3) := by decide +kernel
theorem dX10_frees_30 : decode cX10_frees 30 = .ok (.goto (-28), 3) := by decide +kernel
theorem dX10_frees_33 : decode cX10_frees 33 = .ok (.aload_n 0, 1) := by decide +kernel
theorem dX10_frees_34 : decode cX10_frees 34 = .ok (.getfield 10, 3) := by decide +kernel
theorem dX10_frees_37 : decode cX10_frees 37 = .ok (.sipush 278, 3) := by decide +kernel
theorem dX10_frees_40 : decode cX10_frees 40 = .ok (.iload_n 1, 1) := by decide +kernel
theorem dX10_frees_41 : decode cX10_frees 41 = .ok (.iadd, 1) := by decide +kernel
theorem dX10_frees_42 : decode cX10_frees 42 = .ok (.iconst 0, 1) := by decide +kernel
theorem dX10_frees_43 : decode cX10_frees 43 = .ok (.iastore, 1) := by decide +kernel
theorem dX10_frees_44 : decode cX10_frees 44 = .ok (.return_, 1) := by decide +kernel
set_option maxRecDepth 20000 in
theorem zl_X10_frees_0 : z_All z_tab cX10_frees 3 none RX10 pc_X10_frees 0 (k_X10_frees.drop 0) := z_cons (ok_iconst (by decide) dX10_frees_0 rfl rfl) <| z_cons (ok_istore_n (Nat.le_of_ble_eq_true rfl) dX10_frees_1 rfl rfl) <| z_cons (ok_iload_n dX10_frees_2 rfl rfl) <| z_cons (ok_bipush (by decide) dX10_frees_3 rfl rfl) <| z_cons (ok_icmp_ge (tgt := 33) (by decide) rfl dX10_frees_5 rfl rfl) <| z_cons (ok_aload_n dX10_frees_8 rfl rfl) <| z_cons (ok_getr (k := 0) ⟨by decide, by decide, by decide⟩ (ci := 8) (T := TX10) rfl rfl (Nat.le_of_ble_eq_true rfl) iw_X10 qw_616 gr_11_0 (fun _ _ => by simp) (fun w i => List.mem_of_getElem? (i := 0) rfl) dX10_frees_9 rfl rfl) <| z_cons (ok_sipush (by decide) dX10_frees_12 rfl rfl) <| z_cons (ok_iload_n dX10_frees_15 rfl rfl) <| z_cons (ok_iadd dX10_frees_16 rfl rfl) <| z_cons (ok_iald dX10_frees_17 rfl rfl) <| z_cons (ok_iload_n dX10_frees_18 rfl rfl) <| z_cons (ok_icmp_ne (tgt := 27) (by decide) rfl dX10_frees_19 rfl rfl) <| z_cons (ok_aload_n dX10_frees_22 rfl rfl) <| z_cons (ok_iload_n dX10_frees_23 rfl rfl) <| z_cons (ok_callv ⟨by decide, by decide, by decide⟩ (ci := 8) (C := RX10) (T := TX10) rfl go_11 (k := 185) (n := 1) qw_673 qw_618 ⟨by decide +kernel, by decide +kernel, by decide +kernel⟩ (Nat.le_of_ble_eq_true rfl) qw_674 qw_675 qw_676 dX10_frees_24 rfl rfl) <| z_cons (ok_iinc (by decide) (Nat.le_of_ble_eq_true rfl) dX10_frees_27 rfl rfl) <| z_cons (ok_goto (tgt := 2) (by decide) rfl dX10_frees_30 rfl) <| z_cons (ok_aload_n dX10_frees_33 rfl rfl) <| z_cons (ok_getr (k := 0) ⟨by decide, by decide, by decide⟩ (ci := 8) (T := TX10) rfl rfl (Nat.le_of_ble_eq_true rfl) iw_X10 qw_616 gr_11_0 (fun _ _ => by simp) (fun w i => List.mem_of_getElem? (i := 0) rfl) dX10_frees_34 rfl rfl) <| z_cons (ok_sipush (by decide) dX10_frees_37 rfl rfl) <| z_cons (ok_iload_n dX10_frees_40 rfl rfl) <| z_cons (ok_iadd dX10_frees_41 rfl rfl) <| z_cons (ok_iconst (by decide) dX10_frees_42 rfl rfl) <| z_cons (ok_iast dX10_frees_43 rfl rfl) <| z_cons (ok_ret rfl dX10_frees_44 rfl) <| z_nil
theorem dX10_breaks_0 : decode cX10_breaks 0 = .ok (.aload_n 0, 1) := by decide +kernel
theorem dX10_breaks_1 : decode cX10_breaks 1 = .ok (.getfield 10, 3) := by decide +kernel
theorem dX10_breaks_4 : decode cX10_breaks 4 = .ok (.sipush 278, 3) := by decide +kernel
theorem dX10_breaks_7 : decode cX10_breaks 7 = .ok (.iload_n 1, 1) := by decide +kernel
theorem dX10_breaks_8 : decode cX10_breaks 8 = .ok (.iadd, 1) := by decide +kernel
theorem dX10_breaks_9 : decode cX10_breaks 9 = .ok (.iaload, 1) := by decide +kernel
theorem dX10_breaks_10 : decode cX10_breaks 10 = .ok (.ifCond .ne 4, 3) := by decide +kernel
theorem dX10_breaks_13 : decode cX10_breaks 13 = .ok (.return_, 1) := by decide +kernel
theorem dX10_breaks_14 : decode cX10_breaks 14 = .ok (.aload_n 0, 1) := by decide +kernel
theorem dX10_breaks_15 : decode cX10_breaks 15 = .ok (.iload_n 1, 1) := by decide +kernel
theorem dX10_breaks_16 : decode cX10_breaks 16 = .ok (.invokevirtual 83, 3) := by decide +kernel
theorem dX10_breaks_19 : decode cX10_breaks 19 = .ok (.aload_n 0, 1) := by decide +kernel
theorem dX10_breaks_20 : decode cX10_breaks 20 = .ok (.bipush 6, 2) := by decide +kernel
theorem dX10_breaks_22 : decode cX10_breaks 22 = .ok (.iconst 1, 1) := by decide +kernel
theorem dX10_breaks_23 : decode cX10_breaks 23 = .ok (.invokevirtual 53, 3) := by decide +kernel
theorem dX10_breaks_26 : decode cX10_breaks 26 = .ok (.aload_n 0, 1) := by decide +kernel
theorem dX10_breaks_27 : decode cX10_breaks 27 = .ok (.iload_n 1, 1) := by decide +kernel
theorem dX10_breaks_28 : decode cX10_breaks 28 = .ok (.iconst 5, 1) := by decide +kernel
theorem dX10_breaks_29 : decode cX10_breaks 29 = .ok (.aload_n 0, 1) := by decide +kernel
theorem dX10_breaks_30 : decode cX10_breaks 30 = .ok (.getfield 10, 3) := by decide +kernel
theorem dX10_breaks_33 : decode cX10_breaks 33 = .ok (.sipush 306, 3) := by decide +kernel
theorem dX10_breaks_36 : decode cX10_breaks 36 = .ok (.iload_n 1, 1) := by decide +kernel
theorem dX10_breaks_37 : decode cX10_breaks 37 = .ok (.iadd, 1) := by decide +kernel
theorem dX10_breaks_38 : decode cX10_breaks 38 = .ok (.iaload, 1) := by decide +kernel
theorem dX10_breaks_39 : decode cX10_breaks 39 = .ok (.invokevirtual 86, 3) := by decide +kernel
theorem dX10_breaks_42 : decode cX10_breaks 42 = .ok (.return_, 1) := by decide +kernel
set_option maxRecDepth 20000 in
theorem zl_X10_breaks_0 : z_All z_tab cX10_breaks 2 none RX10 pc_X10_breaks 0 (k_X10_breaks.drop 0) := z_cons (ok_aload_n dX10_breaks_0 rfl rfl) <| z_cons (ok_getr (k := 0) ⟨by decide, by decide, by decide⟩ (ci := 8) (T := TX10) rfl rfl (Nat.le_of_ble_eq_true rfl) iw_X10 qw_616 gr_11_0 (fun _ _ => by simp) (fun w i => List.mem_of_getElem? (i := 0) rfl) dX10_breaks_1 rfl rfl) <| z_cons (ok_sipush (by decide) dX10_breaks_4 rfl rfl) <| z_cons (ok_iload_n dX10_breaks_7 rfl rfl) <| z_cons (ok_iadd dX10_breaks_8 rfl rfl) <| z_cons (ok_iald dX10_breaks_9 rfl rfl) <| z_cons (ok_if_ne (tgt := 14) (by decide) rfl dX10_breaks_10 rfl rfl) <| z_cons (ok_ret rfl dX10_breaks_13 rfl) <| z_cons (ok_aload_n dX10_breaks_14 rfl rfl) <| z_cons (ok_iload_n dX10_breaks_15 rfl rfl) <| z_cons (ok_callv ⟨by decide, by decide, by decide⟩ (ci := 8) (C := RX10) (T := TX10) rfl go_11 (k := 188) (n := 1) qw_677 qw_618 ⟨by decide +kernel, by decide +kernel, by decide +kernel⟩ (Nat.le_of_ble_eq_true rfl) qw_678 qw_679 qw_680 dX10_breaks_16 rfl rfl) <| z_cons (ok_aload_n dX10_breaks_19 rfl rfl) <| z_cons (ok_bipush (by decide) dX10_breaks_20 rfl rfl) <| z_cons (ok_iconst (by decide) dX10_breaks_22 rfl rfl) <| z_cons (ok_callv ⟨by decide, by decide, by decide⟩ (ci := 8) (C := RX10) (T := TX10) rfl go_11 (k := 168) (n := 2) qw_638 qw_618 ⟨by decide +kernel, by decide +kernel, by decide +kernel⟩ (Nat.le_of_ble_eq_true rfl) qw_639 qw_640 qw_641 dX10_breaks_23 rfl rfl) <| z_cons (ok_aload_n dX10_breaks_26 rfl rfl) <| z_cons (ok_iload_n dX10_breaks_27 rfl rfl) <| z_cons (ok_iconst (by decide) dX10_breaks_28 rfl rfl) <| z_cons (ok_aload_n dX10_breaks_29 rfl rfl) <| z_cons (ok_getr (k := 0) ⟨by decide, by decide, by decide⟩ (ci := 8) (T := TX10) rfl rfl (Nat.le_of_ble_eq_true rfl) iw_X10 qw_616 gr_11_0 (fun _ _ => by simp) (fun w i => List.mem_of_getElem? (i := 0) rfl) dX10_breaks_30 rfl rfl) <| z_cons (ok_sipush (by decide) dX10_breaks_33 rfl rfl) <| z_cons (ok_iload_n dX10_breaks_36 rfl rfl) <| z_cons (ok_iadd dX10_breaks_37 rfl rfl) <| z_cons (ok_iald dX10_breaks_38 rfl rfl) <| z_cons (ok_callv ⟨by decide, by decide, by decide⟩ (ci := 8) (C := RX10) (T := TX10) rfl go_11 (k := 169) (n := 3) qw_681 qw_618 ⟨by decide +kernel, by decide +kernel, by decide +kernel⟩ (Nat.le_of_ble_eq_true rfl) qw_682 qw_683 qw_684 dX10_breaks_39 rfl rfl) <| z_cons (ok_ret rfl dX10_breaks_42 rfl) <| z_nil
theorem dX10_power_0 : decode cX10_power 0 = .ok (.iload_n 1, 1) := by decide +kernel
theorem dX10_power_1 : decode cX10_power 1 = .ok (.invokestatic 64, 3) := by decide +kernel
theorem dX10_power_4 : decode cX10_power 4 = .ok (.ifCond .eq 26, 3) := by decide +kernel
theorem dX10_power_7 : decode cX10_power 7 = .ok (.aload_n 0, 1) := by decide +kernel
theorem dX10_power_8 : decode cX10_power 8 = .ok (.getfield 10, 3) := by decide +kernel
theorem dX10_power_11 : decode cX10_power 11 = .ok (.sipush 262, 3) := by decide +kernel
theorem dX10_power_14 : decode cX10_power 14 = .ok (.iload_n 1, 1) := by decide +kernel
theorem dX10_power_15 : decode cX10_power 15 = .ok (.iadd, 1) := by decide +kernel
theorem dX10_power_16 : decode cX10_power 16 = .ok (.iaload, 1) := by decide +kernel
theorem dX10_power_17 : decode cX10_power 17 = .ok (.iconst 1, 1) := by decide +kernel
theorem dX10_power_18 : decode cX10_power 18 = .ok (.if_icmp .ne 7, 3) := by decide +kernel
theorem dX10_power_21 : decode cX10_power 21 = .ok (.iconst 1, 1) := by decide +kernel
theorem dX10_power_22 : decode cX10_power 22 = .ok (.goto 4, 3) := by decide +kernel
theorem dX10_power_25 : decode cX10_power 25 = .ok (.iconst 0, 1) := by decide +kernel
theorem dX10_power_26 : decode cX10_power 26 = .ok (.iload_n 2, 1) := by decide +kernel
theorem dX10_power_27 : decode cX10_power 27 = .ok (.if_icmp .ne 5, 3) := by decide +kernel
theorem dX10_power_30 : decode cX10_power 30 = .ok (.iconst 0, 1) := by decide +kernel
theorem dX10_power_31 : decode cX10_power 31 = .ok (.ireturn, 1) := by decide +kernel
theorem dX10_power_32 : decode cX10_power 32 = .ok (.iload_n 2, 1) := by decide +kernel
theorem dX10_power_33 : decode cX10_power 33 = .ok (.ifCond .ne 8, 3) := by decide +kernel
theorem dX10_power_36 : decode cX10_power 36 = .ok (.aload_n 0, 1) := by decide +kernel
theorem dX10_power_37 : decode cX10_power 37 = .ok (.iload_n 1, 1) := by decide +kernel
theorem dX10_power_38 : decode cX10_power 38 = .ok (.invokevirtual 89, 3) := by decide +kernel
theorem dX10_power_41 : decode cX10_power 41 = .ok (.aload_n 0, 1) := by decide +kernel
theorem dX10_power_42 : decode cX10_power 42 = .ok (.getfield 10, 3) := by decide +kernel
theorem dX10_power_45 : decode cX10_power 45 = .ok (.sipush 262, 3) := by decide +kernel
theorem dX10_power_48 : decode cX10_power 48 = .ok (.iload_n 1, 1) := by decide +kernel
theorem dX10_power_49 : decode cX10_power 49 = .ok (.iadd, 1) := by decide +kernel
theorem dX10_power_50 : decode cX10_power 50 = .ok (.iload_n 2, 1) := by decide +kernel
theorem dX10_power_51 : decode cX10_power 51 = .ok (.ifCond .eq 7, 3) := by decide +kernel
theorem dX10_power_54 : decode cX10_power 54 = .ok (.iconst 1, 1) := by decide +kernel
theorem dX10_power_55 : decode cX10_power 55 = .ok (.goto 4, 3) := by decide +kernel
theorem dX10_power_58 : decode cX10_power 58 = .ok (.iconst 0, 1) := by decide +kernel
theorem dX10_power_59 : decode cX10_power 59 = .ok (.iastore, 1) := by decide +kernel
theorem dX10_power_60 : decode cX10_power 60 = .ok (.aload_n 0, 1) := by decide +kernel
theorem dX10_power_61 : decode cX10_power 61 = .ok (.invokevirtual 71, 3) := by decide +kernel
theorem dX10_power_64 : decode cX10_power 64 = .ok (.iconst 1, 1) := by decide +kernel
theorem dX10_power_65 : decode cX10_power 65 = .ok (.ireturn, 1) := by decide +kernel
set_option maxRecDepth 20000 in
theorem zl_X10_power_0 : z_All z_tab cX10_power 3 (some .boolean) RX10 pc_X10_power 0 (k_X10_power.drop 0) := z_cons (ok_iload_n dX10_power_0 rfl rfl) <| z_cons (ok_callS (k := 166) (n := 1) qw_650 qw_618 ⟨by decide +kernel, by decide +kernel, by decide +kernel⟩ (Nat.le_of_ble_eq_true rfl) qw_652 qw_651 dX10_power_1 rfl rfl) <| z_cons (ok_if_eq (tgt := 30) (by decide) rfl dX10_power_4 rfl rfl) <| z_cons (ok_aload_n dX10_power_7 rfl rfl) <| z_cons (ok_getr (k := 0) ⟨by decide, by decide, by decide⟩ (ci := 8) (T := TX10) rfl rfl (Nat.le_of_ble_eq_true rfl) iw_X10 qw_616 gr_11_0 (fun _ _ => by simp) (fun w i => List.mem_of_getElem? (i := 0) rfl) dX10_power_8 rfl rfl) <| z_cons (ok_sipush (by decide) dX10_power_11 rfl rfl) <| z_cons (ok_iload_n dX10_power_14 rfl rfl) <| z_cons (ok_iadd dX10_power_15 rfl rfl) <| z_cons (ok_iald dX10_power_16 rfl rfl) <| z_cons (ok_iconst (by decide) dX10_power_17 rfl rfl) <| z_cons (ok_icmp_ne (tgt := 25) (by decide) rfl dX10_power_18 rfl rfl) <| z_cons (ok_iconst (by decide) dX10_power_21 rfl rfl) <| z_cons (ok_goto (tgt := 26) (by decide) rfl dX10_power_22 rfl) <| z_cons (ok_iconst (by decide) dX10_power_25 rfl rfl) <| z_cons (ok_iload_n dX10_power_26 rfl rfl) <| z_cons (ok_icmp_ne (tgt := 32) (by decide) rfl dX10_power_27 rfl rfl) <| z_cons (ok_iconst (by decide) dX10_power_30 rfl rfl) <| z_cons (ok_zret rfl dX10_power_31 rfl) <| z_cons (ok_iload_n dX10_power_32 rfl rfl) <| z_cons (ok_if_ne (tgt := 41) (by decide) rfl dX10_power_33 rfl rfl) <| z_cons (ok_aload_n dX10_power_36 rfl rfl) <| z_cons (ok_iload_n dX10_power_37 rfl rfl) <| z_cons (ok_callv ⟨by decide, by decide, by decide⟩ (ci := 8) (C := RX10) (T := TX10) rfl go_11 (k := 189) (n := 1) qw_685 qw_618 ⟨by decide +kernel, by decide +kernel, by decide +kernel⟩ (Nat.le_of_ble_eq_true rfl) qw_686 qw_687 qw_688 dX10_power_38 rfl rfl) <| z_cons (ok_aload_n dX10_power_41 rfl rfl) <| z_cons (ok_getr (k := 0) ⟨by decide, by decide, by decide⟩ (ci := 8) (T := TX10) rfl rfl (Nat.le_of_ble_eq_true rfl) iw_X10 qw_616 gr_11_0 (fun _ _ => by simp) (fun w i => List.mem_of_getElem? (i := 0) rfl) dX10_power_42 rfl rfl) <| z_cons (ok_sipush (by decide) dX10_power_45 rfl rfl) <| z_cons (ok_iload_n dX10_power_48 rfl rfl) <| z_cons (ok_iadd dX10_power_49 rfl rfl) <| z_cons (ok_iload_n dX10_power_50 rfl rfl) <| z_cons (ok_if_eq (tgt := 58) (by decide) rfl dX10_power_51 rfl rfl) <| z_cons (ok_iconst (by decide) dX10_power_54 rfl rfl) <| z_cons (ok_goto (tgt := 59) (by decide) rfl dX10_power_55 rfl) <| z_cons (ok_iconst (by decide) dX10_power_58 rfl rfl) <| z_cons (ok_iast dX10_power_59 rfl rfl) <| z_cons (ok_aload_n dX10_power_60 rfl rfl) <| z_cons (ok_callv ⟨by decide, by decide, by decide⟩ (ci := 8) (C := RX10) (T := TX10) rfl go_11 (k := 177) (n := 0) qw_661 qw_618 ⟨by decide +kernel, by decide +kernel, by decide +kernel⟩ (Nat.le_of_ble_eq_true rfl) qw_662 qw_663 qw_664 dX10_power_61 rfl rfl) <| z_cons (ok_iconst (by decide) dX10_power_64 rfl rfl) <| z_cons (ok_zret rfl dX10_power_65 rfl) <| z_nil
theorem dX10_stop_0 : decode cX10_stop 0 = .ok (.iload_n 1, 1) := by decide +kernel
theorem dX10_stop_1 : decode cX10_stop 1 = .ok (.invokestatic 64, 3) := by decide +kernel
theorem dX10_stop_4 : decode cX10_stop 4 = .ok (.ifCond .eq 16, 3) := by decide +kernel
theorem dX10_stop_7 : decode cX10_stop 7 = .ok (.aload_n 0, 1) := by decide +kernel
theorem dX10_stop_8 : decode cX10_stop 8 = .ok (.getfield 10, 3) := by decide +kernel
theorem dX10_stop_11 : decode cX10_stop 11 = .ok (.sipush 278, 3) := by decide +kernel
theorem dX10_stop_14 : decode cX10_stop 14 = .ok (.iload_n 1, 1) := by decide +kernel
theorem dX10_stop_15 : decode cX10_stop 15 = .ok (.iadd, 1) := by decide +kernel
theorem dX10_stop_16 : decode cX10_stop 16 = .ok (.iaload, 1) := by decide +kernel
theorem dX10_stop_17 : decode cX10_stop 17 = .ok (.ifCond .ne 5, 3) := by decide +kernel
theorem dX10_stop_20 : decode cX10_stop 20 = .ok (.iconst 0, 1) := by decide +kernel
theorem dX10_stop_21 : decode cX10_stop 21 = .ok (.ireturn, 1) := by decide +kernel
theorem dX10_stop_22 : decode cX10_stop 22 = .ok (.aload_n 0, 1) := by decide +kernel
theorem dX10_stop_23 : decode cX10_stop 23 = .ok (.iload_n 1, 1) := by decide +kernel
theorem dX10_stop_24 : decode cX10_stop 24 = .ok (.invokevirtual 89, 3) := by decide +kernel
theorem dX10_stop_27 : decode cX10_stop 27 = .ok (.iconst 1, 1) := by decide +kernel
theorem dX10_stop_28 : decode cX10_stop 28 = .ok (.ireturn, 1) := by decide +kernel
set_option maxRecDepth 20000 in
theorem zl_X10_stop_0 : z_All z_tab cX10_stop 2 (some .boolean) RX10 pc_X10_stop 0 (k_X10_stop.drop 0) := z_cons (ok_iload_n dX10_stop_0 rfl rfl) <| z_cons (ok_callS (k := 166) (n := 1) qw_650 qw_618 ⟨by decide +kernel, by decide +kernel, by decide +kernel⟩ (Nat.le_of_ble_eq_true rfl) qw_652 qw_651 dX10_stop_1 rfl rfl) <| z_cons (ok_if_eq (tgt := 20) (by decide) rfl dX10_stop_4 rfl rfl) <| z_cons (ok_aload_n dX10_stop_7 rfl rfl) <| z_cons (ok_getr (k := 0) ⟨by decide, by decide, by decide⟩ (ci := 8) (T := TX10) rfl rfl (Nat.le_of_ble_eq_true rfl) iw_X10 qw_616 gr_11_0 (fun _ _ => by simp) (fun w i => List.mem_of_getElem? (i := 0) rfl) dX10_stop_8 rfl rfl) <| z_cons (ok_sipush (by decide) dX10_stop_11 rfl rfl) <| z_cons (ok_iload_n dX10_stop_14 rfl rfl) <| z_cons (ok_iadd dX10_stop_15 rfl rfl) <| z_cons (ok_iald dX10_stop_16 rfl rfl) <| z_cons (ok_if_ne (tgt := 22) (by decide) rfl dX10_stop_17 rfl rfl) <| z_cons (ok_iconst (by decide) dX10_stop_20 rfl rfl) <| z_cons (ok_zret rfl dX10_stop_21 rfl) <| z_cons (ok_aload_n dX10_stop_22 rfl rfl) <| z_cons (ok_iload_n dX10_stop_23 rfl rfl) <| z_cons (ok_callv ⟨by decide, by decide, by decide⟩ (ci := 8) (C := RX10) (T := TX10) rfl go_11 (k := 189) (n := 1) qw_685 qw_618 ⟨by decide +kernel, by decide +kernel, by decide +kernel⟩ (Nat.le_of_ble_eq_true rfl) qw_686 qw_687 qw_688 dX10_stop_24 rfl rfl) <| z_cons (ok_iconst (by decide) dX10_stop_27 rfl rfl) <| z_cons (ok_zret rfl dX10_stop_28 rfl) <| z_nil
theorem dX10_lowest_0 : decode cX10_lowest 0 = .ok (.iload_n 0, 1) := by decide +kernel
theorem dX10_lowest_1 : decode cX10_lowest 1 = .ok (.bipush 32, 2) := by decide +kernel
theorem dX10_lowest_3 : decode cX10_lowest 3 = .ok (.if_icmp .lt 7, 3) := by decide +kernel
theorem dX10_lowest_6 : decode cX10_lowest 6 = .ok (.iconst (-1), 1) := by decide +kernel
theorem dX10_lowest_7 : decode cX10_lowest 7 = .ok (.goto 8, 3) := by decide +kernel
theorem dX10_lowest_10 : decode cX10_lowest 10 = .ok (.iconst 1, 1) := by decide +kernel
theorem dX10_lowest_11 : decode cX10_lowest 11 = .ok (.iload_n 0, 1) := by decide +kernel
theorem dX10_lowest_12 : decode cX10_lowest 12 = .ok (.ishl, 1) := by decide +kernel
theorem dX10_lowest_13 : decode cX10_lowest 13 = .ok (.iconst 1, 1) := by decide +kernel
theorem dX10_lowest_14 : decode cX10_lowest 14 = .ok (.isub, 1) := by decide +kernel
theorem dX10_lowest_15 : decode cX10_lowest 15 = .ok (.ireturn, 1) := by decide +kernel
set_option maxRecDepth 20000 in
theorem zl_X10_lowest_0 : z_All z_tab cX10_lowest 1 (some .int) RX10 pc_X10_lowest 0 (k_X10_lowest.drop 0) := z_cons (ok_iload_n dX10_lowest_0 rfl rfl) <| z_cons (ok_bipush (by decide) dX10_lowest_1 rfl rfl) <| z_cons (ok_icmp_lt (tgt := 10) (by decide) rfl dX10_lowest_3 rfl rfl) <| z_cons (ok_iconst (by decide) dX10_lowest_6 rfl rfl) <| z_cons (ok_goto (tgt := 15) (by decide) rfl dX10_lowest_7 rfl) <| z_cons (ok_iconst (by decide) dX10_lowest_10 rfl rfl) <| z_cons (ok_iload_n dX10_lowest_11 rfl rfl) <| z_cons (ok_ishl dX10_lowest_12 rfl rfl) <| z_cons (ok_iconst (by decide) dX10_lowest_13 rfl rfl) <| z_cons (ok_isub dX10_lowest_14 rfl rfl) <| z_cons (ok_iret rfl dX10_lowest_15 rfl) <| z_nil
theorem dX10_bitsOf_0 : decode cX10_bitsOf 0 = .ok (.iload_n 3, 1) := by decide +kernel
theorem dX10_bitsOf_1 : decode cX10_bitsOf 1 = .ok (.ifCond .ne 7, 3) := by decide +kernel
theorem dX10_bitsOf_4 : decode cX10_bitsOf 4 = .ok (.iconst 0, 1) := by decide +kernel
theorem dX10_bitsOf_5 : decode cX10_bitsOf 5 = .ok (.goto 25, 3) := by decide +kernel
theorem dX10_bitsOf_8 : decode cX10_bitsOf 8 = .ok (.aload_n 0, 1) := by decide +kernel
theorem dX10_bitsOf_9 : decode cX10_bitsOf 9 = .ok (.getfield 10, 3) := by decide +kernel
theorem dX10_bitsOf_12 : decode cX10_bitsOf 12 = .ok (.sipush 478, 3) := by decide +kernel
theorem dX10_bitsOf_15 : decode cX10_bitsOf 15 = .ok (.iload_n 1, 1) := by decide +kernel
theorem dX10_bitsOf_16 : decode cX10_bitsOf 16 = .ok (.iadd, 1) := by decide +kernel
theorem dX10_bitsOf_17 : decode cX10_bitsOf 17 = .ok (.iaload, 1) := by decide +kernel
theorem dX10_bitsOf_18 : decode cX10_bitsOf 18 = .ok (.bipush 32, 2) := by decide +kernel
theorem dX10_bitsOf_20 : decode cX10_bitsOf 20 = .ok (.iload_n 2, 1) := by decide +kernel
theorem dX10_bitsOf_21 : decode cX10_bitsOf 21 = .ok (.isub, 1) := by decide +kernel
theorem dX10_bitsOf_22 : decode cX10_bitsOf 22 = .ok (.iload_n 3, 1) := by decide +kernel
theorem dX10_bitsOf_23 : decode cX10_bitsOf 23 = .ok (.isub, 1) := by decide +kernel
theorem dX10_bitsOf_24 : decode cX10_bitsOf 24 = .ok (.iushr, 1) := by decide +kernel
theorem dX10_bitsOf_25 : decode cX10_bitsOf 25 = .ok (.iload_n 3, 1) := by decide +kernel
theorem dX10_bitsOf_26 : decode cX10_bitsOf 26 = .ok (.invokestatic 92, 3) := by decide +kernel
theorem dX10_bitsOf_29 : decode cX10_bitsOf 29 = .ok (.iand, 1) := by decide +kernel
theorem dX10_bitsOf_30 : decode cX10_bitsOf 30 = .ok (.ireturn, 1) := by decide +kernel
set_option maxRecDepth 20000 in
theorem zl_X10_bitsOf_0 : z_All z_tab cX10_bitsOf 4 (some .int) RX10 pc_X10_bitsOf 0 (k_X10_bitsOf.drop 0) := z_cons (ok_iload_n dX10_bitsOf_0 rfl rfl) <| z_cons (ok_if_ne (tgt := 8) (by decide) rfl dX10_bitsOf_1 rfl rfl) <| z_cons (ok_iconst (by decide) dX10_bitsOf_4 rfl rfl) <| z_cons (ok_goto (tgt := 30) (by decide) rfl dX10_bitsOf_5 rfl) <| z_cons (ok_aload_n dX10_bitsOf_8 rfl rfl) <| z_cons (ok_getr (k := 0) ⟨by decide, by decide, by decide⟩ (ci := 8) (T := TX10) rfl rfl (Nat.le_of_ble_eq_true rfl) iw_X10 qw_616 gr_11_0 (fun _ _ => by simp) (fun w i => List.mem_of_getElem? (i := 0) rfl) dX10_bitsOf_9 rfl rfl) <| z_cons (ok_sipush (by decide) dX10_bitsOf_12 rfl rfl) <| z_cons (ok_iload_n dX10_bitsOf_15 rfl rfl) <| z_cons (ok_iadd dX10_bitsOf_16 rfl rfl) <| z_cons (ok_iald dX10_bitsOf_17 rfl rfl) <| z_cons (ok_bipush (by decide) dX10_bitsOf_18 rfl rfl) <| z_cons (ok_iload_n dX10_bitsOf_20 rfl rfl) <| z_cons (ok_isub dX10_bitsOf_21 rfl rfl) <| z_cons (ok_iload_n dX10_bitsOf_22 rfl rfl) <| z_cons (ok_isub dX10_bitsOf_23 rfl rfl) <| z_cons (ok_iushr dX10_bitsOf_24 rfl rfl) <| z_cons (ok_iload_n dX10_bitsOf_25 rfl rfl) <| z_cons (ok_callS (k := 192) (n := 1) qw_689 qw_618 ⟨by decide +kernel, by decide +kernel, by decide +kernel⟩ (Nat.le_of_ble_eq_true rfl) qw_691 qw_690 dX10_bitsOf_26 rfl rfl) <| z_cons (ok_iand dX10_bitsOf_29 rfl rfl) <| z_cons (ok_iret rfl dX10_bitsOf_30 rfl) <| z_nil
theorem dX10_isIdle_0 : decode cX10_isIdle 0 = .ok (.iload_n 1, 1) := by decide +kernel
theorem dX10_isIdle_1 : decode cX10_isIdle 1 = .ok (.invokestatic 64, 3) := by decide +kernel
theorem dX10_isIdle_4 : decode cX10_isIdle 4 = .ok (.ifCond .eq 34, 3) := by decide +kernel
theorem dX10_isIdle_7 : decode cX10_isIdle 7 = .ok (.aload_n 0, 1) := by decide +kernel
theorem dX10_isIdle_8 : decode cX10_isIdle 8 = .ok (.getfield 10, 3) := by decide +kernel
theorem dX10_isIdle_11 : decode cX10_isIdle 11 = .ok (.sipush 262, 3) := by decide +kernel
theorem dX10_isIdle_14 : decode cX10_isIdle 14 = .ok (.iload_n 1, 1) := by decide +kernel
theorem dX10_isIdle_15 : decode cX10_isIdle 15 = .ok (.iadd, 1) := by decide +kernel
theorem dX10_isIdle_16 : decode cX10_isIdle 16 = .ok (.iaload, 1) := by decide +kernel
theorem dX10_isIdle_17 : decode cX10_isIdle 17 = .ok (.iconst 1, 1) := by decide +kernel
theorem dX10_isIdle_18 : decode cX10_isIdle 18 = .ok (.if_icmp .ne 20, 3) := by decide +kernel
theorem dX10_isIdle_21 : decode cX10_isIdle 21 = .ok (.aload_n 0, 1) := by decide +kernel
theorem dX10_isIdle_22 : decode cX10_isIdle 22 = .ok (.getfield 10, 3) := by decide +kernel
theorem dX10_isIdle_25 : decode cX10_isIdle 25 = .ok (.sipush 278, 3) := by decide +kernel
theorem dX10_isIdle_28 : decode cX10_isIdle 28 = .ok (.iload_n 1, 1) := by decide +kernel
theorem dX10_isIdle_29 : decode cX10_isIdle 29 = .ok (.iadd, 1) := by decide +kernel
theorem dX10_isIdle_30 : decode cX10_isIdle 30 = .ok (.iaload, 1) := by decide +kernel
theorem dX10_isIdle_31 : decode cX10_isIdle 31 = .ok (.ifCond .ne 7, 3) := by decide +kernel
theorem dX10_isIdle_34 : decode cX10_isIdle 34 = .ok (.iconst 1, 1) := by decide +kernel
theorem dX10_isIdle_35 : decode cX10_isIdle 35 = .ok (.goto 4, 3) := by decide +kernel
theorem dX10_isIdle_38 : decode cX10_isIdle 38 = .ok (.iconst 0, 1) := by decide +kernel
theorem dX10_isIdle_39 : decode cX10_isIdle 39 = .ok (.ireturn, 1) := by decide +kernel
set_option maxRecDepth 20000 in
theorem zl_X10_isIdle_0 : z_All z_tab cX10_isIdle 2 (some .boolean) RX10 pc_X10_isIdle 0 (k_X10_isIdle.drop 0) := z_cons (ok_iload_n dX10_isIdle_0 rfl rfl) <| z_cons (ok_callS (k := 166) (n := 1) qw_650 qw_618 ⟨by decide +kernel, by decide +kernel, by decide +kernel⟩ (Nat.le_of_ble_eq_true rfl) qw_652 qw_651 dX10_isIdle_1 rfl rfl) <| z_cons (ok_if_eq (tgt := 38) (by decide) rfl dX10_isIdle_4 rfl rfl) <| z_cons (ok_aload_n dX10_isIdle_7 rfl rfl) <| z_cons (ok_getr (k := 0) ⟨by decide, by decide, by decide⟩ (ci := 8) (T := TX10) rfl rfl (Nat.le_of_ble_eq_true rfl) iw_X10 qw_616 gr_11_0 (fun _ _ => by simp) (fun w i => List.mem_of_getElem? (i := 0) rfl) dX10_isIdle_8 rfl rfl) <| z_cons (ok_sipush (by decide) dX10_isIdle_11 rfl rfl) <| z_cons (ok_iload_n dX10_isIdle_14 rfl rfl) <| z_cons (ok_iadd dX10_isIdle_15 rfl rfl) <| z_cons (ok_iald dX10_isIdle_16 rfl rfl) <| z_cons (ok_iconst (by decide) dX10_isIdle_17 rfl rfl) <| z_cons (ok_icmp_ne (tgt := 38) (by decide) rfl dX10_isIdle_18 rfl rfl) <| z_cons (ok_aload_n dX10_isIdle_21 rfl rfl) <| z_cons (ok_getr (k := 0) ⟨by decide, by decide, by decide⟩ (ci := 8) (T := TX10) rfl rfl (Nat.le_of_ble_eq_true rfl) iw_X10 qw_616 gr_11_0 (fun _ _ => by simp) (fun w i => List.mem_of_getElem? (i := 0) rfl) dX10_isIdle_22 rfl rfl) <| z_cons (ok_sipush (by decide) dX10_isIdle_25 rfl rfl) <| z_cons (ok_iload_n dX10_isIdle_28 rfl rfl) <| z_cons (ok_iadd dX10_isIdle_29 rfl rfl) <| z_cons (ok_iald dX10_isIdle_30 rfl rfl) <| z_cons (ok_if_ne (tgt := 38) (by decide) rfl dX10_isIdle_31 rfl rfl) <| z_cons (ok_iconst (by decide) dX10_isIdle_34 rfl rfl) <| z_cons (ok_goto (tgt := 39) (by decide) rfl dX10_isIdle_35 rfl) <| z_cons (ok_iconst (by decide) dX10_isIdle_38 rfl rfl) <| z_cons (ok_zret rfl dX10_isIdle_39 rfl) <| z_nil
theorem dX10_deed_0 : decode cX10_deed 0 = .ok (.iload_n 0, 1) := by decide +kernel
theorem dX10_deed_1 : decode cX10_deed 1 = .ok (.tableswitch 113 0 6 #[43, 53, 63, 73, 83, 93, 103], 43) := by decide +kernel
theorem dX10_deed_44 : decode cX10_deed 44 = .ok (.iload_n 1, 1) := by decide +kernel
theorem dX10_deed_45 : decode cX10_deed 45 = .ok (.ifCond .eq 7, 3) := by decide +kernel
theorem dX10_deed_48 : decode cX10_deed 48 = .ok (.iconst 1, 1) := by decide +kernel
theorem dX10_deed_49 : decode cX10_deed 49 = .ok (.goto 4, 3) := by decide +kernel
theorem dX10_deed_52 : decode cX10_deed 52 = .ok (.iconst 0, 1) := by decide +kernel
theorem dX10_deed_53 : decode cX10_deed 53 = .ok (.ireturn, 1) := by decide +kernel
theorem dX10_deed_54 : decode cX10_deed 54 = .ok (.iload_n 1, 1) := by decide +kernel
theorem dX10_deed_55 : decode cX10_deed 55 = .ok (.ifCond .eq 7, 3) := by decide +kernel
theorem dX10_deed_58 : decode cX10_deed 58 = .ok (.iconst 1, 1) := by decide +kernel
theorem dX10_deed_59 : decode cX10_deed 59 = .ok (.goto 4, 3) := by decide +kernel
theorem dX10_deed_62 : decode cX10_deed 62 = .ok (.iconst 3, 1) := by decide +kernel
theorem dX10_deed_63 : decode cX10_deed 63 = .ok (.ireturn, 1) := by decide +kernel
theorem dX10_deed_64 : decode cX10_deed 64 = .ok (.iload_n 1, 1) := by decide +kernel
theorem dX10_deed_65 : decode cX10_deed 65 = .ok (.ifCond .eq 7, 3) := by decide +kernel
theorem dX10_deed_68 : decode cX10_deed 68 = .ok (.iconst 3, 1) := by decide +kernel
theorem dX10_deed_69 : decode cX10_deed 69 = .ok (.goto 4, 3) := by decide +kernel
theorem dX10_deed_72 : decode cX10_deed 72 = .ok (.iconst 0, 1) := by decide +kernel
theorem dX10_deed_73 : decode cX10_deed 73 = .ok (.ireturn, 1) := by decide +kernel
theorem dX10_deed_74 : decode cX10_deed 74 = .ok (.iload_n 1, 1) := by decide +kernel
theorem dX10_deed_75 : decode cX10_deed 75 = .ok (.ifCond .eq 7, 3) := by decide +kernel
theorem dX10_deed_78 : decode cX10_deed 78 = .ok (.iconst 2, 1) := by decide +kernel
theorem dX10_deed_79 : decode cX10_deed 79 = .ok (.goto 4, 3) := by decide +kernel
theorem dX10_deed_82 : decode cX10_deed 82 = .ok (.iconst 3, 1) := by decide +kernel
theorem dX10_deed_83 : decode cX10_deed 83 = .ok (.ireturn, 1) := by decide +kernel
theorem dX10_deed_84 : decode cX10_deed 84 = .ok (.iload_n 1, 1) := by decide +kernel
theorem dX10_deed_85 : decode cX10_deed 85 = .ok (.ifCond .eq 7, 3) := by decide +kernel
theorem dX10_deed_88 : decode cX10_deed 88 = .ok (.iconst 0, 1) := by decide +kernel
theorem dX10_deed_89 : decode cX10_deed 89 = .ok (.goto 4, 3) := by decide +kernel
theorem dX10_deed_92 : decode cX10_deed 92 = .ok (.iconst 1, 1) := by decide +kernel
theorem dX10_deed_93 : decode cX10_deed 93 = .ok (.ireturn, 1) := by decide +kernel
theorem dX10_deed_94 : decode cX10_deed 94 = .ok (.iload_n 1, 1) := by decide +kernel
theorem dX10_deed_95 : decode cX10_deed 95 = .ok (.ifCond .eq 7, 3) := by decide +kernel
theorem dX10_deed_98 : decode cX10_deed 98 = .ok (.iconst 0, 1) := by decide +kernel
theorem dX10_deed_99 : decode cX10_deed 99 = .ok (.goto 4, 3) := by decide +kernel
theorem dX10_deed_102 : decode cX10_deed 102 = .ok (.iconst 3, 1) := by decide +kernel
theorem dX10_deed_103 : decode cX10_deed 103 = .ok (.ireturn, 1) := by decide +kernel
theorem dX10_deed_104 : decode cX10_deed 104 = .ok (.iload_n 1, 1) := by decide +kernel
theorem dX10_deed_105 : decode cX10_deed 105 = .ok (.ifCond .eq 7, 3) := by decide +kernel
theorem dX10_deed_108 : decode cX10_deed 108 = .ok (.iconst 3, 1) := by decide +kernel
theorem dX10_deed_109 : decode cX10_deed 109 = .ok (.goto 4, 3) := by decide +kernel
theorem dX10_deed_112 : decode cX10_deed 112 = .ok (.iconst 1, 1) := by decide +kernel
theorem dX10_deed_113 : decode cX10_deed 113 = .ok (.ireturn, 1) := by decide +kernel
theorem dX10_deed_114 : decode cX10_deed 114 = .ok (.iload_n 1, 1) := by decide +kernel
theorem dX10_deed_115 : decode cX10_deed 115 = .ok (.ifCond .eq 7, 3) := by decide +kernel
theorem dX10_deed_118 : decode cX10_deed 118 = .ok (.iconst 3, 1) := by decide +kernel
theorem dX10_deed_119 : decode cX10_deed 119 = .ok (.goto 4, 3) := by decide +kernel
theorem dX10_deed_122 : decode cX10_deed 122 = .ok (.iconst 2, 1) := by decide +kernel
theorem dX10_deed_123 : decode cX10_deed 123 = .ok (.ireturn, 1) := by decide +kernel
set_option maxRecDepth 20000 in
theorem zl_X10_deed_1 : z_All z_tab cX10_deed 2 (some .int) RX10 pc_X10_deed 40 (k_X10_deed.drop 40) := z_cons (ok_iconst (by decide) dX10_deed_108 rfl rfl) <| z_cons (ok_goto (tgt := 113) (by decide) rfl dX10_deed_109 rfl) <| z_cons (ok_iconst (by decide) dX10_deed_112 rfl rfl) <| z_cons (ok_iret rfl dX10_deed_113 rfl) <| z_cons (ok_iload_n dX10_deed_114 rfl rfl) <| z_cons (ok_if_eq (tgt := 122) (by decide) rfl dX10_deed_115 rfl rfl) <| z_cons (ok_iconst (by decide) dX10_deed_118 rfl rfl) <| z_cons (ok_goto (tgt := 123) (by decide) rfl dX10_deed_119 rfl) <| z_cons (ok_iconst (by decide) dX10_deed_122 rfl rfl) <| z_cons (ok_iret rfl dX10_deed_123 rfl) <| z_nil
set_option maxRecDepth 20000 in
theorem zl_X10_deed_0 : z_All z_tab cX10_deed 2 (some .int) RX10 pc_X10_deed 0 (k_X10_deed.drop 0) := z_cons (ok_iload_n dX10_deed_0 rfl rfl) <| z_cons (ok_tsw (lo := 0) dX10_deed_1 rfl (Nat.le_of_ble_eq_true rfl) (by decide) (by decide +kernel) (by decide)) <| z_cons (ok_iload_n dX10_deed_44 rfl rfl) <| z_cons (ok_if_eq (tgt := 52) (by decide) rfl dX10_deed_45 rfl rfl) <| z_cons (ok_iconst (by decide) dX10_deed_48 rfl rfl) <| z_cons (ok_goto (tgt := 53) (by decide) rfl dX10_deed_49 rfl) <| z_cons (ok_iconst (by decide) dX10_deed_52 rfl rfl) <| z_cons (ok_iret rfl dX10_deed_53 rfl) <| z_cons (ok_iload_n dX10_deed_54 rfl rfl) <| z_cons (ok_if_eq (tgt := 62) (by decide) rfl dX10_deed_55 rfl rfl) <| z_cons (ok_iconst (by decide) dX10_deed_58 rfl rfl) <| z_cons (ok_goto (tgt := 63) (by decide) rfl dX10_deed_59 rfl) <| z_cons (ok_iconst (by decide) dX10_deed_62 rfl rfl) <| z_cons (ok_iret rfl dX10_deed_63 rfl) <| z_cons (ok_iload_n dX10_deed_64 rfl rfl) <| z_cons (ok_if_eq (tgt := 72) (by decide) rfl dX10_deed_65 rfl rfl) <| z_cons (ok_iconst (by decide) dX10_deed_68 rfl rfl) <| z_cons (ok_goto (tgt := 73) (by decide) rfl dX10_deed_69 rfl) <| z_cons (ok_iconst (by decide) dX10_deed_72 rfl rfl) <| z_cons (ok_iret rfl dX10_deed_73 rfl) <| z_cons (ok_iload_n dX10_deed_74 rfl rfl) <| z_cons (ok_if_eq (tgt := 82) (by decide) rfl dX10_deed_75 rfl rfl) <| z_cons (ok_iconst (by decide) dX10_deed_78 rfl rfl) <| z_cons (ok_goto (tgt := 83) (by decide) rfl dX10_deed_79 rfl) <| z_cons (ok_iconst (by decide) dX10_deed_82 rfl rfl) <| z_cons (ok_iret rfl dX10_deed_83 rfl) <| z_cons (ok_iload_n dX10_deed_84 rfl rfl) <| z_cons (ok_if_eq (tgt := 92) (by decide) rfl dX10_deed_85 rfl rfl) <| z_cons (ok_iconst (by decide) dX10_deed_88 rfl rfl) <| z_cons (ok_goto (tgt := 93) (by decide) rfl dX10_deed_89 rfl) <| z_cons (ok_iconst (by decide) dX10_deed_92 rfl rfl) <| z_cons (ok_iret rfl dX10_deed_93 rfl) <| z_cons (ok_iload_n dX10_deed_94 rfl rfl) <| z_cons (ok_if_eq (tgt := 102) (by decide) rfl dX10_deed_95 rfl rfl) <| z_cons (ok_iconst (by decide) dX10_deed_98 rfl rfl) <| z_cons (ok_goto (tgt := 103) (by decide) rfl dX10_deed_99 rfl) <| z_cons (ok_iconst (by decide) dX10_deed_102 rfl rfl) <| z_cons (ok_iret rfl dX10_deed_103 rfl) <| z_cons (ok_iload_n dX10_deed_104 rfl rfl) <| z_cons (ok_if_eq (tgt := 112) (by decide) rfl dX10_deed_105 rfl rfl) <| zl_X10_deed_1
theorem dX10_does_0 : decode cX10_does 0 = .ok (.iload_n 3, 1) := by decide +kernel
theorem dX10_does_1 : decode cX10_does 1 = .ok (.iconst 3, 1) := by decide +kernel
theorem dX10_does_2 : decode cX10_does 2 = .ok (.if_icmp .ne 4, 3) := by decide +kernel
theorem dX10_does_5 : decode cX10_does 5 = .ok (.return_, 1) := by decide +kernel
theorem dX10_does_6 : decode cX10_does 6 = .ok (.aload_n 0, 1) := by decide +kernel
theorem dX10_does_7 : decode cX10_does 7 = .ok (.iload_n 1, 1) := by decide +kernel
theorem dX10_does_8 : decode cX10_does 8 = .ok (.iload_n 2, 1) := by decide +kernel
theorem dX10_does_9 : decode cX10_does 9 = .ok (.invokevirtual 45, 3) := by decide +kernel
theorem dX10_does_12 : decode cX10_does 12 = .ok (.istore 4, 2) := by decide +kernel
theorem dX10_does_14 : decode cX10_does 14 = .ok (.iload_n 2, 1) := by decide +kernel
theorem dX10_does_15 : decode cX10_does 15 = .ok (.iconst 4, 1) := by decide +kernel
theorem dX10_does_16 : decode cX10_does 16 = .ok (.if_icmp .ne 7, 3) := by decide +kernel
theorem dX10_does_19 : decode cX10_does 19 = .ok (.iconst 1, 1) := by decide +kernel
theorem dX10_does_20 : decode cX10_does 20 = .ok (.goto 4, 3) := by decide +kernel
theorem dX10_does_23 : decode cX10_does 23 = .ok (.iconst 0, 1) := by decide +kernel
theorem dX10_does_24 : decode cX10_does 24 = .ok (.istore 5, 2) := by decide +kernel
theorem dX10_does_26 : decode cX10_does 26 = .ok (.aload_n 0, 1) := by decide +kernel
theorem dX10_does_27 : decode cX10_does 27 = .ok (.iload_n 1, 1) := by decide +kernel
theorem dX10_does_28 : decode cX10_does 28 = .ok (.iload_n 2, 1) := by decide +kernel
theorem dX10_does_29 : decode cX10_does 29 = .ok (.iload_n 3, 1) := by decide +kernel
theorem dX10_does_30 : decode cX10_does 30 = .ok (.iconst 2, 1) := by decide +kernel
theorem dX10_does_31 : decode cX10_does 31 = .ok (.if_icmp .ne 10, 3) := by decide +kernel
theorem dX10_does_34 : decode cX10_does 34 = .ok (.iconst 1, 1) := by decide +kernel
theorem dX10_does_35 : decode cX10_does 35 = .ok (.iload 4, 2) := by decide +kernel
theorem dX10_does_37 : decode cX10_does 37 = .ok (.isub, 1) := by decide +kernel
theorem dX10_does_38 : decode cX10_does 38 = .ok (.goto 17, 3) := by decide +kernel
theorem dX10_does_41 : decode cX10_does 41 = .ok (.iload_n 3, 1) := by decide +kernel
theorem dX10_does_42 : decode cX10_does 42 = .ok (.iconst 1, 1) := by decide +kernel
theorem dX10_does_43 : decode cX10_does 43 = .ok (.if_icmp .ne 8, 3) := by decide +kernel
theorem dX10_does_46 : decode cX10_does 46 = .ok (.iload 5, 2) := by decide +kernel
theorem dX10_does_48 : decode cX10_does 48 = .ok (.goto 7, 3) := by decide +kernel
theorem dX10_does_51 : decode cX10_does 51 = .ok (.iconst 1, 1) := by decide +kernel
theorem dX10_does_52 : decode cX10_does 52 = .ok (.iload 5, 2) := by decide +kernel
theorem dX10_does_54 : decode cX10_does 54 = .ok (.isub, 1) := by decide +kernel
theorem dX10_does_55 : decode cX10_does 55 = .ok (.invokevirtual 49, 3) := by decide +kernel
theorem dX10_does_58 : decode cX10_does 58 = .ok (.return_, 1) := by decide +kernel
set_option maxRecDepth 20000 in
theorem zl_X10_does_0 : z_All z_tab cX10_does 6 none RX10 pc_X10_does 0 (k_X10_does.drop 0) := z_cons (ok_iload_n dX10_does_0 rfl rfl) <| z_cons (ok_iconst (by decide) dX10_does_1 rfl rfl) <| z_cons (ok_icmp_ne (tgt := 6) (by decide) rfl dX10_does_2 rfl rfl) <| z_cons (ok_ret rfl dX10_does_5 rfl) <| z_cons (ok_aload_n dX10_does_6 rfl rfl) <| z_cons (ok_iload_n dX10_does_7 rfl rfl) <| z_cons (ok_iload_n dX10_does_8 rfl rfl) <| z_cons (ok_callv ⟨by decide, by decide, by decide⟩ (ci := 8) (C := RX10) (T := TX10) rfl go_11 (k := 174) (n := 2) qw_630 qw_618 ⟨by decide +kernel, by decide +kernel, by decide +kernel⟩ (Nat.le_of_ble_eq_true rfl) qw_631 qw_632 qw_633 dX10_does_9 rfl rfl) <| z_cons (ok_istore (Nat.le_of_ble_eq_true rfl) dX10_does_12 rfl rfl) <| z_cons (ok_iload_n dX10_does_14 rfl rfl) <| z_cons (ok_iconst (by decide) dX10_does_15 rfl rfl) <| z_cons (ok_icmp_ne (tgt := 23) (by decide) rfl dX10_does_16 rfl rfl) <| z_cons (ok_iconst (by decide) dX10_does_19 rfl rfl) <| z_cons (ok_goto (tgt := 24) (by decide) rfl dX10_does_20 rfl) <| z_cons (ok_iconst (by decide) dX10_does_23 rfl rfl) <| z_cons (ok_istore (Nat.le_of_ble_eq_true rfl) dX10_does_24 rfl rfl) <| z_cons (ok_aload_n dX10_does_26 rfl rfl) <| z_cons (ok_iload_n dX10_does_27 rfl rfl) <| z_cons (ok_iload_n dX10_does_28 rfl rfl) <| z_cons (ok_iload_n dX10_does_29 rfl rfl) <| z_cons (ok_iconst (by decide) dX10_does_30 rfl rfl) <| z_cons (ok_icmp_ne (tgt := 41) (by decide) rfl dX10_does_31 rfl rfl) <| z_cons (ok_iconst (by decide) dX10_does_34 rfl rfl) <| z_cons (ok_iload dX10_does_35 rfl rfl) <| z_cons (ok_isub dX10_does_37 rfl rfl) <| z_cons (ok_goto (tgt := 55) (by decide) rfl dX10_does_38 rfl) <| z_cons (ok_iload_n dX10_does_41 rfl rfl) <| z_cons (ok_iconst (by decide) dX10_does_42 rfl rfl) <| z_cons (ok_icmp_ne (tgt := 51) (by decide) rfl dX10_does_43 rfl rfl) <| z_cons (ok_iload dX10_does_46 rfl rfl) <| z_cons (ok_goto (tgt := 55) (by decide) rfl dX10_does_48 rfl) <| z_cons (ok_iconst (by decide) dX10_does_51 rfl rfl) <| z_cons (ok_iload dX10_does_52 rfl rfl) <| z_cons (ok_isub dX10_does_54 rfl rfl) <| z_cons (ok_callv ⟨by decide, by decide, by decide⟩ (ci := 8) (C := RX10) (T := TX10) rfl go_11 (k := 175) (n := 3) qw_634 qw_618 ⟨by decide +kernel, by decide +kernel, by decide +kernel⟩ (Nat.le_of_ble_eq_true rfl) qw_635 qw_636 qw_637 dX10_does_55 rfl rfl) <| z_cons (ok_ret rfl dX10_does_58 rfl) <| z_nil
theorem dX10_select_0 : decode cX10_select 0 = .ok (.aload_n 0, 1) := by decide +kernel
theorem dX10_select_1 : decode cX10_select 1 = .ok (.iload_n 1, 1) := by decide +kernel
theorem dX10_select_2 : decode cX10_select 2 = .ok (.invokevirtual 95, 3) := by decide +kernel
theorem dX10_select_5 : decode cX10_select 5 = .ok (.ifCond .eq 47, 3) := by decide +kernel
theorem dX10_select_8 : decode cX10_select 8 = .ok (.iload_n 2, 1) := by decide +kernel
theorem dX10_select_9 : decode cX10_select 9 = .ok (.iconst 0, 1) := by decide +kernel
theorem dX10_select_10 : decode cX10_select 10 = .ok (.iconst 4, 1) := by decide +kernel
theorem dX10_select_11 : decode cX10_select 11 = .ok (.invokestatic 32, 3) := by decide +kernel
theorem dX10_select_14 : decode cX10_select 14 = .ok (.ifCond .eq 38, 3) := by decide +kernel
theorem dX10_select_17 : decode cX10_select 17 = .ok (.iload_n 3, 1) := by decide +kernel
theorem dX10_select_18 : decode cX10_select 18 = .ok (.iconst 0, 1) := by decide +kernel
theorem dX10_select_19 : decode cX10_select 19 = .ok (.bipush 7, 2) := by decide +kernel
theorem dX10_select_21 : decode cX10_select 21 = .ok (.invokestatic 32, 3) := by decide +kernel
theorem dX10_select_24 : decode cX10_select 24 = .ok (.ifCond .eq 28, 3) := by decide +kernel
theorem dX10_select_27 : decode cX10_select 27 = .ok (.iload 4, 2) := by decide +kernel
theorem dX10_select_29 : decode cX10_select 29 = .ok (.iconst 0, 1) := by decide +kernel
theorem dX10_select_30 : decode cX10_select 30 = .ok (.bipush 31, 2) := by decide +kernel
theorem dX10_select_32 : decode cX10_select 32 = .ok (.invokestatic 32, 3) := by decide +kernel
theorem dX10_select_35 : decode cX10_select 35 = .ok (.ifCond .eq 17, 3) := by decide +kernel
theorem dX10_select_38 : decode cX10_select 38 = .ok (.iload 5, 2) := by decide +kernel
theorem dX10_select_40 : decode cX10_select 40 = .ok (.iconst 0, 1) := by decide +kernel
theorem dX10_select_41 : decode cX10_select 41 = .ok (.bipush 32, 2) := by decide +kernel
theorem dX10_select_43 : decode cX10_select 43 = .ok (.iload 4, 2) := by decide +kernel
theorem dX10_select_45 : decode cX10_select 45 = .ok (.isub, 1) := by decide +kernel
theorem dX10_select_46 : decode cX10_select 46 = .ok (.invokestatic 32, 3) := by decide +kernel
theorem dX10_select_49 : decode cX10_select 49 = .ok (.ifCond .ne 5, 3) := by decide +kernel
theorem dX10_select_52 : decode cX10_select 52 = .ok (.iconst (-1), 1) := by decide +kernel
theorem dX10_select_53 : decode cX10_select 53 = .ok (.ireturn, 1) := by decide +kernel
theorem dX10_select_54 : decode cX10_select 54 = .ok (.iconst 0, 1) := by decide +kernel
theorem dX10_select_55 : decode cX10_select 55 = .ok (.istore 7, 2) := by decide +kernel
theorem dX10_select_57 : decode cX10_select 57 = .ok (.iconst 0, 1) := by decide +kernel
theorem dX10_select_58 : decode cX10_select 58 = .ok (.istore 8, 2) := by decide +kernel
theorem dX10_select_60 : decode cX10_select 60 = .ok (.iload 8, 2) := by decide +kernel
theorem dX10_select_62 : decode cX10_select 62 = .ok (.bipush 24, 2) := by decide +kernel
theorem dX10_select_64 : decode cX10_select 64 = .ok (.if_icmp .ge 112, 3) := by decide +kernel
theorem dX10_select_67 : decode cX10_select 67 = .ok (.aload_n 0, 1) := by decide +kernel
theorem dX10_select_68 : decode cX10_select 68 = .ok (.getfield 10, 3) := by decide +kernel
theorem dX10_select_71 : decode cX10_select 71 = .ok (.sipush 454, 3) := by decide +kernel
theorem dX10_select_74 : decode cX10_select 74 = .ok (.iload 8, 2) := by decide +kernel
theorem dX10_select_76 : decode cX10_select 76 = .ok (.iadd, 1) := by decide +kernel
theorem dX10_select_77 : decode cX10_select 77 = .ok (.iaload, 1) := by decide +kernel
theorem dX10_select_78 : decode cX10_select 78 = .ok (.ifCond .eq 92, 3) := by decide +kernel
theorem dX10_select_81 : decode cX10_select 81 = .ok (.aload_n 0, 1) := by decide +kernel
theorem dX10_select_82 : decode cX10_select 82 = .ok (.getfield 10, 3) := by decide +kernel
theorem dX10_select_85 : decode cX10_select 85 = .ok (.sipush 550, 3) := by decide +kernel
theorem dX10_select_88 : decode cX10_select 88 = .ok (.iload 8, 2) := by decide +kernel
theorem dX10_select_90 : decode cX10_select 90 = .ok (.iadd, 1) := by decide +kernel
theorem dX10_select_91 : decode cX10_select 91 = .ok (.iaload, 1) := by decide +kernel
theorem dX10_select_92 : decode cX10_select 92 = .ok (.iconst (-1), 1) := by decide +kernel
theorem dX10_select_93 : decode cX10_select 93 = .ok (.if_icmp .ne 77, 3) := by decide +kernel
theorem dX10_select_96 : decode cX10_select 96 = .ok (.aload_n 0, 1) := by decide +kernel
theorem dX10_select_97 : decode cX10_select 97 = .ok (.iload_n 1, 1) := by decide +kernel
theorem dX10_select_98 : decode cX10_select 98 = .ok (.iload 8, 2) := by decide +kernel
theorem dX10_select_100 : decode cX10_select 100 = .ok (.invokevirtual 42, 3) := by decide +kernel
theorem dX10_select_103 : decode cX10_select 103 = .ok (.ifCond .ne 6, 3) := by decide +kernel
theorem dX10_select_106 : decode cX10_select 106 = .ok (.goto 64, 3) := by decide +kernel
theorem dX10_select_109 : decode cX10_select 109 = .ok (.iload 5, 2) := by decide +kernel
theorem dX10_select_111 : decode cX10_select 111 = .ok (.ifCond .eq 24, 3) := by decide +kernel
theorem dX10_select_114 : decode cX10_select 114 = .ok (.aload_n 0, 1) := by decide +kernel
theorem dX10_select_115 : decode cX10_select 115 = .ok (.iload 8, 2) := by decide +kernel
theorem dX10_select_117 : decode cX10_select 117 = .ok (.iload 4, 2) := by decide +kernel
theorem dX10_select_119 : decode cX10_select 119 = .ok (.iload 5, 2) := by decide +kernel
theorem dX10_select_121 : decode cX10_select 121 = .ok (.invokevirtual 98, 3) := by decide +kernel
theorem dX10_select_124 : decode cX10_select 124 = .ok (.iload 6, 2) := by decide +kernel
theorem dX10_select_126 : decode cX10_select 126 = .ok (.iload 5, 2) := by decide +kernel
theorem dX10_select_128 : decode cX10_select 128 = .ok (.invokestatic 92, 3) := by decide +kernel
theorem dX10_select_131 : decode cX10_select 131 = .ok (.iand, 1) := by decide +kernel
theorem dX10_select_132 : decode cX10_select 132 = .ok (.if_icmp .ne 7, 3) := by decide +kernel
theorem dX10_select_135 : decode cX10_select 135 = .ok (.iconst 1, 1) := by decide +kernel
theorem dX10_select_136 : decode cX10_select 136 = .ok (.goto 4, 3) := by decide +kernel
theorem dX10_select_139 : decode cX10_select 139 = .ok (.iconst 0, 1) := by decide +kernel
theorem dX10_select_140 : decode cX10_select 140 = .ok (.istore 9, 2) := by decide +kernel
theorem dX10_select_142 : decode cX10_select 142 = .ok (.iload 7, 2) := by decide +kernel
theorem dX10_select_144 : decode cX10_select 144 = .ok (.iload 9, 2) := by decide +kernel
theorem dX10_select_146 : decode cX10_select 146 = .ok (.ifCond .eq 7, 3) := by decide +kernel
theorem dX10_select_149 : decode cX10_select 149 = .ok (.iconst 1, 1) := by decide +kernel
theorem dX10_select_150 : decode cX10_select 150 = .ok (.goto 4, 3) := by decide +kernel
theorem dX10_select_153 : decode cX10_select 153 = .ok (.iconst 0, 1) := by decide +kernel
theorem dX10_select_154 : decode cX10_select 154 = .ok (.iadd, 1) := by decide +kernel
theorem dX10_select_155 : decode cX10_select 155 = .ok (.istore 7, 2) := by decide +kernel
theorem dX10_select_157 : decode cX10_select 157 = .ok (.aload_n 0, 1) := by decide +kernel
theorem dX10_select_158 : decode cX10_select 158 = .ok (.iload 8, 2) := by decide +kernel
theorem dX10_select_160 : decode cX10_select 160 = .ok (.iload_n 2, 1) := by decide +kernel
theorem dX10_select_161 : decode cX10_select 161 = .ok (.iload_n 3, 1) := by decide +kernel
theorem dX10_select_162 : decode cX10_select 162 = .ok (.iload 9, 2) := by decide +kernel
theorem dX10_select_164 : decode cX10_select 164 = .ok (.invokestatic 102, 3) := by decide +kernel
theorem dX10_select_167 : decode cX10_select 167 = .ok (.invokevirtual 106, 3) := by decide +kernel
theorem dX10_select_170 : decode cX10_select 170 = .ok (.iinc 8 1, 3) := by decide +kernel
theorem dX10_select_173 : decode cX10_select 173 = .ok (.goto (-113), 3) := by decide +kernel
theorem dX10_select_176 : decode cX10_select 176 = .ok (.aload_n 0, 1) := by decide +kernel
theorem dX10_select_177 : decode cX10_select 177 = .ok (.bipush 10, 2) := by decide +kernel
theorem dX10_select_179 : decode cX10_select 179 = .ok (.iconst 1, 1) := by decide +kernel
theorem dX10_select_180 : decode cX10_select 180 = .ok (.invokevirtual 53, 3) := by decide +kernel
theorem dX10_select_183 : decode cX10_select 183 = .ok (.aload_n 0, 1) := by decide +kernel
theorem dX10_select_184 : decode cX10_select 184 = .ok (.iload_n 1, 1) := by decide +kernel
theorem dX10_select_185 : decode cX10_select 185 = .ok (.bipush 6, 2) := by decide +kernel
theorem dX10_select_187 : decode cX10_select 187 = .ok (.iload 7, 2) := by decide +kernel
theorem dX10_select_189 : decode cX10_select 189 = .ok (.invokevirtual 86, 3) := by decide +kernel
theorem dX10_select_192 : decode cX10_select 192 = .ok (.iload 7, 2) := by decide +kernel
theorem dX10_select_194 : decode cX10_select 194 = .ok (.ireturn, 1) := by decide +kernel
set_option maxRecDepth 20000 in
theorem zl_X10_select_2 : z_All z_tab cX10_select 10 (some .int) RX10 pc_X10_select 80 (k_X10_select.drop 80) := z_cons (ok_aload_n dX10_select_157 rfl rfl) <| z_cons (ok_iload dX10_select_158 rfl rfl) <| z_cons (ok_iload_n dX10_select_160 rfl rfl) <| z_cons (ok_iload_n dX10_select_161 rfl rfl) <| z_cons (ok_iload dX10_select_162 rfl rfl) <| z_cons (ok_callS (k := 195) (n := 2) qw_700 qw_618 ⟨by decide +kernel, by decide +kernel, by decide +kernel⟩ (Nat.le_of_ble_eq_true rfl) qw_702 qw_701 dX10_select_164 rfl rfl) <| z_cons (ok_callv ⟨by decide, by decide, by decide⟩ (ci := 8) (C := RX10) (T := TX10) rfl go_11 (k := 196) (n := 3) qw_703 qw_618 ⟨by decide +kernel, by decide +kernel, by decide +kernel⟩ (Nat.le_of_ble_eq_true rfl) qw_704 qw_705 qw_706 dX10_select_167 rfl rfl) <| z_cons (ok_iinc (by decide) (Nat.le_of_ble_eq_true rfl) dX10_select_170 rfl rfl) <| z_cons (ok_goto (tgt := 60) (by decide) rfl dX10_select_173 rfl) <| z_cons (ok_aload_n dX10_select_176 rfl rfl) <| z_cons (ok_bipush (by decide) dX10_select_177 rfl rfl) <| z_cons (ok_iconst (by decide) dX10_select_179 rfl rfl) <| z_cons (ok_callv ⟨by decide, by decide, by decide⟩ (ci := 8) (C := RX10) (T := TX10) rfl go_11 (k := 168) (n := 2) qw_638 qw_618 ⟨by decide +kernel, by decide +kernel, by decide +kernel⟩ (Nat.le_of_ble_eq_true rfl) qw_639 qw_640 qw_641 dX10_select_180 rfl rfl) <| z_cons (ok_aload_n dX10_select_183 rfl rfl) <| z_cons (ok_iload_n dX10_select_184 rfl rfl) <| z_cons (ok_bipush (by decide) dX10_select_185 rfl rfl) <| z_cons (ok_iload dX10_select_187 rfl rfl) <| z_cons (ok_callv ⟨by decide, by decide, by decide⟩ (ci := 8) (C := RX10) (T := TX10) rfl go_11 (k := 169) (n := 3) qw_681 qw_618 ⟨by decide +kernel, by decide +kernel, by decide +kernel⟩ (Nat.le_of_ble_eq_true rfl) qw_682 qw_683 qw_684 dX10_select_189 rfl rfl) <| z_cons (ok_iload dX10_select_192 rfl rfl) <| z_cons (ok_iret rfl dX10_select_194 rfl) <| z_nil
set_option maxRecDepth 20000 in
theorem zl_X10_select_1 : z_All z_tab cX10_select 10 (some .int) RX10 pc_X10_select 40 (k_X10_select.drop 40) := z_cons (ok_iald dX10_select_77 rfl rfl) <| z_cons (ok_if_eq (tgt := 170) (by decide) rfl dX10_select_78 rfl rfl) <| z_cons (ok_aload_n dX10_select_81 rfl rfl) <| z_cons (ok_getr (k := 0) ⟨by decide, by decide, by decide⟩ (ci := 8) (T := TX10) rfl rfl (Nat.le_of_ble_eq_true rfl) iw_X10 qw_616 gr_11_0 (fun _ _ => by simp) (fun w i => List.mem_of_getElem? (i := 0) rfl) dX10_select_82 rfl rfl) <| z_cons (ok_sipush (by decide) dX10_select_85 rfl rfl) <| z_cons (ok_iload dX10_select_88 rfl rfl) <| z_cons (ok_iadd dX10_select_90 rfl rfl) <| z_cons (ok_iald dX10_select_91 rfl rfl) <| z_cons (ok_iconst (by decide) dX10_select_92 rfl rfl) <| z_cons (ok_icmp_ne (tgt := 170) (by decide) rfl dX10_select_93 rfl rfl) <| z_cons (ok_aload_n dX10_select_96 rfl rfl) <| z_cons (ok_iload_n dX10_select_97 rfl rfl) <| z_cons (ok_iload dX10_select_98 rfl rfl) <| z_cons (ok_callv ⟨by decide, by decide, by decide⟩ (ci := 8) (C := RX10) (T := TX10) rfl go_11 (k := 172) (n := 2) qw_626 qw_618 ⟨by decide +kernel, by decide +kernel, by decide +kernel⟩ (Nat.le_of_ble_eq_true rfl) qw_627 qw_628 qw_629 dX10_select_100 rfl rfl) <| z_cons (ok_if_ne (tgt := 109) (by decide) rfl dX10_select_103 rfl rfl) <| z_cons (ok_goto (tgt := 170) (by decide) rfl dX10_select_106 rfl) <| z_cons (ok_iload dX10_select_109 rfl rfl) <| z_cons (ok_if_eq (tgt := 135) (by decide) rfl dX10_select_111 rfl rfl) <| z_cons (ok_aload_n dX10_select_114 rfl rfl) <| z_cons (ok_iload dX10_select_115 rfl rfl) <| z_cons (ok_iload dX10_select_117 rfl rfl) <| z_cons (ok_iload dX10_select_119 rfl rfl) <| z_cons (ok_callv ⟨by decide, by decide, by decide⟩ (ci := 8) (C := RX10) (T := TX10) rfl go_11 (k := 193) (n := 3) qw_696 qw_618 ⟨by decide +kernel, by decide +kernel, by decide +kernel⟩ (Nat.le_of_ble_eq_true rfl) qw_697 qw_698 qw_699 dX10_select_121 rfl rfl) <| z_cons (ok_iload dX10_select_124 rfl rfl) <| z_cons (ok_iload dX10_select_126 rfl rfl) <| z_cons (ok_callS (k := 192) (n := 1) qw_689 qw_618 ⟨by decide +kernel, by decide +kernel, by decide +kernel⟩ (Nat.le_of_ble_eq_true rfl) qw_691 qw_690 dX10_select_128 rfl rfl) <| z_cons (ok_iand dX10_select_131 rfl rfl) <| z_cons (ok_icmp_ne (tgt := 139) (by decide) rfl dX10_select_132 rfl rfl) <| z_cons (ok_iconst (by decide) dX10_select_135 rfl rfl) <| z_cons (ok_goto (tgt := 140) (by decide) rfl dX10_select_136 rfl) <| z_cons (ok_iconst (by decide) dX10_select_139 rfl rfl) <| z_cons (ok_istore (Nat.le_of_ble_eq_true rfl) dX10_select_140 rfl rfl) <| z_cons (ok_iload dX10_select_142 rfl rfl) <| z_cons (ok_iload dX10_select_144 rfl rfl) <| z_cons (ok_if_eq (tgt := 153) (by decide) rfl dX10_select_146 rfl rfl) <| z_cons (ok_iconst (by decide) dX10_select_149 rfl rfl) <| z_cons (ok_goto (tgt := 154) (by decide) rfl dX10_select_150 rfl) <| z_cons (ok_iconst (by decide) dX10_select_153 rfl rfl) <| z_cons (ok_iadd dX10_select_154 rfl rfl) <| z_cons (ok_istore (Nat.le_of_ble_eq_true rfl) dX10_select_155 rfl rfl) <| zl_X10_select_2
set_option maxRecDepth 20000 in
theorem zl_X10_select_0 : z_All z_tab cX10_select 10 (some .int) RX10 pc_X10_select 0 (k_X10_select.drop 0) := z_cons (ok_aload_n dX10_select_0 rfl rfl) <| z_cons (ok_iload_n dX10_select_1 rfl rfl) <| z_cons (ok_callv ⟨by decide, by decide, by decide⟩ (ci := 8) (C := RX10) (T := TX10) rfl go_11 (k := 194) (n := 1) qw_692 qw_618 ⟨by decide +kernel, by decide +kernel, by decide +kernel⟩ (Nat.le_of_ble_eq_true rfl) qw_693 qw_694 qw_695 dX10_select_2 rfl rfl) <| z_cons (ok_if_eq (tgt := 52) (by decide) rfl dX10_select_5 rfl rfl) <| z_cons (ok_iload_n dX10_select_8 rfl rfl) <| z_cons (ok_iconst (by decide) dX10_select_9 rfl rfl) <| z_cons (ok_iconst (by decide) dX10_select_10 rfl rfl) <| z_cons (ok_callS (k := 162) (n := 3) qw_617 qw_618 ⟨by decide +kernel, by decide +kernel, by decide +kernel⟩ (Nat.le_of_ble_eq_true rfl) qw_620 qw_619 dX10_select_11 rfl rfl) <| z_cons (ok_if_eq (tgt := 52) (by decide) rfl dX10_select_14 rfl rfl) <| z_cons (ok_iload_n dX10_select_17 rfl rfl) <| z_cons (ok_iconst (by decide) dX10_select_18 rfl rfl) <| z_cons (ok_bipush (by decide) dX10_select_19 rfl rfl) <| z_cons (ok_callS (k := 162) (n := 3) qw_617 qw_618 ⟨by decide +kernel, by decide +kernel, by decide +kernel⟩ (Nat.le_of_ble_eq_true rfl) qw_620 qw_619 dX10_select_21 rfl rfl) <| z_cons (ok_if_eq (tgt := 52) (by decide) rfl dX10_select_24 rfl rfl) <| z_cons (ok_iload dX10_select_27 rfl rfl) <| z_cons (ok_iconst (by decide) dX10_select_29 rfl rfl) <| z_cons (ok_bipush (by decide) dX10_select_30 rfl rfl) <| z_cons (ok_callS (k := 162) (n := 3) qw_617 qw_618 ⟨by decide +kernel, by decide +kernel, by decide +kernel⟩ (Nat.le_of_ble_eq_true rfl) qw_620 qw_619 dX10_select_32 rfl rfl) <| z_cons (ok_if_eq (tgt := 52) (by decide) rfl dX10_select_35 rfl rfl) <| z_cons (ok_iload dX10_select_38 rfl rfl) <| z_cons (ok_iconst (by decide) dX10_select_40 rfl rfl) <| z_cons (ok_bipush (by decide) dX10_select_41 rfl rfl) <| z_cons (ok_iload dX10_select_43 rfl rfl) <| z_cons (ok_isub dX10_select_45 rfl rfl) <| z_cons (ok_callS (k := 162) (n := 3) qw_617 qw_618 ⟨by decide +kernel, by decide +kernel, by decide +kernel⟩ (Nat.le_of_ble_eq_true rfl) qw_620 qw_619 dX10_select_46 rfl rfl) <| z_cons (ok_if_ne (tgt := 54) (by decide) rfl dX10_select_49 rfl rfl) <| z_cons (ok_iconst (by decide) dX10_select_52 rfl rfl) <| z_cons (ok_iret rfl dX10_select_53 rfl) <| z_cons (ok_iconst (by decide) dX10_select_54 rfl rfl) <| z_cons (ok_istore (Nat.le_of_ble_eq_true rfl) dX10_select_55 rfl rfl) <| z_cons (ok_iconst (by decide) dX10_select_57 rfl rfl) <| z_cons (ok_istore (Nat.le_of_ble_eq_true rfl) dX10_select_58 rfl rfl) <| z_cons (ok_iload dX10_select_60 rfl rfl) <| z_cons (ok_bipush (by decide) dX10_select_62 rfl rfl) <| z_cons (ok_icmp_ge (tgt := 176) (by decide) rfl dX10_select_64 rfl rfl) <| z_cons (ok_aload_n dX10_select_67 rfl rfl) <| z_cons (ok_getr (k := 0) ⟨by decide, by decide, by decide⟩ (ci := 8) (T := TX10) rfl rfl (Nat.le_of_ble_eq_true rfl) iw_X10 qw_616 gr_11_0 (fun _ _ => by simp) (fun w i => List.mem_of_getElem? (i := 0) rfl) dX10_select_68 rfl rfl) <| z_cons (ok_sipush (by decide) dX10_select_71 rfl rfl) <| z_cons (ok_iload dX10_select_74 rfl rfl) <| z_cons (ok_iadd dX10_select_76 rfl rfl) <| zl_X10_select_1
theorem dX10_put_0 : decode cX10_put 0 = .ok (.aload_n 0, 1) := by decide +kernel
theorem dX10_put_1 : decode cX10_put 1 = .ok (.iload_n 1, 1) := by decide +kernel
theorem dX10_put_2 : decode cX10_put 2 = .ok (.invokevirtual 95, 3) := by decide +kernel
theorem dX10_put_5 : decode cX10_put 5 = .ok (.ifCond .eq 72, 3) := by decide +kernel
theorem dX10_put_8 : decode cX10_put 8 = .ok (.aload_n 0, 1) := by decide +kernel
theorem dX10_put_9 : decode cX10_put 9 = .ok (.iload_n 2, 1) := by decide +kernel
theorem dX10_put_10 : decode cX10_put 10 = .ok (.invokevirtual 74, 3) := by decide +kernel
theorem dX10_put_13 : decode cX10_put 13 = .ok (.ifCond .eq 64, 3) := by decide +kernel
theorem dX10_put_16 : decode cX10_put 16 = .ok (.aload_n 0, 1) := by decide +kernel
theorem dX10_put_17 : decode cX10_put 17 = .ok (.iload_n 1, 1) := by decide +kernel
theorem dX10_put_18 : decode cX10_put 18 = .ok (.iload_n 2, 1) := by decide +kernel
theorem dX10_put_19 : decode cX10_put 19 = .ok (.invokevirtual 42, 3) := by decide +kernel
theorem dX10_put_22 : decode cX10_put 22 = .ok (.ifCond .eq 55, 3) := by decide +kernel
theorem dX10_put_25 : decode cX10_put 25 = .ok (.aload_n 0, 1) := by decide +kernel
theorem dX10_put_26 : decode cX10_put 26 = .ok (.getfield 10, 3) := by decide +kernel
theorem dX10_put_29 : decode cX10_put 29 = .ok (.sipush 550, 3) := by decide +kernel
theorem dX10_put_32 : decode cX10_put 32 = .ok (.iload_n 2, 1) := by decide +kernel
theorem dX10_put_33 : decode cX10_put 33 = .ok (.iadd, 1) := by decide +kernel
theorem dX10_put_34 : decode cX10_put 34 = .ok (.iaload, 1) := by decide +kernel
theorem dX10_put_35 : decode cX10_put 35 = .ok (.iconst (-1), 1) := by decide +kernel
theorem dX10_put_36 : decode cX10_put 36 = .ok (.if_icmp .ne 41, 3) := by decide +kernel
theorem dX10_put_39 : decode cX10_put 39 = .ok (.aload_n 0, 1) := by decide +kernel
theorem dX10_put_40 : decode cX10_put 40 = .ok (.getfield 10, 3) := by decide +kernel
theorem dX10_put_43 : decode cX10_put 43 = .ok (.sipush 622, 3) := by decide +kernel
theorem dX10_put_46 : decode cX10_put 46 = .ok (.iload_n 2, 1) := by decide +kernel
theorem dX10_put_47 : decode cX10_put 47 = .ok (.iadd, 1) := by decide +kernel
theorem dX10_put_48 : decode cX10_put 48 = .ok (.iaload, 1) := by decide +kernel
theorem dX10_put_49 : decode cX10_put 49 = .ok (.iload_n 1, 1) := by decide +kernel
theorem dX10_put_50 : decode cX10_put 50 = .ok (.if_icmp .ne 27, 3) := by decide +kernel
theorem dX10_put_53 : decode cX10_put 53 = .ok (.iload_n 3, 1) := by decide +kernel
theorem dX10_put_54 : decode cX10_put 54 = .ok (.bipush 16, 2) := by decide +kernel
theorem dX10_put_56 : decode cX10_put 56 = .ok (.bipush 31, 2) := by decide +kernel
theorem dX10_put_58 : decode cX10_put 58 = .ok (.invokestatic 32, 3) := by decide +kernel
theorem dX10_put_61 : decode cX10_put 61 = .ok (.ifCond .eq 16, 3) := by decide +kernel
theorem dX10_put_64 : decode cX10_put 64 = .ok (.iload 4, 2) := by decide +kernel
theorem dX10_put_66 : decode cX10_put 66 = .ok (.iconst 1, 1) := by decide +kernel
theorem dX10_put_67 : decode cX10_put 67 = .ok (.bipush 32, 2) := by decide +kernel
theorem dX10_put_69 : decode cX10_put 69 = .ok (.iload_n 3, 1) := by decide +kernel
theorem dX10_put_70 : decode cX10_put 70 = .ok (.isub, 1) := by decide +kernel
theorem dX10_put_71 : decode cX10_put 71 = .ok (.invokestatic 32, 3) := by decide +kernel
theorem dX10_put_74 : decode cX10_put 74 = .ok (.ifCond .ne 5, 3) := by decide +kernel
theorem dX10_put_77 : decode cX10_put 77 = .ok (.iconst 0, 1) := by decide +kernel
theorem dX10_put_78 : decode cX10_put 78 = .ok (.ireturn, 1) := by decide +kernel
theorem dX10_put_79 : decode cX10_put 79 = .ok (.bipush 32, 2) := by decide +kernel
theorem dX10_put_81 : decode cX10_put 81 = .ok (.iload_n 3, 1) := by decide +kernel
theorem dX10_put_82 : decode cX10_put 82 = .ok (.isub, 1) := by decide +kernel
theorem dX10_put_83 : decode cX10_put 83 = .ok (.iload 4, 2) := by decide +kernel
theorem dX10_put_85 : decode cX10_put 85 = .ok (.isub, 1) := by decide +kernel
theorem dX10_put_86 : decode cX10_put 86 = .ok (.istore 6, 2) := by decide +kernel
theorem dX10_put_88 : decode cX10_put 88 = .ok (.aload_n 0, 1) := by decide +kernel
theorem dX10_put_89 : decode cX10_put 89 = .ok (.getfield 10, 3) := by decide +kernel
theorem dX10_put_92 : decode cX10_put 92 = .ok (.sipush 478, 3) := by decide +kernel
theorem dX10_put_95 : decode cX10_put 95 = .ok (.iload_n 2, 1) := by decide +kernel
theorem dX10_put_96 : decode cX10_put 96 = .ok (.iadd, 1) := by decide +kernel
theorem dX10_put_97 : decode cX10_put 97 = .ok (.aload_n 0, 1) := by decide +kernel
theorem dX10_put_98 : decode cX10_put 98 = .ok (.getfield 10, 3) := by decide +kernel
theorem dX10_put_101 : decode cX10_put 101 = .ok (.sipush 478, 3) := by decide +kernel
theorem dX10_put_104 : decode cX10_put 104 = .ok (.iload_n 2, 1) := by decide +kernel
theorem dX10_put_105 : decode cX10_put 105 = .ok (.iadd, 1) := by decide +kernel
theorem dX10_put_106 : decode cX10_put 106 = .ok (.iaload, 1) := by decide +kernel
theorem dX10_put_107 : decode cX10_put 107 = .ok (.iload 4, 2) := by decide +kernel
theorem dX10_put_109 : decode cX10_put 109 = .ok (.invokestatic 92, 3) := by decide +kernel
theorem dX10_put_112 : decode cX10_put 112 = .ok (.iload 6, 2) := by decide +kernel
theorem dX10_put_114 : decode cX10_put 114 = .ok (.ishl, 1) := by decide +kernel
theorem dX10_put_115 : decode cX10_put 115 = .ok (.iconst (-1), 1) := by decide +kernel
theorem dX10_put_116 : decode cX10_put 116 = .ok (.ixor, 1) := by decide +kernel
theorem dX10_put_117 : decode cX10_put 117 = .ok (.iand, 1) := by decide +kernel
theorem dX10_put_118 : decode cX10_put 118 = .ok (.iload 5, 2) := by decide +kernel
theorem dX10_put_120 : decode cX10_put 120 = .ok (.iload 4, 2) := by decide +kernel
theorem dX10_put_122 : decode cX10_put 122 = .ok (.invokestatic 92, 3) := by decide +kernel
theorem dX10_put_125 : decode cX10_put 125 = .ok (.iand, 1) := by decide +kernel
theorem dX10_put_126 : decode cX10_put 126 = .ok (.iload 6, 2) := by decide +kernel
theorem dX10_put_128 : decode cX10_put 128 = .ok (.ishl, 1) := by decide +kernel
theorem dX10_put_129 : decode cX10_put 129 = .ok (.ior, 1) := by decide +kernel
theorem dX10_put_130 : decode cX10_put 130 = .ok (.iastore, 1) := by decide +kernel
theorem dX10_put_131 : decode cX10_put 131 = .ok (.aload_n 0, 1) := by decide +kernel
theorem dX10_put_132 : decode cX10_put 132 = .ok (.bipush 13, 2) := by decide +kernel
theorem dX10_put_134 : decode cX10_put 134 = .ok (.iconst 1, 1) := by decide +kernel
theorem dX10_put_135 : decode cX10_put 135 = .ok (.invokevirtual 53, 3) := by decide +kernel
theorem dX10_put_138 : decode cX10_put 138 = .ok (.iconst 1, 1) := by decide +kernel
theorem dX10_put_139 : decode cX10_put 139 = .ok (.ireturn, 1) := by decide +kernel
set_option maxRecDepth 20000 in
theorem zl_X10_put_2 : z_All z_tab cX10_put 7 (some .boolean) RX10 pc_X10_put 80 (k_X10_put.drop 80) := z_cons (ok_zret rfl dX10_put_139 rfl) <| z_nil
set_option maxRecDepth 20000 in
theorem zl_X10_put_1 : z_All z_tab cX10_put 7 (some .boolean) RX10 pc_X10_put 40 (k_X10_put.drop 40) := z_cons (ok_if_ne (tgt := 79) (by decide) rfl dX10_put_74 rfl rfl) <| z_cons (ok_iconst (by decide) dX10_put_77 rfl rfl) <| z_cons (ok_zret rfl dX10_put_78 rfl) <| z_cons (ok_bipush (by decide) dX10_put_79 rfl rfl) <| z_cons (ok_iload_n dX10_put_81 rfl rfl) <| z_cons (ok_isub dX10_put_82 rfl rfl) <| z_cons (ok_iload dX10_put_83 rfl rfl) <| z_cons (ok_isub dX10_put_85 rfl rfl) <| z_cons (ok_istore (Nat.le_of_ble_eq_true rfl) dX10_put_86 rfl rfl) <| z_cons (ok_aload_n dX10_put_88 rfl rfl) <| z_cons (ok_getr (k := 0) ⟨by decide, by decide, by decide⟩ (ci := 8) (T := TX10) rfl rfl (Nat.le_of_ble_eq_true rfl) iw_X10 qw_616 gr_11_0 (fun _ _ => by simp) (fun w i => List.mem_of_getElem? (i := 0) rfl) dX10_put_89 rfl rfl) <| z_cons (ok_sipush (by decide) dX10_put_92 rfl rfl) <| z_cons (ok_iload_n dX10_put_95 rfl rfl) <| z_cons (ok_iadd dX10_put_96 rfl rfl) <| z_cons (ok_aload_n dX10_put_97 rfl rfl) <| z_cons (ok_getr (k := 0) ⟨by decide, by decide, by decide⟩ (ci := 8) (T := TX10) rfl rfl (Nat.le_of_ble_eq_true rfl) iw_X10 qw_616 gr_11_0 (fun _ _ => by simp) (fun w i => List.mem_of_getElem? (i := 0) rfl) dX10_put_98 rfl rfl) <| z_cons (ok_sipush (by decide) dX10_put_101 rfl rfl) <| z_cons (ok_iload_n dX10_put_104 rfl rfl) <| z_cons (ok_iadd dX10_put_105 rfl rfl) <| z_cons (ok_iald dX10_put_106 rfl rfl) <| z_cons (ok_iload dX10_put_107 rfl rfl) <| z_cons (ok_callS (k := 192) (n := 1) qw_689 qw_618 ⟨by decide +kernel, by decide +kernel, by decide +kernel⟩ (Nat.le_of_ble_eq_true rfl) qw_691 qw_690 dX10_put_109 rfl rfl) <| z_cons (ok_iload dX10_put_112 rfl rfl) <| z_cons (ok_ishl dX10_put_114 rfl rfl) <| z_cons (ok_iconst (by decide) dX10_put_115 rfl rfl) <| z_cons (ok_ixor dX10_put_116 rfl rfl) <| z_cons (ok_iand dX10_put_117 rfl rfl) <| z_cons (ok_iload dX10_put_118 rfl rfl) <| z_cons (ok_iload dX10_put_120 rfl rfl) <| z_cons (ok_callS (k := 192) (n := 1) qw_689 qw_618 ⟨by decide +kernel, by decide +kernel, by decide +kernel⟩ (Nat.le_of_ble_eq_true rfl) qw_691 qw_690 dX10_put_122 rfl rfl) <| z_cons (ok_iand dX10_put_125 rfl rfl) <| z_cons (ok_iload dX10_put_126 rfl rfl) <| z_cons (ok_ishl dX10_put_128 rfl rfl) <| z_cons (ok_ior dX10_put_129 rfl rfl) <| z_cons (ok_iast dX10_put_130 rfl rfl) <| z_cons (ok_aload_n dX10_put_131 rfl rfl) <| z_cons (ok_bipush (by decide) dX10_put_132 rfl rfl) <| z_cons (ok_iconst (by decide) dX10_put_134 rfl rfl) <| z_cons (ok_callv ⟨by decide, by decide, by decide⟩ (ci := 8) (C := RX10) (T := TX10) rfl go_11 (k := 168) (n := 2) qw_638 qw_618 ⟨by decide +kernel, by decide +kernel, by decide +kernel⟩ (Nat.le_of_ble_eq_true rfl) qw_639 qw_640 qw_641 dX10_put_135 rfl rfl) <| z_cons (ok_iconst (by decide) dX10_put_138 rfl rfl) <| zl_X10_put_2
set_option maxRecDepth 20000 in
theorem zl_X10_put_0 : z_All z_tab cX10_put 7 (some .boolean) RX10 pc_X10_put 0 (k_X10_put.drop 0) := z_cons (ok_aload_n dX10_put_0 rfl rfl) <| z_cons (ok_iload_n dX10_put_1 rfl rfl) <| z_cons (ok_callv ⟨by decide, by decide, by decide⟩ (ci := 8) (C := RX10) (T := TX10) rfl go_11 (k := 194) (n := 1) qw_692 qw_618 ⟨by decide +kernel, by decide +kernel, by decide +kernel⟩ (Nat.le_of_ble_eq_true rfl) qw_693 qw_694 qw_695 dX10_put_2 rfl rfl) <| z_cons (ok_if_eq (tgt := 77) (by decide) rfl dX10_put_5 rfl rfl) <| z_cons (ok_aload_n dX10_put_8 rfl rfl) <| z_cons (ok_iload_n dX10_put_9 rfl rfl) <| z_cons (ok_callv ⟨by decide, by decide, by decide⟩ (ci := 8) (C := RX10) (T := TX10) rfl go_11 (k := 167) (n := 1) qw_665 qw_618 ⟨by decide +kernel, by decide +kernel, by decide +kernel⟩ (Nat.le_of_ble_eq_true rfl) qw_666 qw_667 qw_668 dX10_put_10 rfl rfl) <| z_cons (ok_if_eq (tgt := 77) (by decide) rfl dX10_put_13 rfl rfl) <| z_cons (ok_aload_n dX10_put_16 rfl rfl) <| z_cons (ok_iload_n dX10_put_17 rfl rfl) <| z_cons (ok_iload_n dX10_put_18 rfl rfl) <| z_cons (ok_callv ⟨by decide, by decide, by decide⟩ (ci := 8) (C := RX10) (T := TX10) rfl go_11 (k := 172) (n := 2) qw_626 qw_618 ⟨by decide +kernel, by decide +kernel, by decide +kernel⟩ (Nat.le_of_ble_eq_true rfl) qw_627 qw_628 qw_629 dX10_put_19 rfl rfl) <| z_cons (ok_if_eq (tgt := 77) (by decide) rfl dX10_put_22 rfl rfl) <| z_cons (ok_aload_n dX10_put_25 rfl rfl) <| z_cons (ok_getr (k := 0) ⟨by decide, by decide, by decide⟩ (ci := 8) (T := TX10) rfl rfl (Nat.le_of_ble_eq_true rfl) iw_X10 qw_616 gr_11_0 (fun _ _ => by simp) (fun w i => List.mem_of_getElem? (i := 0) rfl) dX10_put_26 rfl rfl) <| z_cons (ok_sipush (by decide) dX10_put_29 rfl rfl) <| z_cons (ok_iload_n dX10_put_32 rfl rfl) <| z_cons (ok_iadd dX10_put_33 rfl rfl) <| z_cons (ok_iald dX10_put_34 rfl rfl) <| z_cons (ok_iconst (by decide) dX10_put_35 rfl rfl) <| z_cons (ok_icmp_ne (tgt := 77) (by decide) rfl dX10_put_36 rfl rfl) <| z_cons (ok_aload_n dX10_put_39 rfl rfl) <| z_cons (ok_getr (k := 0) ⟨by decide, by decide, by decide⟩ (ci := 8) (T := TX10) rfl rfl (Nat.le_of_ble_eq_true rfl) iw_X10 qw_616 gr_11_0 (fun _ _ => by simp) (fun w i => List.mem_of_getElem? (i := 0) rfl) dX10_put_40 rfl rfl) <| z_cons (ok_sipush (by decide) dX10_put_43 rfl rfl) <| z_cons (ok_iload_n dX10_put_46 rfl rfl) <| z_cons (ok_iadd dX10_put_47 rfl rfl) <| z_cons (ok_iald dX10_put_48 rfl rfl) <| z_cons (ok_iload_n dX10_put_49 rfl rfl) <| z_cons (ok_icmp_ne (tgt := 77) (by decide) rfl dX10_put_50 rfl rfl) <| z_cons (ok_iload_n dX10_put_53 rfl rfl) <| z_cons (ok_bipush (by decide) dX10_put_54 rfl rfl) <| z_cons (ok_bipush (by decide) dX10_put_56 rfl rfl) <| z_cons (ok_callS (k := 162) (n := 3) qw_617 qw_618 ⟨by decide +kernel, by decide +kernel, by decide +kernel⟩ (Nat.le_of_ble_eq_true rfl) qw_620 qw_619 dX10_put_58 rfl rfl) <| z_cons (ok_if_eq (tgt := 77) (by decide) rfl dX10_put_61 rfl rfl) <| z_cons (ok_iload dX10_put_64 rfl rfl) <| z_cons (ok_iconst (by decide) dX10_put_66 rfl rfl) <| z_cons (ok_bipush (by decide) dX10_put_67 rfl rfl) <| z_cons (ok_iload_n dX10_put_69 rfl rfl) <| z_cons (ok_isub dX10_put_70 rfl rfl) <| z_cons (ok_callS (k := 162) (n := 3) qw_617 qw_618 ⟨by decide +kernel, by decide +kernel, by decide +kernel⟩ (Nat.le_of_ble_eq_true rfl) qw_620 qw_619 dX10_put_71 rfl rfl) <| zl_X10_put_1
theorem dX10_wouldBe_0 : decode cX10_wouldBe 0 = .ok (.aload_n 0, 1) := by decide +kernel
theorem dX10_wouldBe_1 : decode cX10_wouldBe 1 = .ok (.getfield 10, 3) := by decide +kernel
theorem dX10_wouldBe_4 : decode cX10_wouldBe 4 = .ok (.sipush 454, 3) := by decide +kernel
theorem dX10_wouldBe_7 : decode cX10_wouldBe 7 = .ok (.iload 5, 2) := by decide +kernel
theorem dX10_wouldBe_9 : decode cX10_wouldBe 9 = .ok (.iadd, 1) := by decide +kernel
theorem dX10_wouldBe_10 : decode cX10_wouldBe 10 = .ok (.iaload, 1) := by decide +kernel
theorem dX10_wouldBe_11 : decode cX10_wouldBe 11 = .ok (.ifCond .eq 39, 3) := by decide +kernel
theorem dX10_wouldBe_14 : decode cX10_wouldBe 14 = .ok (.aload_n 0, 1) := by decide +kernel
theorem dX10_wouldBe_15 : decode cX10_wouldBe 15 = .ok (.getfield 10, 3) := by decide +kernel
theorem dX10_wouldBe_18 : decode cX10_wouldBe 18 = .ok (.sipush 550, 3) := by decide +kernel
theorem dX10_wouldBe_21 : decode cX10_wouldBe 21 = .ok (.iload 5, 2) := by decide +kernel
theorem dX10_wouldBe_23 : decode cX10_wouldBe 23 = .ok (.iadd, 1) := by decide +kernel
theorem dX10_wouldBe_24 : decode cX10_wouldBe 24 = .ok (.iaload, 1) := by decide +kernel
theorem dX10_wouldBe_25 : decode cX10_wouldBe 25 = .ok (.iconst (-1), 1) := by decide +kernel
theorem dX10_wouldBe_26 : decode cX10_wouldBe 26 = .ok (.if_icmp .ne 24, 3) := by decide +kernel
theorem dX10_wouldBe_29 : decode cX10_wouldBe 29 = .ok (.aload_n 0, 1) := by decide +kernel
theorem dX10_wouldBe_30 : decode cX10_wouldBe 30 = .ok (.iload_n 1, 1) := by decide +kernel
theorem dX10_wouldBe_31 : decode cX10_wouldBe 31 = .ok (.iload 5, 2) := by decide +kernel
theorem dX10_wouldBe_33 : decode cX10_wouldBe 33 = .ok (.invokevirtual 42, 3) := by decide +kernel
theorem dX10_wouldBe_36 : decode cX10_wouldBe 36 = .ok (.ifCond .eq 14, 3) := by decide +kernel
theorem dX10_wouldBe_39 : decode cX10_wouldBe 39 = .ok (.aload_n 0, 1) := by decide +kernel
theorem dX10_wouldBe_40 : decode cX10_wouldBe 40 = .ok (.iload 5, 2) := by decide +kernel
theorem dX10_wouldBe_42 : decode cX10_wouldBe 42 = .ok (.iload_n 2, 1) := by decide +kernel
theorem dX10_wouldBe_43 : decode cX10_wouldBe 43 = .ok (.invokevirtual 45, 3) := by decide +kernel
theorem dX10_wouldBe_46 : decode cX10_wouldBe 46 = .ok (.iload_n 3, 1) := by decide +kernel
theorem dX10_wouldBe_47 : decode cX10_wouldBe 47 = .ok (.if_icmp .eq 5, 3) := by decide +kernel
theorem dX10_wouldBe_50 : decode cX10_wouldBe 50 = .ok (.iconst 0, 1) := by decide +kernel
theorem dX10_wouldBe_51 : decode cX10_wouldBe 51 = .ok (.ireturn, 1) := by decide +kernel
theorem dX10_wouldBe_52 : decode cX10_wouldBe 52 = .ok (.iload 4, 2) := by decide +kernel
theorem dX10_wouldBe_54 : decode cX10_wouldBe 54 = .ok (.ifCond .eq 33, 3) := by decide +kernel
theorem dX10_wouldBe_57 : decode cX10_wouldBe 57 = .ok (.iload 4, 2) := by decide +kernel
theorem dX10_wouldBe_59 : decode cX10_wouldBe 59 = .ok (.iconst 1, 1) := by decide +kernel
theorem dX10_wouldBe_60 : decode cX10_wouldBe 60 = .ok (.if_icmp .ne 7, 3) := by decide +kernel
theorem dX10_wouldBe_63 : decode cX10_wouldBe 63 = .ok (.iconst 1, 1) := by decide +kernel
theorem dX10_wouldBe_64 : decode cX10_wouldBe 64 = .ok (.goto 4, 3) := by decide +kernel
theorem dX10_wouldBe_67 : decode cX10_wouldBe 67 = .ok (.iconst 0, 1) := by decide +kernel
theorem dX10_wouldBe_68 : decode cX10_wouldBe 68 = .ok (.aload_n 0, 1) := by decide +kernel
theorem dX10_wouldBe_69 : decode cX10_wouldBe 69 = .ok (.iload 5, 2) := by decide +kernel
theorem dX10_wouldBe_71 : decode cX10_wouldBe 71 = .ok (.iconst 4, 1) := by decide +kernel
theorem dX10_wouldBe_72 : decode cX10_wouldBe 72 = .ok (.invokevirtual 45, 3) := by decide +kernel
theorem dX10_wouldBe_75 : decode cX10_wouldBe 75 = .ok (.iconst 1, 1) := by decide +kernel
theorem dX10_wouldBe_76 : decode cX10_wouldBe 76 = .ok (.if_icmp .ne 7, 3) := by decide +kernel
theorem dX10_wouldBe_79 : decode cX10_wouldBe 79 = .ok (.iconst 1, 1) := by decide +kernel
theorem dX10_wouldBe_80 : decode cX10_wouldBe 80 = .ok (.goto 4, 3) := by decide +kernel
theorem dX10_wouldBe_83 : decode cX10_wouldBe 83 = .ok (.iconst 0, 1) := by decide +kernel
theorem dX10_wouldBe_84 : decode cX10_wouldBe 84 = .ok (.if_icmp .ne 7, 3) := by decide +kernel
theorem dX10_wouldBe_87 : decode cX10_wouldBe 87 = .ok (.iconst 1, 1) := by decide +kernel
theorem dX10_wouldBe_88 : decode cX10_wouldBe 88 = .ok (.goto 4, 3) := by decide +kernel
theorem dX10_wouldBe_91 : decode cX10_wouldBe 91 = .ok (.iconst 0, 1) := by decide +kernel
theorem dX10_wouldBe_92 : decode cX10_wouldBe 92 = .ok (.ireturn, 1) := by decide +kernel
set_option maxRecDepth 20000 in
theorem zl_X10_wouldBe_1 : z_All z_tab cX10_wouldBe 6 (some .boolean) RX10 pc_X10_wouldBe 40 (k_X10_wouldBe.drop 40) := z_cons (ok_iconst (by decide) dX10_wouldBe_75 rfl rfl) <| z_cons (ok_icmp_ne (tgt := 83) (by decide) rfl dX10_wouldBe_76 rfl rfl) <| z_cons (ok_iconst (by decide) dX10_wouldBe_79 rfl rfl) <| z_cons (ok_goto (tgt := 84) (by decide) rfl dX10_wouldBe_80 rfl) <| z_cons (ok_iconst (by decide) dX10_wouldBe_83 rfl rfl) <| z_cons (ok_icmp_ne (tgt := 91) (by decide) rfl dX10_wouldBe_84 rfl rfl) <| z_cons (ok_iconst (by decide) dX10_wouldBe_87 rfl rfl) <| z_cons (ok_goto (tgt := 92) (by decide) rfl dX10_wouldBe_88 rfl) <| z_cons (ok_iconst (by decide) dX10_wouldBe_91 rfl rfl) <| z_cons (ok_zret rfl dX10_wouldBe_92 rfl) <| z_nil
set_option maxRecDepth 20000 in
theorem zl_X10_wouldBe_0 : z_All z_tab cX10_wouldBe 6 (some .boolean) RX10 pc_X10_wouldBe 0 (k_X10_wouldBe.drop 0) := z_cons (ok_aload_n dX10_wouldBe_0 rfl rfl) <| z_cons (ok_getr (k := 0) ⟨by decide, by decide, by decide⟩ (ci := 8) (T := TX10) rfl rfl (Nat.le_of_ble_eq_true rfl) iw_X10 qw_616 gr_11_0 (fun _ _ => by simp) (fun w i => List.mem_of_getElem? (i := 0) rfl) dX10_wouldBe_1 rfl rfl) <| z_cons (ok_sipush (by decide) dX10_wouldBe_4 rfl rfl) <| z_cons (ok_iload dX10_wouldBe_7 rfl rfl) <| z_cons (ok_iadd dX10_wouldBe_9 rfl rfl) <| z_cons (ok_iald dX10_wouldBe_10 rfl rfl) <| z_cons (ok_if_eq (tgt := 50) (by decide) rfl dX10_wouldBe_11 rfl rfl) <| z_cons (ok_aload_n dX10_wouldBe_14 rfl rfl) <| z_cons (ok_getr (k := 0) ⟨by decide, by decide, by decide⟩ (ci := 8) (T := TX10) rfl rfl (Nat.le_of_ble_eq_true rfl) iw_X10 qw_616 gr_11_0 (fun _ _ => by simp) (fun w i => List.mem_of_getElem? (i := 0) rfl) dX10_wouldBe_15 rfl rfl) <| z_cons (ok_sipush (by decide) dX10_wouldBe_18 rfl rfl) <| z_cons (ok_iload dX10_wouldBe_21 rfl rfl) <| z_cons (ok_iadd dX10_wouldBe_23 rfl rfl) <| z_cons (ok_iald dX10_wouldBe_24 rfl rfl) <| z_cons (ok_iconst (by decide) dX10_wouldBe_25 rfl rfl) <| z_cons (ok_icmp_ne (tgt := 50) (by decide) rfl dX10_wouldBe_26 rfl rfl) <| z_cons (ok_aload_n dX10_wouldBe_29 rfl rfl) <| z_cons (ok_iload_n dX10_wouldBe_30 rfl rfl) <| z_cons (ok_iload dX10_wouldBe_31 rfl rfl) <| z_cons (ok_callv ⟨by decide, by decide, by decide⟩ (ci := 8) (C := RX10) (T := TX10) rfl go_11 (k := 172) (n := 2) qw_626 qw_618 ⟨by decide +kernel, by decide +kernel, by decide +kernel⟩ (Nat.le_of_ble_eq_true rfl) qw_627 qw_628 qw_629 dX10_wouldBe_33 rfl rfl) <| z_cons (ok_if_eq (tgt := 50) (by decide) rfl dX10_wouldBe_36 rfl rfl) <| z_cons (ok_aload_n dX10_wouldBe_39 rfl rfl) <| z_cons (ok_iload dX10_wouldBe_40 rfl rfl) <| z_cons (ok_iload_n dX10_wouldBe_42 rfl rfl) <| z_cons (ok_callv ⟨by decide, by decide, by decide⟩ (ci := 8) (C := RX10) (T := TX10) rfl go_11 (k := 174) (n := 2) qw_630 qw_618 ⟨by decide +kernel, by decide +kernel, by decide +kernel⟩ (Nat.le_of_ble_eq_true rfl) qw_631 qw_632 qw_633 dX10_wouldBe_43 rfl rfl) <| z_cons (ok_iload_n dX10_wouldBe_46 rfl rfl) <| z_cons (ok_icmp_eq (tgt := 52) (by decide) rfl dX10_wouldBe_47 rfl rfl) <| z_cons (ok_iconst (by decide) dX10_wouldBe_50 rfl rfl) <| z_cons (ok_zret rfl dX10_wouldBe_51 rfl) <| z_cons (ok_iload dX10_wouldBe_52 rfl rfl) <| z_cons (ok_if_eq (tgt := 87) (by decide) rfl dX10_wouldBe_54 rfl rfl) <| z_cons (ok_iload dX10_wouldBe_57 rfl rfl) <| z_cons (ok_iconst (by decide) dX10_wouldBe_59 rfl rfl) <| z_cons (ok_icmp_ne (tgt := 67) (by decide) rfl dX10_wouldBe_60 rfl rfl) <| z_cons (ok_iconst (by decide) dX10_wouldBe_63 rfl rfl) <| z_cons (ok_goto (tgt := 68) (by decide) rfl dX10_wouldBe_64 rfl) <| z_cons (ok_iconst (by decide) dX10_wouldBe_67 rfl rfl) <| z_cons (ok_aload_n dX10_wouldBe_68 rfl rfl) <| z_cons (ok_iload dX10_wouldBe_69 rfl rfl) <| z_cons (ok_iconst (by decide) dX10_wouldBe_71 rfl rfl) <| z_cons (ok_callv ⟨by decide, by decide, by decide⟩ (ci := 8) (C := RX10) (T := TX10) rfl go_11 (k := 174) (n := 2) qw_630 qw_618 ⟨by decide +kernel, by decide +kernel, by decide +kernel⟩ (Nat.le_of_ble_eq_true rfl) qw_631 qw_632 qw_633 dX10_wouldBe_72 rfl rfl) <| zl_X10_wouldBe_1
theorem dX10_canAsk_0 : decode cX10_canAsk 0 = .ok (.iload_n 0, 1) := by decide +kernel
theorem dX10_canAsk_1 : decode cX10_canAsk 1 = .ok (.invokestatic 64, 3) := by decide +kernel
theorem dX10_canAsk_4 : decode cX10_canAsk 4 = .ok (.ifCond .eq 34, 3) := by decide +kernel
theorem dX10_canAsk_7 : decode cX10_canAsk 7 = .ok (.iload_n 1, 1) := by decide +kernel
theorem dX10_canAsk_8 : decode cX10_canAsk 8 = .ok (.iconst 0, 1) := by decide +kernel
theorem dX10_canAsk_9 : decode cX10_canAsk 9 = .ok (.iconst 3, 1) := by decide +kernel
theorem dX10_canAsk_10 : decode cX10_canAsk 10 = .ok (.invokestatic 32, 3) := by decide +kernel
theorem dX10_canAsk_13 : decode cX10_canAsk 13 = .ok (.ifCond .eq 25, 3) := by decide +kernel
theorem dX10_canAsk_16 : decode cX10_canAsk 16 = .ok (.iload_n 2, 1) := by decide +kernel
theorem dX10_canAsk_17 : decode cX10_canAsk 17 = .ok (.iconst 0, 1) := by decide +kernel
theorem dX10_canAsk_18 : decode cX10_canAsk 18 = .ok (.iconst 1, 1) := by decide +kernel
theorem dX10_canAsk_19 : decode cX10_canAsk 19 = .ok (.invokestatic 32, 3) := by decide +kernel
theorem dX10_canAsk_22 : decode cX10_canAsk 22 = .ok (.ifCond .eq 16, 3) := by decide +kernel
theorem dX10_canAsk_25 : decode cX10_canAsk 25 = .ok (.iload_n 3, 1) := by decide +kernel
theorem dX10_canAsk_26 : decode cX10_canAsk 26 = .ok (.iconst 0, 1) := by decide +kernel
theorem dX10_canAsk_27 : decode cX10_canAsk 27 = .ok (.iconst 2, 1) := by decide +kernel
theorem dX10_canAsk_28 : decode cX10_canAsk 28 = .ok (.invokestatic 32, 3) := by decide +kernel
theorem dX10_canAsk_31 : decode cX10_canAsk 31 = .ok (.ifCond .eq 7, 3) := by decide +kernel
theorem dX10_canAsk_34 : decode cX10_canAsk 34 = .ok (.iconst 1, 1) := by decide +kernel
theorem dX10_canAsk_35 : decode cX10_canAsk 35 = .ok (.goto 4, 3) := by decide +kernel
theorem dX10_canAsk_38 : decode cX10_canAsk 38 = .ok (.iconst 0, 1) := by decide +kernel
theorem dX10_canAsk_39 : decode cX10_canAsk 39 = .ok (.ireturn, 1) := by decide +kernel
set_option maxRecDepth 20000 in
theorem zl_X10_canAsk_0 : z_All z_tab cX10_canAsk 4 (some .boolean) RX10 pc_X10_canAsk 0 (k_X10_canAsk.drop 0) := z_cons (ok_iload_n dX10_canAsk_0 rfl rfl) <| z_cons (ok_callS (k := 166) (n := 1) qw_650 qw_618 ⟨by decide +kernel, by decide +kernel, by decide +kernel⟩ (Nat.le_of_ble_eq_true rfl) qw_652 qw_651 dX10_canAsk_1 rfl rfl) <| z_cons (ok_if_eq (tgt := 38) (by decide) rfl dX10_canAsk_4 rfl rfl) <| z_cons (ok_iload_n dX10_canAsk_7 rfl rfl) <| z_cons (ok_iconst (by decide) dX10_canAsk_8 rfl rfl) <| z_cons (ok_iconst (by decide) dX10_canAsk_9 rfl rfl) <| z_cons (ok_callS (k := 162) (n := 3) qw_617 qw_618 ⟨by decide +kernel, by decide +kernel, by decide +kernel⟩ (Nat.le_of_ble_eq_true rfl) qw_620 qw_619 dX10_canAsk_10 rfl rfl) <| z_cons (ok_if_eq (tgt := 38) (by decide) rfl dX10_canAsk_13 rfl rfl) <| z_cons (ok_iload_n dX10_canAsk_16 rfl rfl) <| z_cons (ok_iconst (by decide) dX10_canAsk_17 rfl rfl) <| z_cons (ok_iconst (by decide) dX10_canAsk_18 rfl rfl) <| z_cons (ok_callS (k := 162) (n := 3) qw_617 qw_618 ⟨by decide +kernel, by decide +kernel, by decide +kernel⟩ (Nat.le_of_ble_eq_true rfl) qw_620 qw_619 dX10_canAsk_19 rfl rfl) <| z_cons (ok_if_eq (tgt := 38) (by decide) rfl dX10_canAsk_22 rfl rfl) <| z_cons (ok_iload_n dX10_canAsk_25 rfl rfl) <| z_cons (ok_iconst (by decide) dX10_canAsk_26 rfl rfl) <| z_cons (ok_iconst (by decide) dX10_canAsk_27 rfl rfl) <| z_cons (ok_callS (k := 162) (n := 3) qw_617 qw_618 ⟨by decide +kernel, by decide +kernel, by decide +kernel⟩ (Nat.le_of_ble_eq_true rfl) qw_620 qw_619 dX10_canAsk_28 rfl rfl) <| z_cons (ok_if_eq (tgt := 38) (by decide) rfl dX10_canAsk_31 rfl rfl) <| z_cons (ok_iconst (by decide) dX10_canAsk_34 rfl rfl) <| z_cons (ok_goto (tgt := 39) (by decide) rfl dX10_canAsk_35 rfl) <| z_cons (ok_iconst (by decide) dX10_canAsk_38 rfl rfl) <| z_cons (ok_zret rfl dX10_canAsk_39 rfl) <| z_nil
