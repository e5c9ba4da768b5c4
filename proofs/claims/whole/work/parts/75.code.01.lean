theorem dX3_tell_0 : decode cX3_tell 0 = .ok (.iload_n 1, 1) := by decide +kernel
theorem dX3_tell_1 : decode cX3_tell 1 = .ok (.ifCond .ne 21, 3) := by decide +kernel
theorem dX3_tell_4 : decode cX3_tell 4 = .ok (.iload_n 2, 1) := by decide +kernel
theorem dX3_tell_5 : decode cX3_tell 5 = .ok (.ifCond .lt 17, 3) := by decide +kernel
theorem dX3_tell_8 : decode cX3_tell 8 = .ok (.iload_n 2, 1) := by decide +kernel
theorem dX3_tell_9 : decode cX3_tell 9 = .ok (.bipush 64, 2) := by decide +kernel
theorem dX3_tell_11 : decode cX3_tell 11 = .ok (.if_icmp .gt 11, 3) := by decide +kernel
theorem dX3_tell_14 : decode cX3_tell 14 = .ok (.aload_n 0, 1) := by decide +kernel
theorem dX3_tell_15 : decode cX3_tell 15 = .ok (.iload_n 2, 1) := by decide +kernel
theorem dX3_tell_16 : decode cX3_tell 16 = .ok (.putfield 9, 3) := by decide +kernel
theorem dX3_tell_19 : decode cX3_tell 19 = .ok (.goto 51, 3) := by decide +kernel
theorem dX3_tell_22 : decode cX3_tell 22 = .ok (.iload_n 1, 1) := by decide +kernel
theorem dX3_tell_23 : decode cX3_tell 23 = .ok (.iconst 1, 1) := by decide +kernel
theorem dX3_tell_24 : decode cX3_tell 24 = .ok (.if_icmp .ne 22, 3) := by decide +kernel
theorem dX3_tell_27 : decode cX3_tell 27 = .ok (.iload_n 2, 1) := by decide +kernel
theorem dX3_tell_28 : decode cX3_tell 28 = .ok (.iconst 1, 1) := by decide +kernel
theorem dX3_tell_29 : decode cX3_tell 29 = .ok (.if_icmp .lt 17, 3) := by decide +kernel
theorem dX3_tell_32 : decode cX3_tell 32 = .ok (.iload_n 2, 1) := by decide +kernel
theorem dX3_tell_33 : decode cX3_tell 33 = .ok (.bipush 8, 2) := by decide +kernel
theorem dX3_tell_35 : decode cX3_tell 35 = .ok (.if_icmp .gt 11, 3) := by decide +kernel
theorem dX3_tell_38 : decode cX3_tell 38 = .ok (.aload_n 0, 1) := by decide +kernel
theorem dX3_tell_39 : decode cX3_tell 39 = .ok (.iload_n 2, 1) := by decide +kernel
theorem dX3_tell_40 : decode cX3_tell 40 = .ok (.putfield 15, 3) := by decide +kernel
theorem dX3_tell_43 : decode cX3_tell 43 = .ok (.goto 27, 3) := by decide +kernel
theorem dX3_tell_46 : decode cX3_tell 46 = .ok (.iload_n 1, 1) := by decide +kernel
theorem dX3_tell_47 : decode cX3_tell 47 = .ok (.iconst 2, 1) := by decide +kernel
theorem dX3_tell_48 : decode cX3_tell 48 = .ok (.if_icmp .ne 20, 3) := by decide +kernel
theorem dX3_tell_51 : decode cX3_tell 51 = .ok (.iload_n 2, 1) := by decide +kernel
theorem dX3_tell_52 : decode cX3_tell 52 = .ok (.ifCond .lt 16, 3) := by decide +kernel
theorem dX3_tell_55 : decode cX3_tell 55 = .ok (.iload_n 2, 1) := by decide +kernel
theorem dX3_tell_56 : decode cX3_tell 56 = .ok (.iconst 4, 1) := by decide +kernel
theorem dX3_tell_57 : decode cX3_tell 57 = .ok (.if_icmp .ge 11, 3) := by decide +kernel
theorem dX3_tell_60 : decode cX3_tell 60 = .ok (.aload_n 0, 1) := by decide +kernel
theorem dX3_tell_61 : decode cX3_tell 61 = .ok (.iload_n 2, 1) := by decide +kernel
theorem dX3_tell_62 : decode cX3_tell 62 = .ok (.putfield 59, 3) := by decide +kernel
theorem dX3_tell_65 : decode cX3_tell 65 = .ok (.goto 5, 3) := by decide +kernel
theorem dX3_tell_68 : decode cX3_tell 68 = .ok (.iconst 0, 1) := by decide +kernel
theorem dX3_tell_69 : decode cX3_tell 69 = .ok (.ireturn, 1) := by decide +kernel
theorem dX3_tell_70 : decode cX3_tell 70 = .ok (.iconst 1, 1) := by decide +kernel
theorem dX3_tell_71 : decode cX3_tell 71 = .ok (.ireturn, 1) := by decide +kernel
set_option maxRecDepth 20000 in
theorem zl_X3_tell_0 : z_All z_tab cX3_tell 3 (some .boolean) RX3 pc_X3_tell 0 (k_X3_tell.drop 0) := z_cons (ok_iload_n dX3_tell_0 rfl rfl) <| z_cons (ok_if_ne (tgt := 22) (by decide) rfl dX3_tell_1 rfl rfl) <| z_cons (ok_iload_n dX3_tell_4 rfl rfl) <| z_cons (ok_if_lt (tgt := 22) (by decide) rfl dX3_tell_5 rfl rfl) <| z_cons (ok_iload_n dX3_tell_8 rfl rfl) <| z_cons (ok_bipush (by decide) dX3_tell_9 rfl rfl) <| z_cons (ok_icmp_gt (tgt := 22) (by decide) rfl dX3_tell_11 rfl rfl) <| z_cons (ok_aload_n dX3_tell_14 rfl rfl) <| z_cons (ok_iload_n dX3_tell_15 rfl rfl) <| z_cons (ok_put ⟨by decide, by decide, by decide⟩ (ci := 3) (T := TX3) rfl rfl (Nat.le_of_ble_eq_true rfl) iw_X3 qw_76 tyX3_ok nmX3 rfl pv_4_2 rfl dX3_tell_16 rfl rfl) <| z_cons (ok_goto (tgt := 70) (by decide) rfl dX3_tell_19 rfl) <| z_cons (ok_iload_n dX3_tell_22 rfl rfl) <| z_cons (ok_iconst (by decide) dX3_tell_23 rfl rfl) <| z_cons (ok_icmp_ne (tgt := 46) (by decide) rfl dX3_tell_24 rfl rfl) <| z_cons (ok_iload_n dX3_tell_27 rfl rfl) <| z_cons (ok_iconst (by decide) dX3_tell_28 rfl rfl) <| z_cons (ok_icmp_lt (tgt := 46) (by decide) rfl dX3_tell_29 rfl rfl) <| z_cons (ok_iload_n dX3_tell_32 rfl rfl) <| z_cons (ok_bipush (by decide) dX3_tell_33 rfl rfl) <| z_cons (ok_icmp_gt (tgt := 46) (by decide) rfl dX3_tell_35 rfl rfl) <| z_cons (ok_aload_n dX3_tell_38 rfl rfl) <| z_cons (ok_iload_n dX3_tell_39 rfl rfl) <| z_cons (ok_put ⟨by decide, by decide, by decide⟩ (ci := 3) (T := TX3) rfl rfl (Nat.le_of_ble_eq_true rfl) iw_X3 qw_77 tyX3_ok nmX3 rfl pv_4_3 rfl dX3_tell_40 rfl rfl) <| z_cons (ok_goto (tgt := 70) (by decide) rfl dX3_tell_43 rfl) <| z_cons (ok_iload_n dX3_tell_46 rfl rfl) <| z_cons (ok_iconst (by decide) dX3_tell_47 rfl rfl) <| z_cons (ok_icmp_ne (tgt := 68) (by decide) rfl dX3_tell_48 rfl rfl) <| z_cons (ok_iload_n dX3_tell_51 rfl rfl) <| z_cons (ok_if_lt (tgt := 68) (by decide) rfl dX3_tell_52 rfl rfl) <| z_cons (ok_iload_n dX3_tell_55 rfl rfl) <| z_cons (ok_iconst (by decide) dX3_tell_56 rfl rfl) <| z_cons (ok_icmp_ge (tgt := 68) (by decide) rfl dX3_tell_57 rfl rfl) <| z_cons (ok_aload_n dX3_tell_60 rfl rfl) <| z_cons (ok_iload_n dX3_tell_61 rfl rfl) <| z_cons (ok_put ⟨by decide, by decide, by decide⟩ (ci := 3) (T := TX3) rfl rfl (Nat.le_of_ble_eq_true rfl) iw_X3 qw_78 tyX3_ok nmX3 rfl pv_4_4 rfl dX3_tell_62 rfl rfl) <| z_cons (ok_goto (tgt := 70) (by decide) rfl dX3_tell_65 rfl) <| z_cons (ok_iconst (by decide) dX3_tell_68 rfl rfl) <| z_cons (ok_zret rfl dX3_tell_69 rfl) <| z_cons (ok_iconst (by decide) dX3_tell_70 rfl rfl) <| z_cons (ok_zret rfl dX3_tell_71 rfl) <| z_nil
theorem dX3_start_0 : decode cX3_start 0 = .ok (.aload_n 0, 1) := by decide +kernel
theorem dX3_start_1 : decode cX3_start 1 = .ok (.iconst 1, 1) := by decide +kernel
theorem dX3_start_2 : decode cX3_start 2 = .ok (.putfield 53, 3) := by decide +kernel
theorem dX3_start_5 : decode cX3_start 5 = .ok (.aload_n 0, 1) := by decide +kernel
theorem dX3_start_6 : decode cX3_start 6 = .ok (.iload_n 1, 1) := by decide +kernel
theorem dX3_start_7 : decode cX3_start 7 = .ok (.putfield 62, 3) := by decide +kernel
theorem dX3_start_10 : decode cX3_start 10 = .ok (.aload_n 0, 1) := by decide +kernel
theorem dX3_start_11 : decode cX3_start 11 = .ok (.iload_n 2, 1) := by decide +kernel
theorem dX3_start_12 : decode cX3_start 12 = .ok (.putfield 65, 3) := by decide +kernel
theorem dX3_start_15 : decode cX3_start 15 = .ok (.aload_n 0, 1) := by decide +kernel
theorem dX3_start_16 : decode cX3_start 16 = .ok (.iload_n 3, 1) := by decide +kernel
theorem dX3_start_17 : decode cX3_start 17 = .ok (.putfield 68, 3) := by decide +kernel
theorem dX3_start_20 : decode cX3_start 20 = .ok (.aload_n 0, 1) := by decide +kernel
theorem dX3_start_21 : decode cX3_start 21 = .ok (.iload 4, 2) := by decide +kernel
theorem dX3_start_23 : decode cX3_start 23 = .ok (.putfield 56, 3) := by decide +kernel
theorem dX3_start_26 : decode cX3_start 26 = .ok (.aload_n 0, 1) := by decide +kernel
theorem dX3_start_27 : decode cX3_start 27 = .ok (.iconst 0, 1) := by decide +kernel
theorem dX3_start_28 : decode cX3_start 28 = .ok (.putfield 71, 3) := by decide +kernel
theorem dX3_start_31 : decode cX3_start 31 = .ok (.aload_n 0, 1) := by decide +kernel
theorem dX3_start_32 : decode cX3_start 32 = .ok (.iconst 0, 1) := by decide +kernel
theorem dX3_start_33 : decode cX3_start 33 = .ok (.putfield 74, 3) := by decide +kernel
theorem dX3_start_36 : decode cX3_start 36 = .ok (.aload_n 0, 1) := by decide +kernel
theorem dX3_start_37 : decode cX3_start 37 = .ok (.getfield 21, 3) := by decide +kernel
theorem dX3_start_40 : decode cX3_start 40 = .ok (.invokevirtual 77, 3) := by decide +kernel
theorem dX3_start_43 : decode cX3_start 43 = .ok (.aload_n 0, 1) := by decide +kernel
theorem dX3_start_44 : decode cX3_start 44 = .ok (.getfield 39, 3) := by decide +kernel
theorem dX3_start_47 : decode cX3_start 47 = .ok (.invokevirtual 80, 3) := by decide +kernel
theorem dX3_start_50 : decode cX3_start 50 = .ok (.return_, 1) := by decide +kernel
set_option maxRecDepth 20000 in
theorem zl_X3_start_0 : z_All z_tab cX3_start 5 none RX3 pc_X3_start 0 (k_X3_start.drop 0) := z_cons (ok_aload_n dX3_start_0 rfl rfl) <| z_cons (ok_iconst (by decide) dX3_start_1 rfl rfl) <| z_cons (ok_putz ⟨by decide, by decide, by decide⟩ (ci := 3) (T := TX3) rfl rfl (Nat.le_of_ble_eq_true rfl) iw_X3 qw_74 tyX3_ok nmX3 rfl pv_4_1 rfl dX3_start_2 rfl rfl) <| z_cons (ok_aload_n dX3_start_5 rfl rfl) <| z_cons (ok_iload_n dX3_start_6 rfl rfl) <| z_cons (ok_put ⟨by decide, by decide, by decide⟩ (ci := 3) (T := TX3) rfl rfl (Nat.le_of_ble_eq_true rfl) iw_X3 qw_79 tyX3_ok nmX3 rfl pv_4_5 rfl dX3_start_7 rfl rfl) <| z_cons (ok_aload_n dX3_start_10 rfl rfl) <| z_cons (ok_iload_n dX3_start_11 rfl rfl) <| z_cons (ok_put ⟨by decide, by decide, by decide⟩ (ci := 3) (T := TX3) rfl rfl (Nat.le_of_ble_eq_true rfl) iw_X3 qw_80 tyX3_ok nmX3 rfl pv_4_6 rfl dX3_start_12 rfl rfl) <| z_cons (ok_aload_n dX3_start_15 rfl rfl) <| z_cons (ok_iload_n dX3_start_16 rfl rfl) <| z_cons (ok_put ⟨by decide, by decide, by decide⟩ (ci := 3) (T := TX3) rfl rfl (Nat.le_of_ble_eq_true rfl) iw_X3 qw_81 tyX3_ok nmX3 rfl pv_4_7 rfl dX3_start_17 rfl rfl) <| z_cons (ok_aload_n dX3_start_20 rfl rfl) <| z_cons (ok_iload dX3_start_21 rfl rfl) <| z_cons (ok_put ⟨by decide, by decide, by decide⟩ (ci := 3) (T := TX3) rfl rfl (Nat.le_of_ble_eq_true rfl) iw_X3 qw_75 tyX3_ok nmX3 rfl pv_4_8 rfl dX3_start_23 rfl rfl) <| z_cons (ok_aload_n dX3_start_26 rfl rfl) <| z_cons (ok_iconst (by decide) dX3_start_27 rfl rfl) <| z_cons (ok_put ⟨by decide, by decide, by decide⟩ (ci := 3) (T := TX3) rfl rfl (Nat.le_of_ble_eq_true rfl) iw_X3 qw_82 tyX3_ok nmX3 rfl pv_4_10 rfl dX3_start_28 rfl rfl) <| z_cons (ok_aload_n dX3_start_31 rfl rfl) <| z_cons (ok_iconst (by decide) dX3_start_32 rfl rfl) <| z_cons (ok_put ⟨by decide, by decide, by decide⟩ (ci := 3) (T := TX3) rfl rfl (Nat.le_of_ble_eq_true rfl) iw_X3 qw_83 tyX3_ok nmX3 rfl pv_4_11 rfl dX3_start_33 rfl rfl) <| z_cons (ok_aload_n dX3_start_36 rfl rfl) <| z_cons (ok_getr (k := 12) ⟨by decide, by decide, by decide⟩ (ci := 3) (T := TX3) rfl rfl (Nat.le_of_ble_eq_true rfl) iw_X3 qw_84 gr_4_12 (fun _ _ => by simp) (fun w i => List.mem_of_getElem? (i := 0) rfl) dX3_start_37 rfl rfl) <| z_cons (ok_callv ⟨by decide, by decide, by decide⟩ (ci := 5) (C := RX7) (T := TX7) rfl go_8 (k := 87) (n := 0) qw_85 qw_86 ⟨by decide +kernel, by decide +kernel, by decide +kernel⟩ (Nat.le_of_ble_eq_true rfl) qw_87 qw_88 qw_89 dX3_start_40 rfl rfl) <| z_cons (ok_aload_n dX3_start_43 rfl rfl) <| z_cons (ok_getr (k := 16) ⟨by decide, by decide, by decide⟩ (ci := 3) (T := TX3) rfl rfl (Nat.le_of_ble_eq_true rfl) iw_X3 qw_90 gr_4_16 (fun _ _ => by simp) (fun w i => List.mem_of_getElem? (i := 4) rfl) dX3_start_44 rfl rfl) <| z_cons (ok_callv ⟨by decide, by decide, by decide⟩ (ci := 2) (C := RX2) (T := TX2) rfl go_3 (k := 19) (n := 0) qw_55 qw_42 ⟨by decide +kernel, by decide +kernel, by decide +kernel⟩ (Nat.le_of_ble_eq_true rfl) qw_91 qw_57 qw_58 dX3_start_47 rfl rfl) <| z_cons (ok_ret rfl dX3_start_50 rfl) <| z_nil
theorem dX3_rest_0 : decode cX3_rest 0 = .ok (.aload_n 0, 1) := by decide +kernel
theorem dX3_rest_1 : decode cX3_rest 1 = .ok (.iconst 0, 1) := by decide +kernel
theorem dX3_rest_2 : decode cX3_rest 2 = .ok (.putfield 53, 3) := by decide +kernel
theorem dX3_rest_5 : decode cX3_rest 5 = .ok (.aload_n 0, 1) := by decide +kernel
theorem dX3_rest_6 : decode cX3_rest 6 = .ok (.getfield 35, 3) := by decide +kernel
theorem dX3_rest_9 : decode cX3_rest 9 = .ok (.invokevirtual 80, 3) := by decide +kernel
theorem dX3_rest_12 : decode cX3_rest 12 = .ok (.aload_n 0, 1) := by decide +kernel
theorem dX3_rest_13 : decode cX3_rest 13 = .ok (.getfield 25, 3) := by decide +kernel
theorem dX3_rest_16 : decode cX3_rest 16 = .ok (.invokevirtual 77, 3) := by decide +kernel
theorem dX3_rest_19 : decode cX3_rest 19 = .ok (.return_, 1) := by decide +kernel
set_option maxRecDepth 20000 in
theorem zl_X3_rest_0 : z_All z_tab cX3_rest 1 none RX3 pc_X3_rest 0 (k_X3_rest.drop 0) := z_cons (ok_aload_n dX3_rest_0 rfl rfl) <| z_cons (ok_iconst (by decide) dX3_rest_1 rfl rfl) <| z_cons (ok_putz ⟨by decide, by decide, by decide⟩ (ci := 3) (T := TX3) rfl rfl (Nat.le_of_ble_eq_true rfl) iw_X3 qw_74 tyX3_ok nmX3 rfl pv_4_1 rfl dX3_rest_2 rfl rfl) <| z_cons (ok_aload_n dX3_rest_5 rfl rfl) <| z_cons (ok_getr (k := 15) ⟨by decide, by decide, by decide⟩ (ci := 3) (T := TX3) rfl rfl (Nat.le_of_ble_eq_true rfl) iw_X3 qw_92 gr_4_15 (fun _ _ => by simp) (fun w i => List.mem_of_getElem? (i := 3) rfl) dX3_rest_6 rfl rfl) <| z_cons (ok_callv ⟨by decide, by decide, by decide⟩ (ci := 2) (C := RX2) (T := TX2) rfl go_3 (k := 19) (n := 0) qw_55 qw_42 ⟨by decide +kernel, by decide +kernel, by decide +kernel⟩ (Nat.le_of_ble_eq_true rfl) qw_91 qw_57 qw_58 dX3_rest_9 rfl rfl) <| z_cons (ok_aload_n dX3_rest_12 rfl rfl) <| z_cons (ok_getr (k := 13) ⟨by decide, by decide, by decide⟩ (ci := 3) (T := TX3) rfl rfl (Nat.le_of_ble_eq_true rfl) iw_X3 qw_93 gr_4_13 (fun _ _ => by simp) (fun w i => List.mem_of_getElem? (i := 1) rfl) dX3_rest_13 rfl rfl) <| z_cons (ok_callv ⟨by decide, by decide, by decide⟩ (ci := 5) (C := RX7) (T := TX7) rfl go_8 (k := 87) (n := 0) qw_85 qw_86 ⟨by decide +kernel, by decide +kernel, by decide +kernel⟩ (Nat.le_of_ble_eq_true rfl) qw_87 qw_88 qw_89 dX3_rest_16 rfl rfl) <| z_cons (ok_ret rfl dX3_rest_19 rfl) <| z_nil
theorem dX3_noteRead_0 : decode cX3_noteRead 0 = .ok (.aload_n 0, 1) := by decide +kernel
theorem dX3_noteRead_1 : decode cX3_noteRead 1 = .ok (.getfield 21, 3) := by decide +kernel
theorem dX3_noteRead_4 : decode cX3_noteRead 4 = .ok (.getfield 81, 3) := by decide +kernel
theorem dX3_noteRead_7 : decode cX3_noteRead 7 = .ok (.ifCond .lt 28, 3) := by decide +kernel
theorem dX3_noteRead_10 : decode cX3_noteRead 10 = .ok (.aload_n 0, 1) := by decide +kernel
theorem dX3_noteRead_11 : decode cX3_noteRead 11 = .ok (.getfield 21, 3) := by decide +kernel
theorem dX3_noteRead_14 : decode cX3_noteRead 14 = .ok (.getfield 81, 3) := by decide +kernel
theorem dX3_noteRead_17 : decode cX3_noteRead 17 = .ok (.bipush 24, 2) := by decide +kernel
theorem dX3_noteRead_19 : decode cX3_noteRead 19 = .ok (.if_icmp .ge 16, 3) := by decide +kernel
theorem dX3_noteRead_22 : decode cX3_noteRead 22 = .ok (.aload_n 0, 1) := by decide +kernel
theorem dX3_noteRead_23 : decode cX3_noteRead 23 = .ok (.getfield 28, 3) := by decide +kernel
theorem dX3_noteRead_26 : decode cX3_noteRead 26 = .ok (.aload_n 0, 1) := by decide +kernel
theorem dX3_noteRead_27 : decode cX3_noteRead 27 = .ok (.getfield 21, 3) := by decide +kernel
theorem dX3_noteRead_30 : decode cX3_noteRead 30 = .ok (.getfield 81, 3) := by decide +kernel
theorem dX3_noteRead_33 : decode cX3_noteRead 33 = .ok (.iload_n 1, 1) := by decide +kernel
theorem dX3_noteRead_34 : decode cX3_noteRead 34 = .ok (.iastore, 1) := by decide +kernel
theorem dX3_noteRead_35 : decode cX3_noteRead 35 = .ok (.return_, 1) := by decide +kernel
set_option maxRecDepth 20000 in
theorem zl_X3_noteRead_0 : z_All z_tab cX3_noteRead 2 none RX3 pc_X3_noteRead 0 (k_X3_noteRead.drop 0) := z_cons (ok_aload_n dX3_noteRead_0 rfl rfl) <| z_cons (ok_getr (k := 12) ⟨by decide, by decide, by decide⟩ (ci := 3) (T := TX3) rfl rfl (Nat.le_of_ble_eq_true rfl) iw_X3 qw_84 gr_4_12 (fun _ _ => by simp) (fun w i => List.mem_of_getElem? (i := 0) rfl) dX3_noteRead_1 rfl rfl) <| z_cons (ok_get ⟨by decide, by decide, by decide⟩ (ci := 5) (T := TX7) rfl rfl (Nat.le_of_ble_eq_true rfl) iw_X7 qw_94 gv_8_1 dX3_noteRead_4 rfl rfl) <| z_cons (ok_if_lt (tgt := 35) (by decide) rfl dX3_noteRead_7 rfl rfl) <| z_cons (ok_aload_n dX3_noteRead_10 rfl rfl) <| z_cons (ok_getr (k := 12) ⟨by decide, by decide, by decide⟩ (ci := 3) (T := TX3) rfl rfl (Nat.le_of_ble_eq_true rfl) iw_X3 qw_84 gr_4_12 (fun _ _ => by simp) (fun w i => List.mem_of_getElem? (i := 0) rfl) dX3_noteRead_11 rfl rfl) <| z_cons (ok_get ⟨by decide, by decide, by decide⟩ (ci := 5) (T := TX7) rfl rfl (Nat.le_of_ble_eq_true rfl) iw_X7 qw_94 gv_8_1 dX3_noteRead_14 rfl rfl) <| z_cons (ok_bipush (by decide) dX3_noteRead_17 rfl rfl) <| z_cons (ok_icmp_ge (tgt := 35) (by decide) rfl dX3_noteRead_19 rfl rfl) <| z_cons (ok_aload_n dX3_noteRead_22 rfl rfl) <| z_cons (ok_getr (k := 14) ⟨by decide, by decide, by decide⟩ (ci := 3) (T := TX3) rfl rfl (Nat.le_of_ble_eq_true rfl) iw_X3 qw_95 gr_4_14 (fun _ _ => by simp) (fun w i => List.mem_of_getElem? (i := 2) rfl) dX3_noteRead_23 rfl rfl) <| z_cons (ok_aload_n dX3_noteRead_26 rfl rfl) <| z_cons (ok_getr (k := 12) ⟨by decide, by decide, by decide⟩ (ci := 3) (T := TX3) rfl rfl (Nat.le_of_ble_eq_true rfl) iw_X3 qw_84 gr_4_12 (fun _ _ => by simp) (fun w i => List.mem_of_getElem? (i := 0) rfl) dX3_noteRead_27 rfl rfl) <| z_cons (ok_get ⟨by decide, by decide, by decide⟩ (ci := 5) (T := TX7) rfl rfl (Nat.le_of_ble_eq_true rfl) iw_X7 qw_94 gv_8_1 dX3_noteRead_30 rfl rfl) <| z_cons (ok_iload_n dX3_noteRead_33 rfl rfl) <| z_cons (ok_iast dX3_noteRead_34 rfl rfl) <| z_cons (ok_ret rfl dX3_noteRead_35 rfl) <| z_nil
theorem dX3_readSet_0 : decode cX3_readSet 0 = .ok (.iconst 0, 1) := by decide +kernel
theorem dX3_readSet_1 : decode cX3_readSet 1 = .ok (.istore_n 1, 1) := by decide +kernel
theorem dX3_readSet_2 : decode cX3_readSet 2 = .ok (.iconst 0, 1) := by decide +kernel
theorem dX3_readSet_3 : decode cX3_readSet 3 = .ok (.istore_n 2, 1) := by decide +kernel
theorem dX3_readSet_4 : decode cX3_readSet 4 = .ok (.iload_n 2, 1) := by decide +kernel
theorem dX3_readSet_5 : decode cX3_readSet 5 = .ok (.aload_n 0, 1) := by decide +kernel
theorem dX3_readSet_6 : decode cX3_readSet 6 = .ok (.getfield 21, 3) := by decide +kernel
theorem dX3_readSet_9 : decode cX3_readSet 9 = .ok (.getfield 81, 3) := by decide +kernel
theorem dX3_readSet_12 : decode cX3_readSet 12 = .ok (.if_icmp .ge 26, 3) := by decide +kernel
theorem dX3_readSet_15 : decode cX3_readSet 15 = .ok (.iload_n 2, 1) := by decide +kernel
theorem dX3_readSet_16 : decode cX3_readSet 16 = .ok (.bipush 24, 2) := by decide +kernel
theorem dX3_readSet_18 : decode cX3_readSet 18 = .ok (.if_icmp .ge 20, 3) := by decide +kernel
theorem dX3_readSet_21 : decode cX3_readSet 21 = .ok (.iload_n 1, 1) := by decide +kernel
theorem dX3_readSet_22 : decode cX3_readSet 22 = .ok (.iconst 1, 1) := by decide +kernel
theorem dX3_readSet_23 : decode cX3_readSet 23 = .ok (.aload_n 0, 1) := by decide +kernel
theorem dX3_readSet_24 : decode cX3_readSet 24 = .ok (.getfield 28, 3) := by decide +kernel
theorem dX3_readSet_27 : decode cX3_readSet 27 = .ok (.iload_n 2, 1) := by decide +kernel
theorem dX3_readSet_28 : decode cX3_readSet 28 = .ok (.iaload, 1) := by decide +kernel
theorem dX3_readSet_29 : decode cX3_readSet 29 = .ok (.ishl, 1) := by decide +kernel
theorem dX3_readSet_30 : decode cX3_readSet 30 = .ok (.ior, 1) := by decide +kernel
theorem dX3_readSet_31 : decode cX3_readSet 31 = .ok (.istore_n 1, 1) := by decide +kernel
theorem dX3_readSet_32 : decode cX3_readSet 32 = .ok (.iinc 2 1, 3) := by decide +kernel
theorem dX3_readSet_35 : decode cX3_readSet 35 = .ok (.goto (-31), 3) := by decide +kernel
theorem dX3_readSet_38 : decode cX3_readSet 38 = .ok (.iload_n 1, 1) := by decide +kernel
theorem dX3_readSet_39 : decode cX3_readSet 39 = .ok (.ireturn, 1) := by decide +kernel
set_option maxRecDepth 20000 in
theorem zl_X3_readSet_0 : z_All z_tab cX3_readSet 3 (some .int) RX3 pc_X3_readSet 0 (k_X3_readSet.drop 0) := z_cons (ok_iconst (by decide) dX3_readSet_0 rfl rfl) <| z_cons (ok_istore_n (Nat.le_of_ble_eq_true rfl) dX3_readSet_1 rfl rfl) <| z_cons (ok_iconst (by decide) dX3_readSet_2 rfl rfl) <| z_cons (ok_istore_n (Nat.le_of_ble_eq_true rfl) dX3_readSet_3 rfl rfl) <| z_cons (ok_iload_n dX3_readSet_4 rfl rfl) <| z_cons (ok_aload_n dX3_readSet_5 rfl rfl) <| z_cons (ok_getr (k := 12) ⟨by decide, by decide, by decide⟩ (ci := 3) (T := TX3) rfl rfl (Nat.le_of_ble_eq_true rfl) iw_X3 qw_84 gr_4_12 (fun _ _ => by simp) (fun w i => List.mem_of_getElem? (i := 0) rfl) dX3_readSet_6 rfl rfl) <| z_cons (ok_get ⟨by decide, by decide, by decide⟩ (ci := 5) (T := TX7) rfl rfl (Nat.le_of_ble_eq_true rfl) iw_X7 qw_94 gv_8_1 dX3_readSet_9 rfl rfl) <| z_cons (ok_icmp_ge (tgt := 38) (by decide) rfl dX3_readSet_12 rfl rfl) <| z_cons (ok_iload_n dX3_readSet_15 rfl rfl) <| z_cons (ok_bipush (by decide) dX3_readSet_16 rfl rfl) <| z_cons (ok_icmp_ge (tgt := 38) (by decide) rfl dX3_readSet_18 rfl rfl) <| z_cons (ok_iload_n dX3_readSet_21 rfl rfl) <| z_cons (ok_iconst (by decide) dX3_readSet_22 rfl rfl) <| z_cons (ok_aload_n dX3_readSet_23 rfl rfl) <| z_cons (ok_getr (k := 14) ⟨by decide, by decide, by decide⟩ (ci := 3) (T := TX3) rfl rfl (Nat.le_of_ble_eq_true rfl) iw_X3 qw_95 gr_4_14 (fun _ _ => by simp) (fun w i => List.mem_of_getElem? (i := 2) rfl) dX3_readSet_24 rfl rfl) <| z_cons (ok_iload_n dX3_readSet_27 rfl rfl) <| z_cons (ok_iald dX3_readSet_28 rfl rfl) <| z_cons (ok_ishl dX3_readSet_29 rfl rfl) <| z_cons (ok_ior dX3_readSet_30 rfl rfl) <| z_cons (ok_istore_n (Nat.le_of_ble_eq_true rfl) dX3_readSet_31 rfl rfl) <| z_cons (ok_iinc (by decide) (Nat.le_of_ble_eq_true rfl) dX3_readSet_32 rfl rfl) <| z_cons (ok_goto (tgt := 4) (by decide) rfl dX3_readSet_35 rfl) <| z_cons (ok_iload_n dX3_readSet_38 rfl rfl) <| z_cons (ok_iret rfl dX3_readSet_39 rfl) <| z_nil
theorem dX3_share_0 : decode cX3_share 0 = .ok (.aload_n 0, 1) := by decide +kernel
theorem dX3_share_1 : decode cX3_share 1 = .ok (.getfield 21, 3) := by decide +kernel
theorem dX3_share_4 : decode cX3_share 4 = .ok (.invokevirtual 84, 3) := by decide +kernel
theorem dX3_share_7 : decode cX3_share 7 = .ok (.istore_n 2, 1) := by decide +kernel
theorem dX3_share_8 : decode cX3_share 8 = .ok (.aload_n 0, 1) := by decide +kernel
theorem dX3_share_9 : decode cX3_share 9 = .ok (.getfield 21, 3) := by decide +kernel
theorem dX3_share_12 : decode cX3_share 12 = .ok (.getfield 81, 3) := by decide +kernel
theorem dX3_share_15 : decode cX3_share 15 = .ok (.i2l, 1) := by decide +kernel
theorem dX3_share_16 : decode cX3_share 16 = .ok (.iload_n 2, 1) := by decide +kernel
theorem dX3_share_17 : decode cX3_share 17 = .ok (.i2l, 1) := by decide +kernel
theorem dX3_share_18 : decode cX3_share 18 = .ok (.invokestatic 88, 3) := by decide +kernel
theorem dX3_share_21 : decode cX3_share 21 = .ok (.lstore_n 3, 1) := by decide +kernel
theorem dX3_share_22 : decode cX3_share 22 = .ok (.iload_n 2, 1) := by decide +kernel
theorem dX3_share_23 : decode cX3_share 23 = .ok (.ifCond .eq 9, 3) := by decide +kernel
theorem dX3_share_26 : decode cX3_share 26 = .ok (.lload_n 3, 1) := by decide +kernel
theorem dX3_share_27 : decode cX3_share 27 = .ok (.lconst 0, 1) := by decide +kernel
theorem dX3_share_28 : decode cX3_share 28 = .ok (.lcmp, 1) := by decide +kernel
theorem dX3_share_29 : decode cX3_share 29 = .ok (.ifCond .ne 13, 3) := by decide +kernel
theorem dX3_share_32 : decode cX3_share 32 = .ok (.iload_n 1, 1) := by decide +kernel
theorem dX3_share_33 : decode cX3_share 33 = .ok (.ifCond .eq 7, 3) := by decide +kernel
theorem dX3_share_36 : decode cX3_share 36 = .ok (.iconst 0, 1) := by decide +kernel
theorem dX3_share_37 : decode cX3_share 37 = .ok (.goto 4, 3) := by decide +kernel
theorem dX3_share_40 : decode cX3_share 40 = .ok (.iconst 1, 1) := by decide +kernel
theorem dX3_share_41 : decode cX3_share 41 = .ok (.ireturn, 1) := by decide +kernel
theorem dX3_share_42 : decode cX3_share 42 = .ok (.iload_n 1, 1) := by decide +kernel
theorem dX3_share_43 : decode cX3_share 43 = .ok (.ifCond .eq 13, 3) := by decide +kernel
theorem dX3_share_46 : decode cX3_share 46 = .ok (.aload_n 0, 1) := by decide +kernel
theorem dX3_share_47 : decode cX3_share 47 = .ok (.getfield 21, 3) := by decide +kernel
theorem dX3_share_50 : decode cX3_share 50 = .ok (.getfield 81, 3) := by decide +kernel
theorem dX3_share_53 : decode cX3_share 53 = .ok (.goto 4, 3) := by decide +kernel
theorem dX3_share_56 : decode cX3_share 56 = .ok (.iload_n 2, 1) := by decide +kernel
theorem dX3_share_57 : decode cX3_share 57 = .ok (.i2l, 1) := by decide +kernel
theorem dX3_share_58 : decode cX3_share 58 = .ok (.lload_n 3, 1) := by decide +kernel
theorem dX3_share_59 : decode cX3_share 59 = .ok (.ldiv, 1) := by decide +kernel
theorem dX3_share_60 : decode cX3_share 60 = .ok (.l2i, 1) := by decide +kernel
theorem dX3_share_61 : decode cX3_share 61 = .ok (.ireturn, 1) := by decide +kernel
set_option maxRecDepth 20000 in
theorem zl_X3_share_0 : z_All z_tab cX3_share 5 (some .int) RX3 pc_X3_share 0 (k_X3_share.drop 0) := z_cons (ok_aload_n dX3_share_0 rfl rfl) <| z_cons (ok_getr (k := 12) ⟨by decide, by decide, by decide⟩ (ci := 3) (T := TX3) rfl rfl (Nat.le_of_ble_eq_true rfl) iw_X3 qw_84 gr_4_12 (fun _ _ => by simp) (fun w i => List.mem_of_getElem? (i := 0) rfl) dX3_share_1 rfl rfl) <| z_cons (ok_callv ⟨by decide, by decide, by decide⟩ (ci := 5) (C := RX7) (T := TX7) rfl go_8 (k := 89) (n := 0) qw_96 qw_86 ⟨by decide +kernel, by decide +kernel, by decide +kernel⟩ (Nat.le_of_ble_eq_true rfl) qw_97 qw_98 qw_99 dX3_share_4 rfl rfl) <| z_cons (ok_istore_n (Nat.le_of_ble_eq_true rfl) dX3_share_7 rfl rfl) <| z_cons (ok_aload_n dX3_share_8 rfl rfl) <| z_cons (ok_getr (k := 12) ⟨by decide, by decide, by decide⟩ (ci := 3) (T := TX3) rfl rfl (Nat.le_of_ble_eq_true rfl) iw_X3 qw_84 gr_4_12 (fun _ _ => by simp) (fun w i => List.mem_of_getElem? (i := 0) rfl) dX3_share_9 rfl rfl) <| z_cons (ok_get ⟨by decide, by decide, by decide⟩ (ci := 5) (T := TX7) rfl rfl (Nat.le_of_ble_eq_true rfl) iw_X7 qw_94 gv_8_1 dX3_share_12 rfl rfl) <| z_cons (ok_i2l dX3_share_15 rfl rfl) <| z_cons (ok_iload_n dX3_share_16 rfl rfl) <| z_cons (ok_i2l dX3_share_17 rfl rfl) <| z_cons (ok_callN (k := 161) (n := 2) qw_21 qw_22 ⟨by decide +kernel, by decide +kernel, by decide +kernel⟩ (Nat.le_of_ble_eq_true rfl) (host := "TagReaders") (by decide +kernel) qw_23 dX3_share_18 rfl rfl) <| z_cons (ok_lstore_n (Nat.le_of_ble_eq_true rfl) dX3_share_21 rfl rfl) <| z_cons (ok_iload_n dX3_share_22 rfl rfl) <| z_cons (ok_if_eq (tgt := 32) (by decide) rfl dX3_share_23 rfl rfl) <| z_cons (ok_lload_n dX3_share_26 rfl rfl) <| z_cons (ok_lconst (by decide) dX3_share_27 rfl rfl) <| z_cons (ok_lcmp dX3_share_28 rfl rfl) <| z_cons (ok_if_ne (tgt := 42) (by decide) rfl dX3_share_29 rfl rfl) <| z_cons (ok_iload_n dX3_share_32 rfl rfl) <| z_cons (ok_if_eq (tgt := 40) (by decide) rfl dX3_share_33 rfl rfl) <| z_cons (ok_iconst (by decide) dX3_share_36 rfl rfl) <| z_cons (ok_goto (tgt := 41) (by decide) rfl dX3_share_37 rfl) <| z_cons (ok_iconst (by decide) dX3_share_40 rfl rfl) <| z_cons (ok_iret rfl dX3_share_41 rfl) <| z_cons (ok_iload_n dX3_share_42 rfl rfl) <| z_cons (ok_if_eq (tgt := 56) (by decide) rfl dX3_share_43 rfl rfl) <| z_cons (ok_aload_n dX3_share_46 rfl rfl) <| z_cons (ok_getr (k := 12) ⟨by decide, by decide, by decide⟩ (ci := 3) (T := TX3) rfl rfl (Nat.le_of_ble_eq_true rfl) iw_X3 qw_84 gr_4_12 (fun _ _ => by simp) (fun w i => List.mem_of_getElem? (i := 0) rfl) dX3_share_47 rfl rfl) <| z_cons (ok_get ⟨by decide, by decide, by decide⟩ (ci := 5) (T := TX7) rfl rfl (Nat.le_of_ble_eq_true rfl) iw_X7 qw_94 gv_8_1 dX3_share_50 rfl rfl) <| z_cons (ok_goto (tgt := 57) (by decide) rfl dX3_share_53 rfl) <| z_cons (ok_iload_n dX3_share_56 rfl rfl) <| z_cons (ok_i2l dX3_share_57 rfl rfl) <| z_cons (ok_lload_n dX3_share_58 rfl rfl) <| z_cons (ok_ldiv dX3_share_59 rfl rfl) <| z_cons (ok_l2i dX3_share_60 rfl rfl) <| z_cons (ok_iret rfl dX3_share_61 rfl) <| z_nil
theorem dX3_tells_0 : decode cX3_tells 0 = .ok (.iload_n 1, 1) := by decide +kernel
theorem dX3_tells_1 : decode cX3_tells 1 = .ok (.tableswitch 140 0 11 #[63, 76, 89, 94, 99, 104, 109, 114, 119, 124, 140, 132], 63) := by decide +kernel
theorem dX3_tells_64 : decode cX3_tells 64 = .ok (.aload_n 0, 1) := by decide +kernel
theorem dX3_tells_65 : decode cX3_tells 65 = .ok (.getfield 49, 3) := by decide +kernel
theorem dX3_tells_68 : decode cX3_tells 68 = .ok (.ifCond .eq 7, 3) := by decide +kernel
theorem dX3_tells_71 : decode cX3_tells 71 = .ok (.iconst 1, 1) := by decide +kernel
theorem dX3_tells_72 : decode cX3_tells 72 = .ok (.goto 4, 3) := by decide +kernel
theorem dX3_tells_75 : decode cX3_tells 75 = .ok (.iconst 0, 1) := by decide +kernel
theorem dX3_tells_76 : decode cX3_tells 76 = .ok (.ireturn, 1) := by decide +kernel
theorem dX3_tells_77 : decode cX3_tells 77 = .ok (.aload_n 0, 1) := by decide +kernel
theorem dX3_tells_78 : decode cX3_tells 78 = .ok (.getfield 53, 3) := by decide +kernel
theorem dX3_tells_81 : decode cX3_tells 81 = .ok (.ifCond .eq 7, 3) := by decide +kernel
theorem dX3_tells_84 : decode cX3_tells 84 = .ok (.iconst 1, 1) := by decide +kernel
theorem dX3_tells_85 : decode cX3_tells 85 = .ok (.goto 4, 3) := by decide +kernel
theorem dX3_tells_88 : decode cX3_tells 88 = .ok (.iconst 0, 1) := by decide +kernel
theorem dX3_tells_89 : decode cX3_tells 89 = .ok (.ireturn, 1) := by decide +kernel
theorem dX3_tells_90 : decode cX3_tells 90 = .ok (.aload_n 0, 1) := by decide +kernel
theorem dX3_tells_91 : decode cX3_tells 91 = .ok (.getfield 9, 3) := by decide +kernel
theorem dX3_tells_94 : decode cX3_tells 94 = .ok (.ireturn, 1) := by decide +kernel
theorem dX3_tells_95 : decode cX3_tells 95 = .ok (.aload_n 0, 1) := by decide +kernel
theorem dX3_tells_96 : decode cX3_tells 96 = .ok (.getfield 15, 3) := by decide +kernel
theorem dX3_tells_99 : decode cX3_tells 99 = .ok (.ireturn, 1) := by decide +kernel
theorem dX3_tells_100 : decode cX3_tells 100 = .ok (.aload_n 0, 1) := by decide +kernel
theorem dX3_tells_101 : decode cX3_tells 101 = .ok (.getfield 62, 3) := by decide +kernel
theorem dX3_tells_104 : decode cX3_tells 104 = .ok (.ireturn, 1) := by decide +kernel
theorem dX3_tells_105 : decode cX3_tells 105 = .ok (.aload_n 0, 1) := by decide +kernel
theorem dX3_tells_106 : decode cX3_tells 106 = .ok (.getfield 65, 3) := by decide +kernel
theorem dX3_tells_109 : decode cX3_tells 109 = .ok (.ireturn, 1) := by decide +kernel
theorem dX3_tells_110 : decode cX3_tells 110 = .ok (.aload_n 0, 1) := by decide +kernel
theorem dX3_tells_111 : decode cX3_tells 111 = .ok (.getfield 68, 3) := by decide +kernel
theorem dX3_tells_114 : decode cX3_tells 114 = .ok (.ireturn, 1) := by decide +kernel
theorem dX3_tells_115 : decode cX3_tells 115 = .ok (.aload_n 0, 1) := by decide +kernel
theorem dX3_tells_116 : decode cX3_tells 116 = .ok (.getfield 56, 3) := by decide +kernel
theorem dX3_tells_119 : decode cX3_tells 119 = .ok (.ireturn, 1) := by decide +kernel
theorem dX3_tells_120 : decode cX3_tells 120 = .ok (.aload_n 0, 1) := by decide +kernel
theorem dX3_tells_121 : decode cX3_tells 121 = .ok (.getfield 92, 3) := by decide +kernel
theorem dX3_tells_124 : decode cX3_tells 124 = .ok (.ireturn, 1) := by decide +kernel
theorem dX3_tells_125 : decode cX3_tells 125 = .ok (.aload_n 0, 1) := by decide +kernel
theorem dX3_tells_126 : decode cX3_tells 126 = .ok (.getfield 25, 3) := by decide +kernel
theorem dX3_tells_129 : decode cX3_tells 129 = .ok (.invokevirtual 84, 3) := by decide +kernel
theorem dX3_tells_132 : decode cX3_tells 132 = .ok (.ireturn, 1) := by decide +kernel
theorem dX3_tells_133 : decode cX3_tells 133 = .ok (.aload_n 0, 1) := by decide +kernel
theorem dX3_tells_134 : decode cX3_tells 134 = .ok (.getfield 35, 3) := by decide +kernel
theorem dX3_tells_137 : decode cX3_tells 137 = .ok (.getfield 95, 3) := by decide +kernel
theorem dX3_tells_140 : decode cX3_tells 140 = .ok (.ireturn, 1) := by decide +kernel
theorem dX3_tells_141 : decode cX3_tells 141 = .ok (.aload_n 0, 1) := by decide +kernel
theorem dX3_tells_142 : decode cX3_tells 142 = .ok (.iload_n 1, 1) := by decide +kernel
theorem dX3_tells_143 : decode cX3_tells 143 = .ok (.invokevirtual 98, 3) := by decide +kernel
theorem dX3_tells_146 : decode cX3_tells 146 = .ok (.ireturn, 1) := by decide +kernel
set_option maxRecDepth 20000 in
theorem zl_X3_tells_1 : z_All z_tab cX3_tells 2 (some .int) RX3 pc_X3_tells 40 (k_X3_tells.drop 40) := z_cons (ok_iret rfl dX3_tells_132 rfl) <| z_cons (ok_aload_n dX3_tells_133 rfl rfl) <| z_cons (ok_getr (k := 15) ⟨by decide, by decide, by decide⟩ (ci := 3) (T := TX3) rfl rfl (Nat.le_of_ble_eq_true rfl) iw_X3 qw_92 gr_4_15 (fun _ _ => by simp) (fun w i => List.mem_of_getElem? (i := 3) rfl) dX3_tells_134 rfl rfl) <| z_cons (ok_get ⟨by decide, by decide, by decide⟩ (ci := 2) (T := TX2) rfl rfl (Nat.le_of_ble_eq_true rfl) iw_X2 qw_101 gv_3_1 dX3_tells_137 rfl rfl) <| z_cons (ok_iret rfl dX3_tells_140 rfl) <| z_cons (ok_aload_n dX3_tells_141 rfl rfl) <| z_cons (ok_iload_n dX3_tells_142 rfl rfl) <| z_cons (ok_callv ⟨by decide, by decide, by decide⟩ (ci := 3) (C := RX3) (T := TX3) rfl go_4 (k := 38) (n := 1) qw_102 qw_103 ⟨by decide +kernel, by decide +kernel, by decide +kernel⟩ (Nat.le_of_ble_eq_true rfl) qw_104 qw_105 qw_106 dX3_tells_143 rfl rfl) <| z_cons (ok_iret rfl dX3_tells_146 rfl) <| z_nil
set_option maxRecDepth 20000 in
theorem zl_X3_tells_0 : z_All z_tab cX3_tells 2 (some .int) RX3 pc_X3_tells 0 (k_X3_tells.drop 0) := z_cons (ok_iload_n dX3_tells_0 rfl rfl) <| z_cons (ok_tsw (lo := 0) dX3_tells_1 rfl (Nat.le_of_ble_eq_true rfl) (by decide) (by decide +kernel) (by decide)) <| z_cons (ok_aload_n dX3_tells_64 rfl rfl) <| z_cons (ok_get ⟨by decide, by decide, by decide⟩ (ci := 3) (T := TX3) rfl rfl (Nat.le_of_ble_eq_true rfl) iw_X3 qw_73 gv_4_0 dX3_tells_65 rfl rfl) <| z_cons (ok_if_eq (tgt := 75) (by decide) rfl dX3_tells_68 rfl rfl) <| z_cons (ok_iconst (by decide) dX3_tells_71 rfl rfl) <| z_cons (ok_goto (tgt := 76) (by decide) rfl dX3_tells_72 rfl) <| z_cons (ok_iconst (by decide) dX3_tells_75 rfl rfl) <| z_cons (ok_iret rfl dX3_tells_76 rfl) <| z_cons (ok_aload_n dX3_tells_77 rfl rfl) <| z_cons (ok_get ⟨by decide, by decide, by decide⟩ (ci := 3) (T := TX3) rfl rfl (Nat.le_of_ble_eq_true rfl) iw_X3 qw_74 gv_4_1 dX3_tells_78 rfl rfl) <| z_cons (ok_if_eq (tgt := 88) (by decide) rfl dX3_tells_81 rfl rfl) <| z_cons (ok_iconst (by decide) dX3_tells_84 rfl rfl) <| z_cons (ok_goto (tgt := 89) (by decide) rfl dX3_tells_85 rfl) <| z_cons (ok_iconst (by decide) dX3_tells_88 rfl rfl) <| z_cons (ok_iret rfl dX3_tells_89 rfl) <| z_cons (ok_aload_n dX3_tells_90 rfl rfl) <| z_cons (ok_get ⟨by decide, by decide, by decide⟩ (ci := 3) (T := TX3) rfl rfl (Nat.le_of_ble_eq_true rfl) iw_X3 qw_76 gv_4_2 dX3_tells_91 rfl rfl) <| z_cons (ok_iret rfl dX3_tells_94 rfl) <| z_cons (ok_aload_n dX3_tells_95 rfl rfl) <| z_cons (ok_get ⟨by decide, by decide, by decide⟩ (ci := 3) (T := TX3) rfl rfl (Nat.le_of_ble_eq_true rfl) iw_X3 qw_77 gv_4_3 dX3_tells_96 rfl rfl) <| z_cons (ok_iret rfl dX3_tells_99 rfl) <| z_cons (ok_aload_n dX3_tells_100 rfl rfl) <| z_cons (ok_get ⟨by decide, by decide, by decide⟩ (ci := 3) (T := TX3) rfl rfl (Nat.le_of_ble_eq_true rfl) iw_X3 qw_79 gv_4_5 dX3_tells_101 rfl rfl) <| z_cons (ok_iret rfl dX3_tells_104 rfl) <| z_cons (ok_aload_n dX3_tells_105 rfl rfl) <| z_cons (ok_get ⟨by decide, by decide, by decide⟩ (ci := 3) (T := TX3) rfl rfl (Nat.le_of_ble_eq_true rfl) iw_X3 qw_80 gv_4_6 dX3_tells_106 rfl rfl) <| z_cons (ok_iret rfl dX3_tells_109 rfl) <| z_cons (ok_aload_n dX3_tells_110 rfl rfl) <| z_cons (ok_get ⟨by decide, by decide, by decide⟩ (ci := 3) (T := TX3) rfl rfl (Nat.le_of_ble_eq_true rfl) iw_X3 qw_81 gv_4_7 dX3_tells_111 rfl rfl) <| z_cons (ok_iret rfl dX3_tells_114 rfl) <| z_cons (ok_aload_n dX3_tells_115 rfl rfl) <| z_cons (ok_get ⟨by decide, by decide, by decide⟩ (ci := 3) (T := TX3) rfl rfl (Nat.le_of_ble_eq_true rfl) iw_X3 qw_75 gv_4_8 dX3_tells_116 rfl rfl) <| z_cons (ok_iret rfl dX3_tells_119 rfl) <| z_cons (ok_aload_n dX3_tells_120 rfl rfl) <| z_cons (ok_get ⟨by decide, by decide, by decide⟩ (ci := 3) (T := TX3) rfl rfl (Nat.le_of_ble_eq_true rfl) iw_X3 qw_100 gv_4_9 dX3_tells_121 rfl rfl) <| z_cons (ok_iret rfl dX3_tells_124 rfl) <| z_cons (ok_aload_n dX3_tells_125 rfl rfl) <| z_cons (ok_getr (k := 13) ⟨by decide, by decide, by decide⟩ (ci := 3) (T := TX3) rfl rfl (Nat.le_of_ble_eq_true rfl) iw_X3 qw_93 gr_4_13 (fun _ _ => by simp) (fun w i => List.mem_of_getElem? (i := 1) rfl) dX3_tells_126 rfl rfl) <| z_cons (ok_callv ⟨by decide, by decide, by decide⟩ (ci := 5) (C := RX7) (T := TX7) rfl go_8 (k := 89) (n := 0) qw_96 qw_86 ⟨by decide +kernel, by decide +kernel, by decide +kernel⟩ (Nat.le_of_ble_eq_true rfl) qw_97 qw_98 qw_99 dX3_tells_129 rfl rfl) <| zl_X3_tells_1
theorem dX3_tellsLatest_0 : decode cX3_tellsLatest 0 = .ok (.iload_n 1, 1) := by decide +kernel
theorem dX3_tellsLatest_1 : decode cX3_tellsLatest 1 = .ok (.tableswitch 110 12 20 #[51, 59, 67, 75, 80, 85, 90, 98, 104], 51) := by decide +kernel
theorem dX3_tellsLatest_52 : decode cX3_tellsLatest 52 = .ok (.aload_n 0, 1) := by decide +kernel
theorem dX3_tellsLatest_53 : decode cX3_tellsLatest 53 = .ok (.getfield 21, 3) := by decide +kernel
theorem dX3_tellsLatest_56 : decode cX3_tellsLatest 56 = .ok (.getfield 81, 3) := by decide +kernel
theorem dX3_tellsLatest_59 : decode cX3_tellsLatest 59 = .ok (.ireturn, 1) := by decide +kernel
theorem dX3_tellsLatest_60 : decode cX3_tellsLatest 60 = .ok (.aload_n 0, 1) := by decide +kernel
theorem dX3_tellsLatest_61 : decode cX3_tellsLatest 61 = .ok (.getfield 21, 3) := by decide +kernel
theorem dX3_tellsLatest_64 : decode cX3_tellsLatest 64 = .ok (.getfield 102, 3) := by decide +kernel
theorem dX3_tellsLatest_67 : decode cX3_tellsLatest 67 = .ok (.ireturn, 1) := by decide +kernel
theorem dX3_tellsLatest_68 : decode cX3_tellsLatest 68 = .ok (.aload_n 0, 1) := by decide +kernel
theorem dX3_tellsLatest_69 : decode cX3_tellsLatest 69 = .ok (.getfield 21, 3) := by decide +kernel
theorem dX3_tellsLatest_72 : decode cX3_tellsLatest 72 = .ok (.getfield 105, 3) := by decide +kernel
theorem dX3_tellsLatest_75 : decode cX3_tellsLatest 75 = .ok (.ireturn, 1) := by decide +kernel
theorem dX3_tellsLatest_76 : decode cX3_tellsLatest 76 = .ok (.aload_n 0, 1) := by decide +kernel
theorem dX3_tellsLatest_77 : decode cX3_tellsLatest 77 = .ok (.getfield 71, 3) := by decide +kernel
theorem dX3_tellsLatest_80 : decode cX3_tellsLatest 80 = .ok (.ireturn, 1) := by decide +kernel
theorem dX3_tellsLatest_81 : decode cX3_tellsLatest 81 = .ok (.aload_n 0, 1) := by decide +kernel
theorem dX3_tellsLatest_82 : decode cX3_tellsLatest 82 = .ok (.getfield 74, 3) := by decide +kernel
theorem dX3_tellsLatest_85 : decode cX3_tellsLatest 85 = .ok (.ireturn, 1) := by decide +kernel
theorem dX3_tellsLatest_86 : decode cX3_tellsLatest 86 = .ok (.aload_n 0, 1) := by decide +kernel
theorem dX3_tellsLatest_87 : decode cX3_tellsLatest 87 = .ok (.getfield 59, 3) := by decide +kernel
theorem dX3_tellsLatest_90 : decode cX3_tellsLatest 90 = .ok (.ireturn, 1) := by decide +kernel
theorem dX3_tellsLatest_91 : decode cX3_tellsLatest 91 = .ok (.aload_n 0, 1) := by decide +kernel
theorem dX3_tellsLatest_92 : decode cX3_tellsLatest 92 = .ok (.getfield 42, 3) := by decide +kernel
theorem dX3_tellsLatest_95 : decode cX3_tellsLatest 95 = .ok (.getfield 95, 3) := by decide +kernel
theorem dX3_tellsLatest_98 : decode cX3_tellsLatest 98 = .ok (.ireturn, 1) := by decide +kernel
theorem dX3_tellsLatest_99 : decode cX3_tellsLatest 99 = .ok (.aload_n 0, 1) := by decide +kernel
theorem dX3_tellsLatest_100 : decode cX3_tellsLatest 100 = .ok (.iconst 1, 1) := by decide +kernel
theorem dX3_tellsLatest_101 : decode cX3_tellsLatest 101 = .ok (.invokevirtual 108, 3) := by decide +kernel
theorem dX3_tellsLatest_104 : decode cX3_tellsLatest 104 = .ok (.ireturn, 1) := by decide +kernel
theorem dX3_tellsLatest_105 : decode cX3_tellsLatest 105 = .ok (.aload_n 0, 1) := by decide +kernel
theorem dX3_tellsLatest_106 : decode cX3_tellsLatest 106 = .ok (.iconst 0, 1) := by decide +kernel
theorem dX3_tellsLatest_107 : decode cX3_tellsLatest 107 = .ok (.invokevirtual 108, 3) := by decide +kernel
theorem dX3_tellsLatest_110 : decode cX3_tellsLatest 110 = .ok (.ireturn, 1) := by decide +kernel
theorem dX3_tellsLatest_111 : decode cX3_tellsLatest 111 = .ok (.iconst (-1), 1) := by decide +kernel
theorem dX3_tellsLatest_112 : decode cX3_tellsLatest 112 = .ok (.ireturn, 1) := by decide +kernel
set_option maxRecDepth 20000 in
theorem zl_X3_tellsLatest_0 : z_All z_tab cX3_tellsLatest 2 (some .int) RX3 pc_X3_tellsLatest 0 (k_X3_tellsLatest.drop 0) := z_cons (ok_iload_n dX3_tellsLatest_0 rfl rfl) <| z_cons (ok_tsw (lo := 12) dX3_tellsLatest_1 rfl (Nat.le_of_ble_eq_true rfl) (by decide) (by decide +kernel) (by decide)) <| z_cons (ok_aload_n dX3_tellsLatest_52 rfl rfl) <| z_cons (ok_getr (k := 12) ⟨by decide, by decide, by decide⟩ (ci := 3) (T := TX3) rfl rfl (Nat.le_of_ble_eq_true rfl) iw_X3 qw_84 gr_4_12 (fun _ _ => by simp) (fun w i => List.mem_of_getElem? (i := 0) rfl) dX3_tellsLatest_53 rfl rfl) <| z_cons (ok_get ⟨by decide, by decide, by decide⟩ (ci := 5) (T := TX7) rfl rfl (Nat.le_of_ble_eq_true rfl) iw_X7 qw_94 gv_8_1 dX3_tellsLatest_56 rfl rfl) <| z_cons (ok_iret rfl dX3_tellsLatest_59 rfl) <| z_cons (ok_aload_n dX3_tellsLatest_60 rfl rfl) <| z_cons (ok_getr (k := 12) ⟨by decide, by decide, by decide⟩ (ci := 3) (T := TX3) rfl rfl (Nat.le_of_ble_eq_true rfl) iw_X3 qw_84 gr_4_12 (fun _ _ => by simp) (fun w i => List.mem_of_getElem? (i := 0) rfl) dX3_tellsLatest_61 rfl rfl) <| z_cons (ok_get ⟨by decide, by decide, by decide⟩ (ci := 5) (T := TX7) rfl rfl (Nat.le_of_ble_eq_true rfl) iw_X7 qw_107 gv_8_0 dX3_tellsLatest_64 rfl rfl) <| z_cons (ok_iret rfl dX3_tellsLatest_67 rfl) <| z_cons (ok_aload_n dX3_tellsLatest_68 rfl rfl) <| z_cons (ok_getr (k := 12) ⟨by decide, by decide, by decide⟩ (ci := 3) (T := TX3) rfl rfl (Nat.le_of_ble_eq_true rfl) iw_X3 qw_84 gr_4_12 (fun _ _ => by simp) (fun w i => List.mem_of_getElem? (i := 0) rfl) dX3_tellsLatest_69 rfl rfl) <| z_cons (ok_get ⟨by decide, by decide, by decide⟩ (ci := 5) (T := TX7) rfl rfl (Nat.le_of_ble_eq_true rfl) iw_X7 qw_108 gv_8_2 dX3_tellsLatest_72 rfl rfl) <| z_cons (ok_iret rfl dX3_tellsLatest_75 rfl) <| z_cons (ok_aload_n dX3_tellsLatest_76 rfl rfl) <| z_cons (ok_get ⟨by decide, by decide, by decide⟩ (ci := 3) (T := TX3) rfl rfl (Nat.le_of_ble_eq_true rfl) iw_X3 qw_82 gv_4_10 dX3_tellsLatest_77 rfl rfl) <| z_cons (ok_iret rfl dX3_tellsLatest_80 rfl) <| z_cons (ok_aload_n dX3_tellsLatest_81 rfl rfl) <| z_cons (ok_get ⟨by decide, by decide, by decide⟩ (ci := 3) (T := TX3) rfl rfl (Nat.le_of_ble_eq_true rfl) iw_X3 qw_83 gv_4_11 dX3_tellsLatest_82 rfl rfl) <| z_cons (ok_iret rfl dX3_tellsLatest_85 rfl) <| z_cons (ok_aload_n dX3_tellsLatest_86 rfl rfl) <| z_cons (ok_get ⟨by decide, by decide, by decide⟩ (ci := 3) (T := TX3) rfl rfl (Nat.le_of_ble_eq_true rfl) iw_X3 qw_78 gv_4_4 dX3_tellsLatest_87 rfl rfl) <| z_cons (ok_iret rfl dX3_tellsLatest_90 rfl) <| z_cons (ok_aload_n dX3_tellsLatest_91 rfl rfl) <| z_cons (ok_getr (k := 17) ⟨by decide, by decide, by decide⟩ (ci := 3) (T := TX3) rfl rfl (Nat.le_of_ble_eq_true rfl) iw_X3 qw_109 gr_4_17 (fun _ _ => by simp) (fun w i => List.mem_of_getElem? (i := 5) rfl) dX3_tellsLatest_92 rfl rfl) <| z_cons (ok_get ⟨by decide, by decide, by decide⟩ (ci := 2) (T := TX2) rfl rfl (Nat.le_of_ble_eq_true rfl) iw_X2 qw_101 gv_3_1 dX3_tellsLatest_95 rfl rfl) <| z_cons (ok_iret rfl dX3_tellsLatest_98 rfl) <| z_cons (ok_aload_n dX3_tellsLatest_99 rfl rfl) <| z_cons (ok_iconst (by decide) dX3_tellsLatest_100 rfl rfl) <| z_cons (ok_callv ⟨by decide, by decide, by decide⟩ (ci := 3) (C := RX3) (T := TX3) rfl go_4 (k := 36) (n := 1) qw_110 qw_103 ⟨by decide +kernel, by decide +kernel, by decide +kernel⟩ (Nat.le_of_ble_eq_true rfl) qw_111 qw_112 qw_113 dX3_tellsLatest_101 rfl rfl) <| z_cons (ok_iret rfl dX3_tellsLatest_104 rfl) <| z_cons (ok_aload_n dX3_tellsLatest_105 rfl rfl) <| z_cons (ok_iconst (by decide) dX3_tellsLatest_106 rfl rfl) <| z_cons (ok_callv ⟨by decide, by decide, by decide⟩ (ci := 3) (C := RX3) (T := TX3) rfl go_4 (k := 36) (n := 1) qw_110 qw_103 ⟨by decide +kernel, by decide +kernel, by decide +kernel⟩ (Nat.le_of_ble_eq_true rfl) qw_111 qw_112 qw_113 dX3_tellsLatest_107 rfl rfl) <| z_cons (ok_iret rfl dX3_tellsLatest_110 rfl) <| z_cons (ok_iconst (by decide) dX3_tellsLatest_111 rfl rfl) <| z_cons (ok_iret rfl dX3_tellsLatest_112 rfl) <| z_nil
theorem dX3_copyFrom_0 : decode cX3_copyFrom 0 = .ok (.aload_n 0, 1) := by decide +kernel
theorem dX3_copyFrom_1 : decode cX3_copyFrom 1 = .ok (.aload_n 1, 1) := by decide +kernel
theorem dX3_copyFrom_2 : decode cX3_copyFrom 2 = .ok (.getfield 49, 3) := by decide +kernel
theorem dX3_copyFrom_5 : decode cX3_copyFrom 5 = .ok (.putfield 49, 3) := by decide +kernel
theorem dX3_copyFrom_8 : decode cX3_copyFrom 8 = .ok (.aload_n 0, 1) := by decide +kernel
theorem dX3_copyFrom_9 : decode cX3_copyFrom 9 = .ok (.aload_n 1, 1) := by decide +kernel
theorem dX3_copyFrom_10 : decode cX3_copyFrom 10 = .ok (.getfield 53, 3) := by decide +kernel
theorem dX3_copyFrom_13 : decode cX3_copyFrom 13 = .ok (.putfield 53, 3) := by decide +kernel
theorem dX3_copyFrom_16 : decode cX3_copyFrom 16 = .ok (.aload_n 0, 1) := by decide +kernel
theorem dX3_copyFrom_17 : decode cX3_copyFrom 17 = .ok (.aload_n 1, 1) := by decide +kernel
theorem dX3_copyFrom_18 : decode cX3_copyFrom 18 = .ok (.getfield 9, 3) := by decide +kernel
theorem dX3_copyFrom_21 : decode cX3_copyFrom 21 = .ok (.putfield 9, 3) := by decide +kernel
theorem dX3_copyFrom_24 : decode cX3_copyFrom 24 = .ok (.aload_n 0, 1) := by decide +kernel
theorem dX3_copyFrom_25 : decode cX3_copyFrom 25 = .ok (.aload_n 1, 1) := by decide +kernel
theorem dX3_copyFrom_26 : decode cX3_copyFrom 26 = .ok (.getfield 15, 3) := by decide +kernel
theorem dX3_copyFrom_29 : decode cX3_copyFrom 29 = .ok (.putfield 15, 3) := by decide +kernel
theorem dX3_copyFrom_32 : decode cX3_copyFrom 32 = .ok (.aload_n 0, 1) := by decide +kernel
theorem dX3_copyFrom_33 : decode cX3_copyFrom 33 = .ok (.aload_n 1, 1) := by decide +kernel
theorem dX3_copyFrom_34 : decode cX3_copyFrom 34 = .ok (.getfield 59, 3) := by decide +kernel
theorem dX3_copyFrom_37 : decode cX3_copyFrom 37 = .ok (.putfield 59, 3) := by decide +kernel
theorem dX3_copyFrom_40 : decode cX3_copyFrom 40 = .ok (.aload_n 0, 1) := by decide +kernel
theorem dX3_copyFrom_41 : decode cX3_copyFrom 41 = .ok (.aload_n 1, 1) := by decide +kernel
theorem dX3_copyFrom_42 : decode cX3_copyFrom 42 = .ok (.getfield 62, 3) := by decide +kernel
theorem dX3_copyFrom_45 : decode cX3_copyFrom 45 = .ok (.putfield 62, 3) := by decide +kernel
theorem dX3_copyFrom_48 : decode cX3_copyFrom 48 = .ok (.aload_n 0, 1) := by decide +kernel
theorem dX3_copyFrom_49 : decode cX3_copyFrom 49 = .ok (.aload_n 1, 1) := by decide +kernel
theorem dX3_copyFrom_50 : decode cX3_copyFrom 50 = .ok (.getfield 65, 3) := by decide +kernel
theorem dX3_copyFrom_53 : decode cX3_copyFrom 53 = .ok (.putfield 65, 3) := by decide +kernel
theorem dX3_copyFrom_56 : decode cX3_copyFrom 56 = .ok (.aload_n 0, 1) := by decide +kernel
theorem dX3_copyFrom_57 : decode cX3_copyFrom 57 = .ok (.aload_n 1, 1) := by decide +kernel
theorem dX3_copyFrom_58 : decode cX3_copyFrom 58 = .ok (.getfield 68, 3) := by decide +kernel
theorem dX3_copyFrom_61 : decode cX3_copyFrom 61 = .ok (.putfield 68, 3) := by decide +kernel
theorem dX3_copyFrom_64 : decode cX3_copyFrom 64 = .ok (.aload_n 0, 1) := by decide +kernel
theorem dX3_copyFrom_65 : decode cX3_copyFrom 65 = .ok (.aload_n 1, 1) := by decide +kernel
theorem dX3_copyFrom_66 : decode cX3_copyFrom 66 = .ok (.getfield 56, 3) := by decide +kernel
theorem dX3_copyFrom_69 : decode cX3_copyFrom 69 = .ok (.putfield 56, 3) := by decide +kernel
theorem dX3_copyFrom_72 : decode cX3_copyFrom 72 = .ok (.aload_n 0, 1) := by decide +kernel
theorem dX3_copyFrom_73 : decode cX3_copyFrom 73 = .ok (.aload_n 1, 1) := by decide +kernel
theorem dX3_copyFrom_74 : decode cX3_copyFrom 74 = .ok (.getfield 92, 3) := by decide +kernel
theorem dX3_copyFrom_77 : decode cX3_copyFrom 77 = .ok (.putfield 92, 3) := by decide +kernel
theorem dX3_copyFrom_80 : decode cX3_copyFrom 80 = .ok (.aload_n 0, 1) := by decide +kernel
theorem dX3_copyFrom_81 : decode cX3_copyFrom 81 = .ok (.aload_n 1, 1) := by decide +kernel
theorem dX3_copyFrom_82 : decode cX3_copyFrom 82 = .ok (.getfield 71, 3) := by decide +kernel
theorem dX3_copyFrom_85 : decode cX3_copyFrom 85 = .ok (.putfield 71, 3) := by decide +kernel
theorem dX3_copyFrom_88 : decode cX3_copyFrom 88 = .ok (.aload_n 0, 1) := by decide +kernel
theorem dX3_copyFrom_89 : decode cX3_copyFrom 89 = .ok (.aload_n 1, 1) := by decide +kernel
theorem dX3_copyFrom_90 : decode cX3_copyFrom 90 = .ok (.getfield 74, 3) := by decide +kernel
theorem dX3_copyFrom_93 : decode cX3_copyFrom 93 = .ok (.putfield 74, 3) := by decide +kernel
theorem dX3_copyFrom_96 : decode cX3_copyFrom 96 = .ok (.aload_n 0, 1) := by decide +kernel
theorem dX3_copyFrom_97 : decode cX3_copyFrom 97 = .ok (.getfield 21, 3) := by decide +kernel
theorem dX3_copyFrom_100 : decode cX3_copyFrom 100 = .ok (.aload_n 1, 1) := by decide +kernel
theorem dX3_copyFrom_101 : decode cX3_copyFrom 101 = .ok (.getfield 21, 3) := by decide +kernel
theorem dX3_copyFrom_104 : decode cX3_copyFrom 104 = .ok (.invokevirtual 112, 3) := by decide +kernel
theorem dX3_copyFrom_107 : decode cX3_copyFrom 107 = .ok (.aload_n 0, 1) := by decide +kernel
theorem dX3_copyFrom_108 : decode cX3_copyFrom 108 = .ok (.getfield 25, 3) := by decide +kernel
theorem dX3_copyFrom_111 : decode cX3_copyFrom 111 = .ok (.aload_n 1, 1) := by decide +kernel
theorem dX3_copyFrom_112 : decode cX3_copyFrom 112 = .ok (.getfield 25, 3) := by decide +kernel
theorem dX3_copyFrom_115 : decode cX3_copyFrom 115 = .ok (.invokevirtual 112, 3) := by decide +kernel
theorem dX3_copyFrom_118 : decode cX3_copyFrom 118 = .ok (.aload_n 1, 1) := by decide +kernel
theorem dX3_copyFrom_119 : decode cX3_copyFrom 119 = .ok (.getfield 28, 3) := by decide +kernel
theorem dX3_copyFrom_122 : decode cX3_copyFrom 122 = .ok (.iconst 0, 1) := by decide +kernel
theorem dX3_copyFrom_123 : decode cX3_copyFrom 123 = .ok (.aload_n 0, 1) := by decide +kernel
theorem dX3_copyFrom_124 : decode cX3_copyFrom 124 = .ok (.getfield 28, 3) := by decide +kernel
theorem dX3_copyFrom_127 : decode cX3_copyFrom 127 = .ok (.iconst 0, 1) := by decide +kernel
theorem dX3_copyFrom_128 : decode cX3_copyFrom 128 = .ok (.bipush 24, 2) := by decide +kernel
theorem dX3_copyFrom_130 : decode cX3_copyFrom 130 = .ok (.invokestatic 116, 3) := by decide +kernel
theorem dX3_copyFrom_133 : decode cX3_copyFrom 133 = .ok (.aload_n 0, 1) := by decide +kernel
theorem dX3_copyFrom_134 : decode cX3_copyFrom 134 = .ok (.getfield 35, 3) := by decide +kernel
theorem dX3_copyFrom_137 : decode cX3_copyFrom 137 = .ok (.aload_n 1, 1) := by decide +kernel
theorem dX3_copyFrom_138 : decode cX3_copyFrom 138 = .ok (.getfield 35, 3) := by decide +kernel
theorem dX3_copyFrom_141 : decode cX3_copyFrom 141 = .ok (.invokevirtual 122, 3) := by decide +kernel
theorem dX3_copyFrom_144 : decode cX3_copyFrom 144 = .ok (.aload_n 0, 1) := by decide +kernel
theorem dX3_copyFrom_145 : decode cX3_copyFrom 145 = .ok (.getfield 39, 3) := by decide +kernel
theorem dX3_copyFrom_148 : decode cX3_copyFrom 148 = .ok (.aload_n 1, 1) := by decide +kernel
theorem dX3_copyFrom_149 : decode cX3_copyFrom 149 = .ok (.getfield 39, 3) := by decide +kernel
theorem dX3_copyFrom_152 : decode cX3_copyFrom 152 = .ok (.invokevirtual 122, 3) := by decide +kernel
theorem dX3_copyFrom_155 : decode cX3_copyFrom 155 = .ok (.aload_n 0, 1) := by decide +kernel
theorem dX3_copyFrom_156 : decode cX3_copyFrom 156 = .ok (.getfield 42, 3) := by decide +kernel
theorem dX3_copyFrom_159 : decode cX3_copyFrom 159 = .ok (.aload_n 1, 1) := by decide +kernel
theorem dX3_copyFrom_160 : decode cX3_copyFrom 160 = .ok (.getfield 42, 3) := by decide +kernel
theorem dX3_copyFrom_163 : decode cX3_copyFrom 163 = .ok (.invokevirtual 122, 3) := by decide +kernel
theorem dX3_copyFrom_166 : decode cX3_copyFrom 166 = .ok (.return_, 1) := by decide +kernel
set_option maxRecDepth 20000 in
theorem zl_X3_copyFrom_2 : z_All z_tab cX3_copyFrom 2 none RX3 pc_X3_copyFrom 80 (k_X3_copyFrom.drop 80) := z_cons (ok_callv ⟨by decide, by decide, by decide⟩ (ci := 2) (C := RX2) (T := TX2) rfl go_3 (k := 27) (n := 1) qw_119 qw_42 ⟨by decide +kernel, by decide +kernel, by decide +kernel⟩ (Nat.le_of_ble_eq_true rfl) qw_120 qw_121 qw_122 dX3_copyFrom_163 rfl rfl) <| z_cons (ok_ret rfl dX3_copyFrom_166 rfl) <| z_nil
set_option maxRecDepth 20000 in
theorem zl_X3_copyFrom_1 : z_All z_tab cX3_copyFrom 2 none RX3 pc_X3_copyFrom 40 (k_X3_copyFrom.drop 40) := z_cons (ok_aload_n dX3_copyFrom_80 rfl rfl) <| z_cons (ok_aload_n dX3_copyFrom_81 rfl rfl) <| z_cons (ok_get ⟨by decide, by decide, by decide⟩ (ci := 3) (T := TX3) rfl rfl (Nat.le_of_ble_eq_true rfl) iw_X3 qw_82 gv_4_10 dX3_copyFrom_82 rfl rfl) <| z_cons (ok_put ⟨by decide, by decide, by decide⟩ (ci := 3) (T := TX3) rfl rfl (Nat.le_of_ble_eq_true rfl) iw_X3 qw_82 tyX3_ok nmX3 rfl pv_4_10 rfl dX3_copyFrom_85 rfl rfl) <| z_cons (ok_aload_n dX3_copyFrom_88 rfl rfl) <| z_cons (ok_aload_n dX3_copyFrom_89 rfl rfl) <| z_cons (ok_get ⟨by decide, by decide, by decide⟩ (ci := 3) (T := TX3) rfl rfl (Nat.le_of_ble_eq_true rfl) iw_X3 qw_83 gv_4_11 dX3_copyFrom_90 rfl rfl) <| z_cons (ok_put ⟨by decide, by decide, by decide⟩ (ci := 3) (T := TX3) rfl rfl (Nat.le_of_ble_eq_true rfl) iw_X3 qw_83 tyX3_ok nmX3 rfl pv_4_11 rfl dX3_copyFrom_93 rfl rfl) <| z_cons (ok_aload_n dX3_copyFrom_96 rfl rfl) <| z_cons (ok_getr (k := 12) ⟨by decide, by decide, by decide⟩ (ci := 3) (T := TX3) rfl rfl (Nat.le_of_ble_eq_true rfl) iw_X3 qw_84 gr_4_12 (fun _ _ => by simp) (fun w i => List.mem_of_getElem? (i := 0) rfl) dX3_copyFrom_97 rfl rfl) <| z_cons (ok_aload_n dX3_copyFrom_100 rfl rfl) <| z_cons (ok_getr (k := 12) ⟨by decide, by decide, by decide⟩ (ci := 3) (T := TX3) rfl rfl (Nat.le_of_ble_eq_true rfl) iw_X3 qw_84 gr_4_12 (fun _ _ => by simp) (fun w i => List.mem_of_getElem? (i := 0) rfl) dX3_copyFrom_101 rfl rfl) <| z_cons (ok_callv ⟨by decide, by decide, by decide⟩ (ci := 5) (C := RX7) (T := TX7) rfl go_8 (k := 90) (n := 1) qw_114 qw_86 ⟨by decide +kernel, by decide +kernel, by decide +kernel⟩ (Nat.le_of_ble_eq_true rfl) qw_115 qw_116 qw_117 dX3_copyFrom_104 rfl rfl) <| z_cons (ok_aload_n dX3_copyFrom_107 rfl rfl) <| z_cons (ok_getr (k := 13) ⟨by decide, by decide, by decide⟩ (ci := 3) (T := TX3) rfl rfl (Nat.le_of_ble_eq_true rfl) iw_X3 qw_93 gr_4_13 (fun _ _ => by simp) (fun w i => List.mem_of_getElem? (i := 1) rfl) dX3_copyFrom_108 rfl rfl) <| z_cons (ok_aload_n dX3_copyFrom_111 rfl rfl) <| z_cons (ok_getr (k := 13) ⟨by decide, by decide, by decide⟩ (ci := 3) (T := TX3) rfl rfl (Nat.le_of_ble_eq_true rfl) iw_X3 qw_93 gr_4_13 (fun _ _ => by simp) (fun w i => List.mem_of_getElem? (i := 1) rfl) dX3_copyFrom_112 rfl rfl) <| z_cons (ok_callv ⟨by decide, by decide, by decide⟩ (ci := 5) (C := RX7) (T := TX7) rfl go_8 (k := 90) (n := 1) qw_114 qw_86 ⟨by decide +kernel, by decide +kernel, by decide +kernel⟩ (Nat.le_of_ble_eq_true rfl) qw_115 qw_116 qw_117 dX3_copyFrom_115 rfl rfl) <| z_cons (ok_aload_n dX3_copyFrom_118 rfl rfl) <| z_cons (ok_getr (k := 14) ⟨by decide, by decide, by decide⟩ (ci := 3) (T := TX3) rfl rfl (Nat.le_of_ble_eq_true rfl) iw_X3 qw_95 gr_4_14 (fun _ _ => by simp) (fun w i => List.mem_of_getElem? (i := 2) rfl) dX3_copyFrom_119 rfl rfl) <| z_cons (ok_iconst (by decide) dX3_copyFrom_122 rfl rfl) <| z_cons (ok_aload_n dX3_copyFrom_123 rfl rfl) <| z_cons (ok_getr (k := 14) ⟨by decide, by decide, by decide⟩ (ci := 3) (T := TX3) rfl rfl (Nat.le_of_ble_eq_true rfl) iw_X3 qw_95 gr_4_14 (fun _ _ => by simp) (fun w i => List.mem_of_getElem? (i := 2) rfl) dX3_copyFrom_124 rfl rfl) <| z_cons (ok_iconst (by decide) dX3_copyFrom_127 rfl rfl) <| z_cons (ok_bipush (by decide) dX3_copyFrom_128 rfl rfl) <| z_cons (ok_copy rfl (by decide) (by decide) qw_118 qw_37 qw_38 qw_39 dX3_copyFrom_130 rfl rfl) <| z_cons (ok_aload_n dX3_copyFrom_133 rfl rfl) <| z_cons (ok_getr (k := 15) ⟨by decide, by decide, by decide⟩ (ci := 3) (T := TX3) rfl rfl (Nat.le_of_ble_eq_true rfl) iw_X3 qw_92 gr_4_15 (fun _ _ => by simp) (fun w i => List.mem_of_getElem? (i := 3) rfl) dX3_copyFrom_134 rfl rfl) <| z_cons (ok_aload_n dX3_copyFrom_137 rfl rfl) <| z_cons (ok_getr (k := 15) ⟨by decide, by decide, by decide⟩ (ci := 3) (T := TX3) rfl rfl (Nat.le_of_ble_eq_true rfl) iw_X3 qw_92 gr_4_15 (fun _ _ => by simp) (fun w i => List.mem_of_getElem? (i := 3) rfl) dX3_copyFrom_138 rfl rfl) <| z_cons (ok_callv ⟨by decide, by decide, by decide⟩ (ci := 2) (C := RX2) (T := TX2) rfl go_3 (k := 27) (n := 1) qw_119 qw_42 ⟨by decide +kernel, by decide +kernel, by decide +kernel⟩ (Nat.le_of_ble_eq_true rfl) qw_120 qw_121 qw_122 dX3_copyFrom_141 rfl rfl) <| z_cons (ok_aload_n dX3_copyFrom_144 rfl rfl) <| z_cons (ok_getr (k := 16) ⟨by decide, by decide, by decide⟩ (ci := 3) (T := TX3) rfl rfl (Nat.le_of_ble_eq_true rfl) iw_X3 qw_90 gr_4_16 (fun _ _ => by simp) (fun w i => List.mem_of_getElem? (i := 4) rfl) dX3_copyFrom_145 rfl rfl) <| z_cons (ok_aload_n dX3_copyFrom_148 rfl rfl) <| z_cons (ok_getr (k := 16) ⟨by decide, by decide, by decide⟩ (ci := 3) (T := TX3) rfl rfl (Nat.le_of_ble_eq_true rfl) iw_X3 qw_90 gr_4_16 (fun _ _ => by simp) (fun w i => List.mem_of_getElem? (i := 4) rfl) dX3_copyFrom_149 rfl rfl) <| z_cons (ok_callv ⟨by decide, by decide, by decide⟩ (ci := 2) (C := RX2) (T := TX2) rfl go_3 (k := 27) (n := 1) qw_119 qw_42 ⟨by decide +kernel, by decide +kernel, by decide +kernel⟩ (Nat.le_of_ble_eq_true rfl) qw_120 qw_121 qw_122 dX3_copyFrom_152 rfl rfl) <| z_cons (ok_aload_n dX3_copyFrom_155 rfl rfl) <| z_cons (ok_getr (k := 17) ⟨by decide, by decide, by decide⟩ (ci := 3) (T := TX3) rfl rfl (Nat.le_of_ble_eq_true rfl) iw_X3 qw_109 gr_4_17 (fun _ _ => by simp) (fun w i => List.mem_of_getElem? (i := 5) rfl) dX3_copyFrom_156 rfl rfl) <| z_cons (ok_aload_n dX3_copyFrom_159 rfl rfl) <| z_cons (ok_getr (k := 17) ⟨by decide, by decide, by decide⟩ (ci := 3) (T := TX3) rfl rfl (Nat.le_of_ble_eq_true rfl) iw_X3 qw_109 gr_4_17 (fun _ _ => by simp) (fun w i => List.mem_of_getElem? (i := 5) rfl) dX3_copyFrom_160 rfl rfl) <| zl_X3_copyFrom_2
set_option maxRecDepth 20000 in
theorem zl_X3_copyFrom_0 : z_All z_tab cX3_copyFrom 2 none RX3 pc_X3_copyFrom 0 (k_X3_copyFrom.drop 0) := z_cons (ok_aload_n dX3_copyFrom_0 rfl rfl) <| z_cons (ok_aload_n dX3_copyFrom_1 rfl rfl) <| z_cons (ok_get ⟨by decide, by decide, by decide⟩ (ci := 3) (T := TX3) rfl rfl (Nat.le_of_ble_eq_true rfl) iw_X3 qw_73 gv_4_0 dX3_copyFrom_2 rfl rfl) <| z_cons (ok_putz ⟨by decide, by decide, by decide⟩ (ci := 3) (T := TX3) rfl rfl (Nat.le_of_ble_eq_true rfl) iw_X3 qw_73 tyX3_ok nmX3 rfl pv_4_0 rfl dX3_copyFrom_5 rfl rfl) <| z_cons (ok_aload_n dX3_copyFrom_8 rfl rfl) <| z_cons (ok_aload_n dX3_copyFrom_9 rfl rfl) <| z_cons (ok_get ⟨by decide, by decide, by decide⟩ (ci := 3) (T := TX3) rfl rfl (Nat.le_of_ble_eq_true rfl) iw_X3 qw_74 gv_4_1 dX3_copyFrom_10 rfl rfl) <| z_cons (ok_putz ⟨by decide, by decide, by decide⟩ (ci := 3) (T := TX3) rfl rfl (Nat.le_of_ble_eq_true rfl) iw_X3 qw_74 tyX3_ok nmX3 rfl pv_4_1 rfl dX3_copyFrom_13 rfl rfl) <| z_cons (ok_aload_n dX3_copyFrom_16 rfl rfl) <| z_cons (ok_aload_n dX3_copyFrom_17 rfl rfl) <| z_cons (ok_get ⟨by decide, by decide, by decide⟩ (ci := 3) (T := TX3) rfl rfl (Nat.le_of_ble_eq_true rfl) iw_X3 qw_76 gv_4_2 dX3_copyFrom_18 rfl rfl) <| z_cons (ok_put ⟨by decide, by decide, by decide⟩ (ci := 3) (T := TX3) rfl rfl (Nat.le_of_ble_eq_true rfl) iw_X3 qw_76 tyX3_ok nmX3 rfl pv_4_2 rfl dX3_copyFrom_21 rfl rfl) <| z_cons (ok_aload_n dX3_copyFrom_24 rfl rfl) <| z_cons (ok_aload_n dX3_copyFrom_25 rfl rfl) <| z_cons (ok_get ⟨by decide, by decide, by decide⟩ (ci := 3) (T := TX3) rfl rfl (Nat.le_of_ble_eq_true rfl) iw_X3 qw_77 gv_4_3 dX3_copyFrom_26 rfl rfl) <| z_cons (ok_put ⟨by decide, by decide, by decide⟩ (ci := 3) (T := TX3) rfl rfl (Nat.le_of_ble_eq_true rfl) iw_X3 qw_77 tyX3_ok nmX3 rfl pv_4_3 rfl dX3_copyFrom_29 rfl rfl) <| z_cons (ok_aload_n dX3_copyFrom_32 rfl rfl) <| z_cons (ok_aload_n dX3_copyFrom_33 rfl rfl) <| z_cons (ok_get ⟨by decide, by decide, by decide⟩ (ci := 3) (T := TX3) rfl rfl (Nat.le_of_ble_eq_true rfl) iw_X3 qw_78 gv_4_4 dX3_copyFrom_34 rfl rfl) <| z_cons (ok_put ⟨by decide, by decide, by decide⟩ (ci := 3) (T := TX3) rfl rfl (Nat.le_of_ble_eq_true rfl) iw_X3 qw_78 tyX3_ok nmX3 rfl pv_4_4 rfl dX3_copyFrom_37 rfl rfl) <| z_cons (ok_aload_n dX3_copyFrom_40 rfl rfl) <| z_cons (ok_aload_n dX3_copyFrom_41 rfl rfl) <| z_cons (ok_get ⟨by decide, by decide, by decide⟩ (ci := 3) (T := TX3) rfl rfl (Nat.le_of_ble_eq_true rfl) iw_X3 qw_79 gv_4_5 dX3_copyFrom_42 rfl rfl) <| z_cons (ok_put ⟨by decide, by decide, by decide⟩ (ci := 3) (T := TX3) rfl rfl (Nat.le_of_ble_eq_true rfl) iw_X3 qw_79 tyX3_ok nmX3 rfl pv_4_5 rfl dX3_copyFrom_45 rfl rfl) <| z_cons (ok_aload_n dX3_copyFrom_48 rfl rfl) <| z_cons (ok_aload_n dX3_copyFrom_49 rfl rfl) <| z_cons (ok_get ⟨by decide, by decide, by decide⟩ (ci := 3) (T := TX3) rfl rfl (Nat.le_of_ble_eq_true rfl) iw_X3 qw_80 gv_4_6 dX3_copyFrom_50 rfl rfl) <| z_cons (ok_put ⟨by decide, by decide, by decide⟩ (ci := 3) (T := TX3) rfl rfl (Nat.le_of_ble_eq_true rfl) iw_X3 qw_80 tyX3_ok nmX3 rfl pv_4_6 rfl dX3_copyFrom_53 rfl rfl) <| z_cons (ok_aload_n dX3_copyFrom_56 rfl rfl) <| z_cons (ok_aload_n dX3_copyFrom_57 rfl rfl) <| z_cons (ok_get ⟨by decide, by decide, by decide⟩ (ci := 3) (T := TX3) rfl rfl (Nat.le_of_ble_eq_true rfl) iw_X3 qw_81 gv_4_7 dX3_copyFrom_58 rfl rfl) <| z_cons (ok_put ⟨by decide, by decide, by decide⟩ (ci := 3) (T := TX3) rfl rfl (Nat.le_of_ble_eq_true rfl) iw_X3 qw_81 tyX3_ok nmX3 rfl pv_4_7 rfl dX3_copyFrom_61 rfl rfl) <| z_cons (ok_aload_n dX3_copyFrom_64 rfl rfl) <| z_cons (ok_aload_n dX3_copyFrom_65 rfl rfl) <| z_cons (ok_get ⟨by decide, by decide, by decide⟩ (ci := 3) (T := TX3) rfl rfl (Nat.le_of_ble_eq_true rfl) iw_X3 qw_75 gv_4_8 dX3_copyFrom_66 rfl rfl) <| z_cons (ok_put ⟨by decide, by decide, by decide⟩ (ci := 3) (T := TX3) rfl rfl (Nat.le_of_ble_eq_true rfl) iw_X3 qw_75 tyX3_ok nmX3 rfl pv_4_8 rfl dX3_copyFrom_69 rfl rfl) <| z_cons (ok_aload_n dX3_copyFrom_72 rfl rfl) <| z_cons (ok_aload_n dX3_copyFrom_73 rfl rfl) <| z_cons (ok_get ⟨by decide, by decide, by decide⟩ (ci := 3) (T := TX3) rfl rfl (Nat.le_of_ble_eq_true rfl) iw_X3 qw_100 gv_4_9 dX3_copyFrom_74 rfl rfl) <| z_cons (ok_put ⟨by decide, by decide, by decide⟩ (ci := 3) (T := TX3) rfl rfl (Nat.le_of_ble_eq_true rfl) iw_X3 qw_100 tyX3_ok nmX3 rfl pv_4_9 rfl dX3_copyFrom_77 rfl rfl) <| zl_X3_copyFrom_1
theorem dX4_start_0 : decode cX4_start 0 = .ok (.aload_n 0, 1) := by decide +kernel
theorem dX4_start_1 : decode cX4_start 1 = .ok (.iload_n 1, 1) := by decide +kernel
theorem dX4_start_2 : decode cX4_start 2 = .ok (.invokevirtual 9, 3) := by decide +kernel
theorem dX4_start_5 : decode cX4_start 5 = .ok (.astore 6, 2) := by decide +kernel
theorem dX4_start_7 : decode cX4_start 7 = .ok (.aload_n 0, 1) := by decide +kernel
theorem dX4_start_8 : decode cX4_start 8 = .ok (.iload_n 1, 1) := by decide +kernel
theorem dX4_start_9 : decode cX4_start 9 = .ok (.iload_n 2, 1) := by decide +kernel
theorem dX4_start_10 : decode cX4_start 10 = .ok (.iload_n 3, 1) := by decide +kernel
theorem dX4_start_11 : decode cX4_start 11 = .ok (.iload 4, 2) := by decide +kernel
theorem dX4_start_13 : decode cX4_start 13 = .ok (.invokevirtual 15, 3) := by decide +kernel
theorem dX4_start_16 : decode cX4_start 16 = .ok (.istore 7, 2) := by decide +kernel
theorem dX4_start_18 : decode cX4_start 18 = .ok (.aload 6, 2) := by decide +kernel
theorem dX4_start_20 : decode cX4_start 20 = .ok (.ifnull 28, 3) := by decide +kernel
theorem dX4_start_23 : decode cX4_start 23 = .ok (.aload 6, 2) := by decide +kernel
theorem dX4_start_25 : decode cX4_start 25 = .ok (.invokevirtual 19, 3) := by decide +kernel
theorem dX4_start_28 : decode cX4_start 28 = .ok (.ifCond .eq 20, 3) := by decide +kernel
theorem dX4_start_31 : decode cX4_start 31 = .ok (.iload 7, 2) := by decide +kernel
theorem dX4_start_33 : decode cX4_start 33 = .ok (.iconst (-1), 1) := by decide +kernel
theorem dX4_start_34 : decode cX4_start 34 = .ok (.if_icmp .eq 14, 3) := by decide +kernel
theorem dX4_start_37 : decode cX4_start 37 = .ok (.iload 5, 2) := by decide +kernel
theorem dX4_start_39 : decode cX4_start 39 = .ok (.ifCond .lt 9, 3) := by decide +kernel
theorem dX4_start_42 : decode cX4_start 42 = .ok (.iload 5, 2) := by decide +kernel
theorem dX4_start_44 : decode cX4_start 44 = .ok (.iconst 3, 1) := by decide +kernel
theorem dX4_start_45 : decode cX4_start 45 = .ok (.if_icmp .le 5, 3) := by decide +kernel
theorem dX4_start_48 : decode cX4_start 48 = .ok (.iconst (-1), 1) := by decide +kernel
theorem dX4_start_49 : decode cX4_start 49 = .ok (.ireturn, 1) := by decide +kernel
theorem dX4_start_50 : decode cX4_start 50 = .ok (.aload 6, 2) := by decide +kernel
theorem dX4_start_52 : decode cX4_start 52 = .ok (.iload_n 2, 1) := by decide +kernel
theorem dX4_start_53 : decode cX4_start 53 = .ok (.iload_n 3, 1) := by decide +kernel
theorem dX4_start_54 : decode cX4_start 54 = .ok (.iload 4, 2) := by decide +kernel
theorem dX4_start_56 : decode cX4_start 56 = .ok (.iload 5, 2) := by decide +kernel
theorem dX4_start_58 : decode cX4_start 58 = .ok (.invokevirtual 25, 3) := by decide +kernel
theorem dX4_start_61 : decode cX4_start 61 = .ok (.iconst 0, 1) := by decide +kernel
theorem dX4_start_62 : decode cX4_start 62 = .ok (.istore 8, 2) := by decide +kernel
theorem dX4_start_64 : decode cX4_start 64 = .ok (.iload 8, 2) := by decide +kernel
theorem dX4_start_66 : decode cX4_start 66 = .ok (.bipush 24, 2) := by decide +kernel
theorem dX4_start_68 : decode cX4_start 68 = .ok (.if_icmp .ge 31, 3) := by decide +kernel
theorem dX4_start_71 : decode cX4_start 71 = .ok (.iload 7, 2) := by decide +kernel
theorem dX4_start_73 : decode cX4_start 73 = .ok (.iload 8, 2) := by decide +kernel
theorem dX4_start_75 : decode cX4_start 75 = .ok (.ishr, 1) := by decide +kernel
theorem dX4_start_76 : decode cX4_start 76 = .ok (.iconst 1, 1) := by decide +kernel
theorem dX4_start_77 : decode cX4_start 77 = .ok (.iand, 1) := by decide +kernel
theorem dX4_start_78 : decode cX4_start 78 = .ok (.iconst 1, 1) := by decide +kernel
theorem dX4_start_79 : decode cX4_start 79 = .ok (.if_icmp .ne 14, 3) := by decide +kernel
theorem dX4_start_82 : decode cX4_start 82 = .ok (.aload_n 0, 1) := by decide +kernel
theorem dX4_start_83 : decode cX4_start 83 = .ok (.getfield 29, 3) := by decide +kernel
theorem dX4_start_86 : decode cX4_start 86 = .ok (.iload 8, 2) := by decide +kernel
theorem dX4_start_88 : decode cX4_start 88 = .ok (.aaload, 1) := by decide +kernel
theorem dX4_start_89 : decode cX4_start 89 = .ok (.iload_n 1, 1) := by decide +kernel
theorem dX4_start_90 : decode cX4_start 90 = .ok (.putfield 33, 3) := by decide +kernel
theorem dX4_start_93 : decode cX4_start 93 = .ok (.iinc 8 1, 3) := by decide +kernel
theorem dX4_start_96 : decode cX4_start 96 = .ok (.goto (-32), 3) := by decide +kernel
theorem dX4_start_99 : decode cX4_start 99 = .ok (.aload_n 0, 1) := by decide +kernel
theorem dX4_start_100 : decode cX4_start 100 = .ok (.iload_n 1, 1) := by decide +kernel
theorem dX4_start_101 : decode cX4_start 101 = .ok (.iconst 0, 1) := by decide +kernel
theorem dX4_start_102 : decode cX4_start 102 = .ok (.iload 7, 2) := by decide +kernel
theorem dX4_start_104 : decode cX4_start 104 = .ok (.invokestatic 39, 3) := by decide +kernel
theorem dX4_start_107 : decode cX4_start 107 = .ok (.invokevirtual 45, 3) := by decide +kernel
theorem dX4_start_110 : decode cX4_start 110 = .ok (.aload 6, 2) := by decide +kernel
theorem dX4_start_112 : decode cX4_start 112 = .ok (.invokevirtual 49, 3) := by decide +kernel
theorem dX4_start_115 : decode cX4_start 115 = .ok (.ifCond .eq 27, 3) := by decide +kernel
theorem dX4_start_118 : decode cX4_start 118 = .ok (.aload_n 0, 1) := by decide +kernel
theorem dX4_start_119 : decode cX4_start 119 = .ok (.iload_n 1, 1) := by decide +kernel
theorem dX4_start_120 : decode cX4_start 120 = .ok (.aload 6, 2) := by decide +kernel
theorem dX4_start_122 : decode cX4_start 122 = .ok (.iload 5, 2) := by decide +kernel
theorem dX4_start_124 : decode cX4_start 124 = .ok (.ifCond .ne 11, 3) := by decide +kernel
theorem dX4_start_127 : decode cX4_start 127 = .ok (.aload 6, 2) := by decide +kernel
theorem dX4_start_129 : decode cX4_start 129 = .ok (.invokevirtual 52, 3) := by decide +kernel
theorem dX4_start_132 : decode cX4_start 132 = .ok (.goto 4, 3) := by decide +kernel
theorem dX4_start_135 : decode cX4_start 135 = .ok (.iconst 2, 1) := by decide +kernel
theorem dX4_start_136 : decode cX4_start 136 = .ok (.invokestatic 58, 3) := by decide +kernel
theorem dX4_start_139 : decode cX4_start 139 = .ok (.goto 34, 3) := by decide +kernel
theorem dX4_start_142 : decode cX4_start 142 = .ok (.iload 5, 2) := by decide +kernel
theorem dX4_start_144 : decode cX4_start 144 = .ok (.iconst 3, 1) := by decide +kernel
theorem dX4_start_145 : decode cX4_start 145 = .ok (.if_icmp .ne 19, 3) := by decide +kernel
theorem dX4_start_148 : decode cX4_start 148 = .ok (.aload 6, 2) := by decide +kernel
theorem dX4_start_150 : decode cX4_start 150 = .ok (.getfield 62, 3) := by decide +kernel
theorem dX4_start_153 : decode cX4_start 153 = .ok (.aload 6, 2) := by decide +kernel
theorem dX4_start_155 : decode cX4_start 155 = .ok (.getfield 66, 3) := by decide +kernel
theorem dX4_start_158 : decode cX4_start 158 = .ok (.invokevirtual 69, 3) := by decide +kernel
theorem dX4_start_161 : decode cX4_start 161 = .ok (.goto 12, 3) := by decide +kernel
theorem dX4_start_164 : decode cX4_start 164 = .ok (.aload 6, 2) := by decide +kernel
theorem dX4_start_166 : decode cX4_start 166 = .ok (.getfield 62, 3) := by decide +kernel
theorem dX4_start_169 : decode cX4_start 169 = .ok (.iconst 0, 1) := by decide +kernel
theorem dX4_start_170 : decode cX4_start 170 = .ok (.invokevirtual 75, 3) := by decide +kernel
theorem dX4_start_173 : decode cX4_start 173 = .ok (.iload 7, 2) := by decide +kernel
theorem dX4_start_175 : decode cX4_start 175 = .ok (.invokestatic 39, 3) := by decide +kernel
theorem dX4_start_178 : decode cX4_start 178 = .ok (.ireturn, 1) := by decide +kernel
set_option maxRecDepth 20000 in
theorem zl_X4_start_2 : z_All z_tab cX4_start 9 (some .int) RX4 pc_X4_start 80 (k_X4_start.drop 80) := z_cons (ok_goto (tgt := 173) (by decide) rfl dX4_start_161 rfl) <| z_cons (ok_aload dX4_start_164 rfl rfl) <| z_cons (ok_getr (k := 15) ⟨by decide, by decide, by decide⟩ (ci := 3) (T := TX3) rfl rfl (Nat.le_of_ble_eq_true rfl) iw_X3 qw_159 gr_4_15 (fun _ _ => by simp) (fun w i => List.mem_of_getElem? (i := 3) rfl) dX4_start_166 rfl rfl) <| z_cons (ok_iconst (by decide) dX4_start_169 rfl rfl) <| z_cons (ok_callv ⟨by decide, by decide, by decide⟩ (ci := 2) (C := RX2) (T := TX2) rfl go_3 (k := 20) (n := 1) qw_60 qw_42 ⟨by decide +kernel, by decide +kernel, by decide +kernel⟩ (Nat.le_of_ble_eq_true rfl) qw_165 qw_62 qw_63 dX4_start_170 rfl rfl) <| z_cons (ok_iload dX4_start_173 rfl rfl) <| z_cons (ok_callS (k := 274) (n := 1) qw_25 qw_26 ⟨by decide +kernel, by decide +kernel, by decide +kernel⟩ (Nat.le_of_ble_eq_true rfl) qw_142 qw_27 dX4_start_175 rfl rfl) <| z_cons (ok_iret rfl dX4_start_178 rfl) <| z_nil
set_option maxRecDepth 20000 in
theorem zl_X4_start_1 : z_All z_tab cX4_start 9 (some .int) RX4 pc_X4_start 40 (k_X4_start.drop 40) := z_cons (ok_iconst (by decide) dX4_start_76 rfl rfl) <| z_cons (ok_iand dX4_start_77 rfl rfl) <| z_cons (ok_iconst (by decide) dX4_start_78 rfl rfl) <| z_cons (ok_icmp_ne (tgt := 93) (by decide) rfl dX4_start_79 rfl rfl) <| z_cons (ok_aload_n dX4_start_82 rfl rfl) <| z_cons (ok_getr (k := 1) ⟨by decide, by decide, by decide⟩ (ci := 6) (T := TX8) rfl rfl (Nat.le_of_ble_eq_true rfl) iw_X8 qw_140 gr_9_1 (fun _ _ => by simp) (fun w i => List.mem_of_getElem? (i := 1) rfl) dX4_start_83 rfl rfl) <| z_cons (ok_iload dX4_start_86 rfl rfl) <| z_cons (ok_aald dX4_start_88 rfl rfl) <| z_cons (ok_iload_n dX4_start_89 rfl rfl) <| z_cons (ok_put ⟨by decide, by decide, by decide⟩ (ci := 4) (T := TX6) rfl rfl (Nat.le_of_ble_eq_true rfl) iw_X6 qw_141 tyX6_ok nmX6 rfl pv_7_4 rfl dX4_start_90 rfl rfl) <| z_cons (ok_iinc (by decide) (Nat.le_of_ble_eq_true rfl) dX4_start_93 rfl rfl) <| z_cons (ok_goto (tgt := 64) (by decide) rfl dX4_start_96 rfl) <| z_cons (ok_aload_n dX4_start_99 rfl rfl) <| z_cons (ok_iload_n dX4_start_100 rfl rfl) <| z_cons (ok_iconst (by decide) dX4_start_101 rfl rfl) <| z_cons (ok_iload dX4_start_102 rfl rfl) <| z_cons (ok_callS (k := 274) (n := 1) qw_25 qw_26 ⟨by decide +kernel, by decide +kernel, by decide +kernel⟩ (Nat.le_of_ble_eq_true rfl) qw_142 qw_27 dX4_start_104 rfl rfl) <| z_cons (ok_callv ⟨by decide, by decide, by decide⟩ (ci := 6) (C := RX8) (T := TX8) rfl go_9 (k := 93) (n := 3) qw_143 qw_124 ⟨by decide +kernel, by decide +kernel, by decide +kernel⟩ (Nat.le_of_ble_eq_true rfl) qw_144 qw_145 qw_146 dX4_start_107 rfl rfl) <| z_cons (ok_aload dX4_start_110 rfl rfl) <| z_cons (ok_callv ⟨by decide, by decide, by decide⟩ (ci := 3) (C := RX3) (T := TX3) rfl go_4 (k := 29) (n := 0) qw_147 qw_103 ⟨by decide +kernel, by decide +kernel, by decide +kernel⟩ (Nat.le_of_ble_eq_true rfl) qw_148 qw_149 qw_150 dX4_start_112 rfl rfl) <| z_cons (ok_if_eq (tgt := 142) (by decide) rfl dX4_start_115 rfl rfl) <| z_cons (ok_aload_n dX4_start_118 rfl rfl) <| z_cons (ok_iload_n dX4_start_119 rfl rfl) <| z_cons (ok_aload dX4_start_120 rfl rfl) <| z_cons (ok_iload dX4_start_122 rfl rfl) <| z_cons (ok_if_ne (tgt := 135) (by decide) rfl dX4_start_124 rfl rfl) <| z_cons (ok_aload dX4_start_127 rfl rfl) <| z_cons (ok_callv ⟨by decide, by decide, by decide⟩ (ci := 3) (C := RX3) (T := TX3) rfl go_4 (k := 30) (n := 0) qw_151 qw_103 ⟨by decide +kernel, by decide +kernel, by decide +kernel⟩ (Nat.le_of_ble_eq_true rfl) qw_152 qw_153 qw_154 dX4_start_129 rfl rfl) <| z_cons (ok_goto (tgt := 136) (by decide) rfl dX4_start_132 rfl) <| z_cons (ok_iconst (by decide) dX4_start_135 rfl rfl) <| z_cons (ok_callS (k := 43) (n := 4) qw_155 qw_156 ⟨by decide +kernel, by decide +kernel, by decide +kernel⟩ (Nat.le_of_ble_eq_true rfl) qw_158 qw_157 dX4_start_136 rfl rfl) <| z_cons (ok_goto (tgt := 173) (by decide) rfl dX4_start_139 rfl) <| z_cons (ok_iload dX4_start_142 rfl rfl) <| z_cons (ok_iconst (by decide) dX4_start_144 rfl rfl) <| z_cons (ok_icmp_ne (tgt := 164) (by decide) rfl dX4_start_145 rfl rfl) <| z_cons (ok_aload dX4_start_148 rfl rfl) <| z_cons (ok_getr (k := 15) ⟨by decide, by decide, by decide⟩ (ci := 3) (T := TX3) rfl rfl (Nat.le_of_ble_eq_true rfl) iw_X3 qw_159 gr_4_15 (fun _ _ => by simp) (fun w i => List.mem_of_getElem? (i := 3) rfl) dX4_start_150 rfl rfl) <| z_cons (ok_aload dX4_start_153 rfl rfl) <| z_cons (ok_getr (k := 17) ⟨by decide, by decide, by decide⟩ (ci := 3) (T := TX3) rfl rfl (Nat.le_of_ble_eq_true rfl) iw_X3 qw_160 gr_4_17 (fun _ _ => by simp) (fun w i => List.mem_of_getElem? (i := 5) rfl) dX4_start_155 rfl rfl) <| z_cons (ok_callv ⟨by decide, by decide, by decide⟩ (ci := 2) (C := RX2) (T := TX2) rfl go_3 (k := 24) (n := 1) qw_161 qw_42 ⟨by decide +kernel, by decide +kernel, by decide +kernel⟩ (Nat.le_of_ble_eq_true rfl) qw_162 qw_163 qw_164 dX4_start_158 rfl rfl) <| zl_X4_start_2
set_option maxRecDepth 20000 in
theorem zl_X4_start_0 : z_All z_tab cX4_start 9 (some .int) RX4 pc_X4_start 0 (k_X4_start.drop 0) := z_cons (ok_aload_n dX4_start_0 rfl rfl) <| z_cons (ok_iload_n dX4_start_1 rfl rfl) <| z_cons (ok_callv ⟨by decide, by decide, by decide⟩ (ci := 6) (C := RX8) (T := TX8) rfl go_9 (k := 92) (n := 1) qw_123 qw_124 ⟨by decide +kernel, by decide +kernel, by decide +kernel⟩ (Nat.le_of_ble_eq_true rfl) qw_125 qw_126 qw_127 dX4_start_2 rfl rfl) <| z_cons (ok_astore (Nat.le_of_ble_eq_true rfl) dX4_start_5 rfl rfl) <| z_cons (ok_aload_n dX4_start_7 rfl rfl) <| z_cons (ok_iload_n dX4_start_8 rfl rfl) <| z_cons (ok_iload_n dX4_start_9 rfl rfl) <| z_cons (ok_iload_n dX4_start_10 rfl rfl) <| z_cons (ok_iload dX4_start_11 rfl rfl) <| z_cons (ok_callv ⟨by decide, by decide, by decide⟩ (ci := 6) (C := RX8) (T := TX8) rfl go_9 (k := 109) (n := 4) qw_128 qw_124 ⟨by decide +kernel, by decide +kernel, by decide +kernel⟩ (Nat.le_of_ble_eq_true rfl) qw_129 qw_130 qw_131 dX4_start_13 rfl rfl) <| z_cons (ok_istore (Nat.le_of_ble_eq_true rfl) dX4_start_16 rfl rfl) <| z_cons (ok_aload dX4_start_18 rfl rfl) <| z_cons (ok_ifnull (tgt := 48) (by decide) rfl dX4_start_20 rfl rfl) <| z_cons (ok_aload dX4_start_23 rfl rfl) <| z_cons (ok_callv ⟨by decide, by decide, by decide⟩ (ci := 3) (C := RX3) (T := TX3) rfl go_4 (k := 28) (n := 0) qw_132 qw_103 ⟨by decide +kernel, by decide +kernel, by decide +kernel⟩ (Nat.le_of_ble_eq_true rfl) qw_133 qw_134 qw_135 dX4_start_25 rfl rfl) <| z_cons (ok_if_eq (tgt := 48) (by decide) rfl dX4_start_28 rfl rfl) <| z_cons (ok_iload dX4_start_31 rfl rfl) <| z_cons (ok_iconst (by decide) dX4_start_33 rfl rfl) <| z_cons (ok_icmp_eq (tgt := 48) (by decide) rfl dX4_start_34 rfl rfl) <| z_cons (ok_iload dX4_start_37 rfl rfl) <| z_cons (ok_if_lt (tgt := 48) (by decide) rfl dX4_start_39 rfl rfl) <| z_cons (ok_iload dX4_start_42 rfl rfl) <| z_cons (ok_iconst (by decide) dX4_start_44 rfl rfl) <| z_cons (ok_icmp_le (tgt := 50) (by decide) rfl dX4_start_45 rfl rfl) <| z_cons (ok_iconst (by decide) dX4_start_48 rfl rfl) <| z_cons (ok_iret rfl dX4_start_49 rfl) <| z_cons (ok_aload dX4_start_50 rfl rfl) <| z_cons (ok_iload_n dX4_start_52 rfl rfl) <| z_cons (ok_iload_n dX4_start_53 rfl rfl) <| z_cons (ok_iload dX4_start_54 rfl rfl) <| z_cons (ok_iload dX4_start_56 rfl rfl) <| z_cons (ok_callv ⟨by decide, by decide, by decide⟩ (ci := 3) (C := RX3) (T := TX3) rfl go_4 (k := 32) (n := 4) qw_136 qw_103 ⟨by decide +kernel, by decide +kernel, by decide +kernel⟩ (Nat.le_of_ble_eq_true rfl) qw_137 qw_138 qw_139 dX4_start_58 rfl rfl) <| z_cons (ok_iconst (by decide) dX4_start_61 rfl rfl) <| z_cons (ok_istore (Nat.le_of_ble_eq_true rfl) dX4_start_62 rfl rfl) <| z_cons (ok_iload dX4_start_64 rfl rfl) <| z_cons (ok_bipush (by decide) dX4_start_66 rfl rfl) <| z_cons (ok_icmp_ge (tgt := 99) (by decide) rfl dX4_start_68 rfl rfl) <| z_cons (ok_iload dX4_start_71 rfl rfl) <| z_cons (ok_iload dX4_start_73 rfl rfl) <| z_cons (ok_ishr dX4_start_75 rfl rfl) <| zl_X4_start_1
theorem dX4_interrupt_0 : decode cX4_interrupt 0 = .ok (.aload_n 0, 1) := by decide +kernel
theorem dX4_interrupt_1 : decode cX4_interrupt 1 = .ok (.iload_n 1, 1) := by decide +kernel
theorem dX4_interrupt_2 : decode cX4_interrupt 2 = .ok (.invokevirtual 9, 3) := by decide +kernel
theorem dX4_interrupt_5 : decode cX4_interrupt 5 = .ok (.astore_n 2, 1) := by decide +kernel
theorem dX4_interrupt_6 : decode cX4_interrupt 6 = .ok (.aload_n 2, 1) := by decide +kernel
theorem dX4_interrupt_7 : decode cX4_interrupt 7 = .ok (.ifnull 10, 3) := by decide +kernel
theorem dX4_interrupt_10 : decode cX4_interrupt 10 = .ok (.aload_n 2, 1) := by decide +kernel
theorem dX4_interrupt_11 : decode cX4_interrupt 11 = .ok (.getfield 79, 3) := by decide +kernel
theorem dX4_interrupt_14 : decode cX4_interrupt 14 = .ok (.ifCond .ne 5, 3) := by decide +kernel
theorem dX4_interrupt_17 : decode cX4_interrupt 17 = .ok (.iconst 0, 1) := by decide +kernel
theorem dX4_interrupt_18 : decode cX4_interrupt 18 = .ok (.ireturn, 1) := by decide +kernel
theorem dX4_interrupt_19 : decode cX4_interrupt 19 = .ok (.aload_n 0, 1) := by decide +kernel
theorem dX4_interrupt_20 : decode cX4_interrupt 20 = .ok (.iload_n 1, 1) := by decide +kernel
theorem dX4_interrupt_21 : decode cX4_interrupt 21 = .ok (.invokestatic 83, 3) := by decide +kernel
theorem dX4_interrupt_24 : decode cX4_interrupt 24 = .ok (.aload_n 2, 1) := by decide +kernel
theorem dX4_interrupt_25 : decode cX4_interrupt 25 = .ok (.invokevirtual 87, 3) := by decide +kernel
theorem dX4_interrupt_28 : decode cX4_interrupt 28 = .ok (.aload_n 0, 1) := by decide +kernel
theorem dX4_interrupt_29 : decode cX4_interrupt 29 = .ok (.getfield 90, 3) := by decide +kernel
theorem dX4_interrupt_32 : decode cX4_interrupt 32 = .ok (.bipush 6, 2) := by decide +kernel
theorem dX4_interrupt_34 : decode cX4_interrupt 34 = .ok (.dup2, 1) := by decide +kernel
theorem dX4_interrupt_35 : decode cX4_interrupt 35 = .ok (.iaload, 1) := by decide +kernel
theorem dX4_interrupt_36 : decode cX4_interrupt 36 = .ok (.iconst 1, 1) := by decide +kernel
theorem dX4_interrupt_37 : decode cX4_interrupt 37 = .ok (.iadd, 1) := by decide +kernel
theorem dX4_interrupt_38 : decode cX4_interrupt 38 = .ok (.iastore, 1) := by decide +kernel
theorem dX4_interrupt_39 : decode cX4_interrupt 39 = .ok (.aload_n 0, 1) := by decide +kernel
theorem dX4_interrupt_40 : decode cX4_interrupt 40 = .ok (.iload_n 1, 1) := by decide +kernel
theorem dX4_interrupt_41 : decode cX4_interrupt 41 = .ok (.iconst 5, 1) := by decide +kernel
theorem dX4_interrupt_42 : decode cX4_interrupt 42 = .ok (.aload_n 2, 1) := by decide +kernel
theorem dX4_interrupt_43 : decode cX4_interrupt 43 = .ok (.getfield 94, 3) := by decide +kernel
theorem dX4_interrupt_46 : decode cX4_interrupt 46 = .ok (.getfield 98, 3) := by decide +kernel
theorem dX4_interrupt_49 : decode cX4_interrupt 49 = .ok (.invokevirtual 45, 3) := by decide +kernel
theorem dX4_interrupt_52 : decode cX4_interrupt 52 = .ok (.iconst 1, 1) := by decide +kernel
theorem dX4_interrupt_53 : decode cX4_interrupt 53 = .ok (.ireturn, 1) := by decide +kernel
set_option maxRecDepth 20000 in
theorem zl_X4_interrupt_0 : z_All z_tab cX4_interrupt 3 (some .boolean) RX4 pc_X4_interrupt 0 (k_X4_interrupt.drop 0) := z_cons (ok_aload_n dX4_interrupt_0 rfl rfl) <| z_cons (ok_iload_n dX4_interrupt_1 rfl rfl) <| z_cons (ok_callv ⟨by decide, by decide, by decide⟩ (ci := 6) (C := RX8) (T := TX8) rfl go_9 (k := 92) (n := 1) qw_123 qw_124 ⟨by decide +kernel, by decide +kernel, by decide +kernel⟩ (Nat.le_of_ble_eq_true rfl) qw_125 qw_126 qw_127 dX4_interrupt_2 rfl rfl) <| z_cons (ok_astore_n (Nat.le_of_ble_eq_true rfl) dX4_interrupt_5 rfl rfl) <| z_cons (ok_aload_n dX4_interrupt_6 rfl rfl) <| z_cons (ok_ifnull (tgt := 17) (by decide) rfl dX4_interrupt_7 rfl rfl) <| z_cons (ok_aload_n dX4_interrupt_10 rfl rfl) <| z_cons (ok_get ⟨by decide, by decide, by decide⟩ (ci := 3) (T := TX3) rfl rfl (Nat.le_of_ble_eq_true rfl) iw_X3 qw_166 gv_4_1 dX4_interrupt_11 rfl rfl) <| z_cons (ok_if_ne (tgt := 19) (by decide) rfl dX4_interrupt_14 rfl rfl) <| z_cons (ok_iconst (by decide) dX4_interrupt_17 rfl rfl) <| z_cons (ok_zret rfl dX4_interrupt_18 rfl) <| z_cons (ok_aload_n dX4_interrupt_19 rfl rfl) <| z_cons (ok_iload_n dX4_interrupt_20 rfl rfl) <| z_cons (ok_callS (k := 55) (n := 2) qw_167 qw_156 ⟨by decide +kernel, by decide +kernel, by decide +kernel⟩ (Nat.le_of_ble_eq_true rfl) qw_169 qw_168 dX4_interrupt_21 rfl rfl) <| z_cons (ok_aload_n dX4_interrupt_24 rfl rfl) <| z_cons (ok_callv ⟨by decide, by decide, by decide⟩ (ci := 3) (C := RX3) (T := TX3) rfl go_4 (k := 33) (n := 0) qw_170 qw_103 ⟨by decide +kernel, by decide +kernel, by decide +kernel⟩ (Nat.le_of_ble_eq_true rfl) qw_171 qw_172 qw_173 dX4_interrupt_25 rfl rfl) <| z_cons (ok_aload_n dX4_interrupt_28 rfl rfl) <| z_cons (ok_getr (k := 4) ⟨by decide, by decide, by decide⟩ (ci := 6) (T := TX8) rfl rfl (Nat.le_of_ble_eq_true rfl) iw_X8 qw_174 gr_9_4 (fun _ _ => by simp) (fun w i => List.mem_of_getElem? (i := 4) rfl) dX4_interrupt_29 rfl rfl) <| z_cons (ok_bipush (by decide) dX4_interrupt_32 rfl rfl) <| z_cons (ok_dup2 dX4_interrupt_34 rfl rfl) <| z_cons (ok_iald dX4_interrupt_35 rfl rfl) <| z_cons (ok_iconst (by decide) dX4_interrupt_36 rfl rfl) <| z_cons (ok_iadd dX4_interrupt_37 rfl rfl) <| z_cons (ok_iast dX4_interrupt_38 rfl rfl) <| z_cons (ok_aload_n dX4_interrupt_39 rfl rfl) <| z_cons (ok_iload_n dX4_interrupt_40 rfl rfl) <| z_cons (ok_iconst (by decide) dX4_interrupt_41 rfl rfl) <| z_cons (ok_aload_n dX4_interrupt_42 rfl rfl) <| z_cons (ok_getr (k := 12) ⟨by decide, by decide, by decide⟩ (ci := 3) (T := TX3) rfl rfl (Nat.le_of_ble_eq_true rfl) iw_X3 qw_175 gr_4_12 (fun _ _ => by simp) (fun w i => List.mem_of_getElem? (i := 0) rfl) dX4_interrupt_43 rfl rfl) <| z_cons (ok_get ⟨by decide, by decide, by decide⟩ (ci := 5) (T := TX7) rfl rfl (Nat.le_of_ble_eq_true rfl) iw_X7 qw_176 gv_8_1 dX4_interrupt_46 rfl rfl) <| z_cons (ok_callv ⟨by decide, by decide, by decide⟩ (ci := 6) (C := RX8) (T := TX8) rfl go_9 (k := 93) (n := 3) qw_143 qw_124 ⟨by decide +kernel, by decide +kernel, by decide +kernel⟩ (Nat.le_of_ble_eq_true rfl) qw_144 qw_145 qw_146 dX4_interrupt_49 rfl rfl) <| z_cons (ok_iconst (by decide) dX4_interrupt_52 rfl rfl) <| z_cons (ok_zret rfl dX4_interrupt_53 rfl) <| z_nil
theorem dX4_ask_0 : decode cX4_ask 0 = .ok (.aload_n 0, 1) := by decide +kernel
theorem dX4_ask_1 : decode cX4_ask 1 = .ok (.iload_n 1, 1) := by decide +kernel
theorem dX4_ask_2 : decode cX4_ask 2 = .ok (.invokevirtual 9, 3) := by decide +kernel
theorem dX4_ask_5 : decode cX4_ask 5 = .ok (.astore_n 3, 1) := by decide +kernel
theorem dX4_ask_6 : decode cX4_ask 6 = .ok (.aload_n 3, 1) := by decide +kernel
theorem dX4_ask_7 : decode cX4_ask 7 = .ok (.ifnonnull 4, 3) := by decide +kernel
theorem dX4_ask_10 : decode cX4_ask 10 = .ok (.return_, 1) := by decide +kernel
theorem dX4_ask_11 : decode cX4_ask 11 = .ok (.aload_n 3, 1) := by decide +kernel
theorem dX4_ask_12 : decode cX4_ask 12 = .ok (.invokevirtual 49, 3) := by decide +kernel
theorem dX4_ask_15 : decode cX4_ask 15 = .ok (.ifCond .eq 34, 3) := by decide +kernel
theorem dX4_ask_18 : decode cX4_ask 18 = .ok (.aload_n 0, 1) := by decide +kernel
theorem dX4_ask_19 : decode cX4_ask 19 = .ok (.iload_n 1, 1) := by decide +kernel
theorem dX4_ask_20 : decode cX4_ask 20 = .ok (.invokestatic 103, 3) := by decide +kernel
theorem dX4_ask_23 : decode cX4_ask 23 = .ok (.iload_n 2, 1) := by decide +kernel
theorem dX4_ask_24 : decode cX4_ask 24 = .ok (.iconst (-1), 1) := by decide +kernel
theorem dX4_ask_25 : decode cX4_ask 25 = .ok (.ixor, 1) := by decide +kernel
theorem dX4_ask_26 : decode cX4_ask 26 = .ok (.iand, 1) := by decide +kernel
theorem dX4_ask_27 : decode cX4_ask 27 = .ok (.istore 4, 2) := by decide +kernel
theorem dX4_ask_29 : decode cX4_ask 29 = .ok (.aload_n 0, 1) := by decide +kernel
theorem dX4_ask_30 : decode cX4_ask 30 = .ok (.iload_n 1, 1) := by decide +kernel
theorem dX4_ask_31 : decode cX4_ask 31 = .ok (.aload_n 3, 1) := by decide +kernel
theorem dX4_ask_32 : decode cX4_ask 32 = .ok (.iload 4, 2) := by decide +kernel
theorem dX4_ask_34 : decode cX4_ask 34 = .ok (.invokestatic 107, 3) := by decide +kernel
theorem dX4_ask_37 : decode cX4_ask 37 = .ok (.aload_n 0, 1) := by decide +kernel
theorem dX4_ask_38 : decode cX4_ask 38 = .ok (.iload_n 1, 1) := by decide +kernel
theorem dX4_ask_39 : decode cX4_ask 39 = .ok (.aload_n 3, 1) := by decide +kernel
theorem dX4_ask_40 : decode cX4_ask 40 = .ok (.iload 4, 2) := by decide +kernel
theorem dX4_ask_42 : decode cX4_ask 42 = .ok (.iload_n 2, 1) := by decide +kernel
theorem dX4_ask_43 : decode cX4_ask 43 = .ok (.invokestatic 110, 3) := by decide +kernel
theorem dX4_ask_46 : decode cX4_ask 46 = .ok (.goto 46, 3) := by decide +kernel
theorem dX4_ask_49 : decode cX4_ask 49 = .ok (.aload_n 3, 1) := by decide +kernel
theorem dX4_ask_50 : decode cX4_ask 50 = .ok (.getfield 62, 3) := by decide +kernel
theorem dX4_ask_53 : decode cX4_ask 53 = .ok (.invokevirtual 114, 3) := by decide +kernel
theorem dX4_ask_56 : decode cX4_ask 56 = .ok (.istore 4, 2) := by decide +kernel
theorem dX4_ask_58 : decode cX4_ask 58 = .ok (.aload_n 0, 1) := by decide +kernel
theorem dX4_ask_59 : decode cX4_ask 59 = .ok (.iload_n 1, 1) := by decide +kernel
theorem dX4_ask_60 : decode cX4_ask 60 = .ok (.iload 4, 2) := by decide +kernel
theorem dX4_ask_62 : decode cX4_ask 62 = .ok (.invokestatic 117, 3) := by decide +kernel
theorem dX4_ask_65 : decode cX4_ask 65 = .ok (.iload_n 2, 1) := by decide +kernel
theorem dX4_ask_66 : decode cX4_ask 66 = .ok (.iconst (-1), 1) := by decide +kernel
theorem dX4_ask_67 : decode cX4_ask 67 = .ok (.ixor, 1) := by decide +kernel
theorem dX4_ask_68 : decode cX4_ask 68 = .ok (.iand, 1) := by decide +kernel
theorem dX4_ask_69 : decode cX4_ask 69 = .ok (.istore 5, 2) := by decide +kernel
theorem dX4_ask_71 : decode cX4_ask 71 = .ok (.aload_n 0, 1) := by decide +kernel
theorem dX4_ask_72 : decode cX4_ask 72 = .ok (.iload_n 1, 1) := by decide +kernel
theorem dX4_ask_73 : decode cX4_ask 73 = .ok (.aload_n 3, 1) := by decide +kernel
theorem dX4_ask_74 : decode cX4_ask 74 = .ok (.iload 5, 2) := by decide +kernel
theorem dX4_ask_76 : decode cX4_ask 76 = .ok (.invokestatic 107, 3) := by decide +kernel
theorem dX4_ask_79 : decode cX4_ask 79 = .ok (.aload_n 0, 1) := by decide +kernel
theorem dX4_ask_80 : decode cX4_ask 80 = .ok (.iload_n 1, 1) := by decide +kernel
theorem dX4_ask_81 : decode cX4_ask 81 = .ok (.aload_n 3, 1) := by decide +kernel
theorem dX4_ask_82 : decode cX4_ask 82 = .ok (.iload 4, 2) := by decide +kernel
theorem dX4_ask_84 : decode cX4_ask 84 = .ok (.iload 5, 2) := by decide +kernel
theorem dX4_ask_86 : decode cX4_ask 86 = .ok (.invokestatic 39, 3) := by decide +kernel
theorem dX4_ask_89 : decode cX4_ask 89 = .ok (.invokestatic 121, 3) := by decide +kernel
theorem dX4_ask_92 : decode cX4_ask 92 = .ok (.return_, 1) := by decide +kernel
set_option maxRecDepth 20000 in
theorem zl_X4_ask_1 : z_All z_tab cX4_ask 6 none RX4 pc_X4_ask 40 (k_X4_ask.drop 40) := z_cons (ok_ixor dX4_ask_67 rfl rfl) <| z_cons (ok_iand dX4_ask_68 rfl rfl) <| z_cons (ok_istore (Nat.le_of_ble_eq_true rfl) dX4_ask_69 rfl rfl) <| z_cons (ok_aload_n dX4_ask_71 rfl rfl) <| z_cons (ok_iload_n dX4_ask_72 rfl rfl) <| z_cons (ok_aload_n dX4_ask_73 rfl rfl) <| z_cons (ok_iload dX4_ask_74 rfl rfl) <| z_cons (ok_callS (k := 46) (n := 4) qw_180 qw_156 ⟨by decide +kernel, by decide +kernel, by decide +kernel⟩ (Nat.le_of_ble_eq_true rfl) qw_182 qw_181 dX4_ask_76 rfl rfl) <| z_cons (ok_aload_n dX4_ask_79 rfl rfl) <| z_cons (ok_iload_n dX4_ask_80 rfl rfl) <| z_cons (ok_aload_n dX4_ask_81 rfl rfl) <| z_cons (ok_iload dX4_ask_82 rfl rfl) <| z_cons (ok_iload dX4_ask_84 rfl rfl) <| z_cons (ok_callS (k := 274) (n := 1) qw_25 qw_26 ⟨by decide +kernel, by decide +kernel, by decide +kernel⟩ (Nat.le_of_ble_eq_true rfl) qw_142 qw_27 dX4_ask_86 rfl rfl) <| z_cons (ok_callS (k := 53) (n := 5) qw_190 qw_156 ⟨by decide +kernel, by decide +kernel, by decide +kernel⟩ (Nat.le_of_ble_eq_true rfl) qw_192 qw_191 dX4_ask_89 rfl rfl) <| z_cons (ok_ret rfl dX4_ask_92 rfl) <| z_nil
set_option maxRecDepth 20000 in
theorem zl_X4_ask_0 : z_All z_tab cX4_ask 6 none RX4 pc_X4_ask 0 (k_X4_ask.drop 0) := z_cons (ok_aload_n dX4_ask_0 rfl rfl) <| z_cons (ok_iload_n dX4_ask_1 rfl rfl) <| z_cons (ok_callv ⟨by decide, by decide, by decide⟩ (ci := 6) (C := RX8) (T := TX8) rfl go_9 (k := 92) (n := 1) qw_123 qw_124 ⟨by decide +kernel, by decide +kernel, by decide +kernel⟩ (Nat.le_of_ble_eq_true rfl) qw_125 qw_126 qw_127 dX4_ask_2 rfl rfl) <| z_cons (ok_astore_n (Nat.le_of_ble_eq_true rfl) dX4_ask_5 rfl rfl) <| z_cons (ok_aload_n dX4_ask_6 rfl rfl) <| z_cons (ok_ifnonnull (tgt := 11) (by decide) rfl dX4_ask_7 rfl rfl) <| z_cons (ok_ret rfl dX4_ask_10 rfl) <| z_cons (ok_aload_n dX4_ask_11 rfl rfl) <| z_cons (ok_callv ⟨by decide, by decide, by decide⟩ (ci := 3) (C := RX3) (T := TX3) rfl go_4 (k := 29) (n := 0) qw_147 qw_103 ⟨by decide +kernel, by decide +kernel, by decide +kernel⟩ (Nat.le_of_ble_eq_true rfl) qw_148 qw_149 qw_150 dX4_ask_12 rfl rfl) <| z_cons (ok_if_eq (tgt := 49) (by decide) rfl dX4_ask_15 rfl rfl) <| z_cons (ok_aload_n dX4_ask_18 rfl rfl) <| z_cons (ok_iload_n dX4_ask_19 rfl rfl) <| z_cons (ok_callS (k := 44) (n := 2) qw_177 qw_156 ⟨by decide +kernel, by decide +kernel, by decide +kernel⟩ (Nat.le_of_ble_eq_true rfl) qw_179 qw_178 dX4_ask_20 rfl rfl) <| z_cons (ok_iload_n dX4_ask_23 rfl rfl) <| z_cons (ok_iconst (by decide) dX4_ask_24 rfl rfl) <| z_cons (ok_ixor dX4_ask_25 rfl rfl) <| z_cons (ok_iand dX4_ask_26 rfl rfl) <| z_cons (ok_istore (Nat.le_of_ble_eq_true rfl) dX4_ask_27 rfl rfl) <| z_cons (ok_aload_n dX4_ask_29 rfl rfl) <| z_cons (ok_iload_n dX4_ask_30 rfl rfl) <| z_cons (ok_aload_n dX4_ask_31 rfl rfl) <| z_cons (ok_iload dX4_ask_32 rfl rfl) <| z_cons (ok_callS (k := 46) (n := 4) qw_180 qw_156 ⟨by decide +kernel, by decide +kernel, by decide +kernel⟩ (Nat.le_of_ble_eq_true rfl) qw_182 qw_181 dX4_ask_34 rfl rfl) <| z_cons (ok_aload_n dX4_ask_37 rfl rfl) <| z_cons (ok_iload_n dX4_ask_38 rfl rfl) <| z_cons (ok_aload_n dX4_ask_39 rfl rfl) <| z_cons (ok_iload dX4_ask_40 rfl rfl) <| z_cons (ok_iload_n dX4_ask_42 rfl rfl) <| z_cons (ok_callS (k := 48) (n := 5) qw_183 qw_156 ⟨by decide +kernel, by decide +kernel, by decide +kernel⟩ (Nat.le_of_ble_eq_true rfl) qw_185 qw_184 dX4_ask_43 rfl rfl) <| z_cons (ok_goto (tgt := 92) (by decide) rfl dX4_ask_46 rfl) <| z_cons (ok_aload_n dX4_ask_49 rfl rfl) <| z_cons (ok_getr (k := 15) ⟨by decide, by decide, by decide⟩ (ci := 3) (T := TX3) rfl rfl (Nat.le_of_ble_eq_true rfl) iw_X3 qw_159 gr_4_15 (fun _ _ => by simp) (fun w i => List.mem_of_getElem? (i := 3) rfl) dX4_ask_50 rfl rfl) <| z_cons (ok_callv ⟨by decide, by decide, by decide⟩ (ci := 2) (C := RX2) (T := TX2) rfl go_3 (k := 21) (n := 0) qw_68 qw_42 ⟨by decide +kernel, by decide +kernel, by decide +kernel⟩ (Nat.le_of_ble_eq_true rfl) qw_186 qw_70 qw_71 dX4_ask_53 rfl rfl) <| z_cons (ok_istore (Nat.le_of_ble_eq_true rfl) dX4_ask_56 rfl rfl) <| z_cons (ok_aload_n dX4_ask_58 rfl rfl) <| z_cons (ok_iload_n dX4_ask_59 rfl rfl) <| z_cons (ok_iload dX4_ask_60 rfl rfl) <| z_cons (ok_callS (k := 45) (n := 3) qw_187 qw_156 ⟨by decide +kernel, by decide +kernel, by decide +kernel⟩ (Nat.le_of_ble_eq_true rfl) qw_189 qw_188 dX4_ask_62 rfl rfl) <| z_cons (ok_iload_n dX4_ask_65 rfl rfl) <| z_cons (ok_iconst (by decide) dX4_ask_66 rfl rfl) <| zl_X4_ask_1
theorem dX4_newFrame_0 : decode cX4_newFrame 0 = .ok (.aload_n 2, 1) := by decide +kernel
theorem dX4_newFrame_1 : decode cX4_newFrame 1 = .ok (.iload_n 3, 1) := by decide +kernel
theorem dX4_newFrame_2 : decode cX4_newFrame 2 = .ok (.putfield 124, 3) := by decide +kernel
theorem dX4_newFrame_5 : decode cX4_newFrame 5 = .ok (.aload_n 2, 1) := by decide +kernel
theorem dX4_newFrame_6 : decode cX4_newFrame 6 = .ok (.getfield 127, 3) := by decide +kernel
theorem dX4_newFrame_9 : decode cX4_newFrame 9 = .ok (.invokevirtual 130, 3) := by decide +kernel
theorem dX4_newFrame_12 : decode cX4_newFrame 12 = .ok (.aload_n 2, 1) := by decide +kernel
theorem dX4_newFrame_13 : decode cX4_newFrame 13 = .ok (.dup, 1) := by decide +kernel
theorem dX4_newFrame_14 : decode cX4_newFrame 14 = .ok (.getfield 133, 3) := by decide +kernel
theorem dX4_newFrame_17 : decode cX4_newFrame 17 = .ok (.iconst 1, 1) := by decide +kernel
theorem dX4_newFrame_18 : decode cX4_newFrame 18 = .ok (.iadd, 1) := by decide +kernel
theorem dX4_newFrame_19 : decode cX4_newFrame 19 = .ok (.putfield 133, 3) := by decide +kernel
theorem dX4_newFrame_22 : decode cX4_newFrame 22 = .ok (.aload_n 0, 1) := by decide +kernel
theorem dX4_newFrame_23 : decode cX4_newFrame 23 = .ok (.getfield 90, 3) := by decide +kernel
theorem dX4_newFrame_26 : decode cX4_newFrame 26 = .ok (.iconst 4, 1) := by decide +kernel
theorem dX4_newFrame_27 : decode cX4_newFrame 27 = .ok (.dup2, 1) := by decide +kernel
theorem dX4_newFrame_28 : decode cX4_newFrame 28 = .ok (.iaload, 1) := by decide +kernel
theorem dX4_newFrame_29 : decode cX4_newFrame 29 = .ok (.iconst 1, 1) := by decide +kernel
theorem dX4_newFrame_30 : decode cX4_newFrame 30 = .ok (.iadd, 1) := by decide +kernel
theorem dX4_newFrame_31 : decode cX4_newFrame 31 = .ok (.iastore, 1) := by decide +kernel
theorem dX4_newFrame_32 : decode cX4_newFrame 32 = .ok (.iconst 0, 1) := by decide +kernel
theorem dX4_newFrame_33 : decode cX4_newFrame 33 = .ok (.istore 4, 2) := by decide +kernel
theorem dX4_newFrame_35 : decode cX4_newFrame 35 = .ok (.iload 4, 2) := by decide +kernel
theorem dX4_newFrame_37 : decode cX4_newFrame 37 = .ok (.bipush 24, 2) := by decide +kernel
theorem dX4_newFrame_39 : decode cX4_newFrame 39 = .ok (.if_icmp .ge 40, 3) := by decide +kernel
theorem dX4_newFrame_42 : decode cX4_newFrame 42 = .ok (.aload_n 0, 1) := by decide +kernel
theorem dX4_newFrame_43 : decode cX4_newFrame 43 = .ok (.getfield 29, 3) := by decide +kernel
theorem dX4_newFrame_46 : decode cX4_newFrame 46 = .ok (.iload 4, 2) := by decide +kernel
theorem dX4_newFrame_48 : decode cX4_newFrame 48 = .ok (.aaload, 1) := by decide +kernel
theorem dX4_newFrame_49 : decode cX4_newFrame 49 = .ok (.getfield 33, 3) := by decide +kernel
theorem dX4_newFrame_52 : decode cX4_newFrame 52 = .ok (.iload_n 1, 1) := by decide +kernel
theorem dX4_newFrame_53 : decode cX4_newFrame 53 = .ok (.if_icmp .ne 20, 3) := by decide +kernel
theorem dX4_newFrame_56 : decode cX4_newFrame 56 = .ok (.aload_n 0, 1) := by decide +kernel
theorem dX4_newFrame_57 : decode cX4_newFrame 57 = .ok (.getfield 29, 3) := by decide +kernel
theorem dX4_newFrame_60 : decode cX4_newFrame 60 = .ok (.iload 4, 2) := by decide +kernel
theorem dX4_newFrame_62 : decode cX4_newFrame 62 = .ok (.aaload, 1) := by decide +kernel
theorem dX4_newFrame_63 : decode cX4_newFrame 63 = .ok (.aload_n 0, 1) := by decide +kernel
theorem dX4_newFrame_64 : decode cX4_newFrame 64 = .ok (.iconst 1, 1) := by decide +kernel
theorem dX4_newFrame_65 : decode cX4_newFrame 65 = .ok (.iload_n 3, 1) := by decide +kernel
theorem dX4_newFrame_66 : decode cX4_newFrame 66 = .ok (.ishl, 1) := by decide +kernel
theorem dX4_newFrame_67 : decode cX4_newFrame 67 = .ok (.invokevirtual 136, 3) := by decide +kernel
theorem dX4_newFrame_70 : decode cX4_newFrame 70 = .ok (.putfield 139, 3) := by decide +kernel
theorem dX4_newFrame_73 : decode cX4_newFrame 73 = .ok (.iinc 4 1, 3) := by decide +kernel
theorem dX4_newFrame_76 : decode cX4_newFrame 76 = .ok (.goto (-41), 3) := by decide +kernel
theorem dX4_newFrame_79 : decode cX4_newFrame 79 = .ok (.return_, 1) := by decide +kernel
set_option maxRecDepth 20000 in
theorem zl_X4_newFrame_1 : z_All z_tab cX4_newFrame 5 none RX4 pc_X4_newFrame 40 (k_X4_newFrame.drop 40) := z_cons (ok_callv ⟨by decide, by decide, by decide⟩ (ci := 6) (C := RX8) (T := TX8) rfl go_9 (k := 94) (n := 1) qw_197 qw_124 ⟨by decide +kernel, by decide +kernel, by decide +kernel⟩ (Nat.le_of_ble_eq_true rfl) qw_198 qw_199 qw_200 dX4_newFrame_67 rfl rfl) <| z_cons (ok_put ⟨by decide, by decide, by decide⟩ (ci := 4) (T := TX6) rfl rfl (Nat.le_of_ble_eq_true rfl) iw_X6 qw_201 tyX6_ok nmX6 rfl pv_7_5 rfl dX4_newFrame_70 rfl rfl) <| z_cons (ok_iinc (by decide) (Nat.le_of_ble_eq_true rfl) dX4_newFrame_73 rfl rfl) <| z_cons (ok_goto (tgt := 35) (by decide) rfl dX4_newFrame_76 rfl) <| z_cons (ok_ret rfl dX4_newFrame_79 rfl) <| z_nil
set_option maxRecDepth 20000 in
theorem zl_X4_newFrame_0 : z_All z_tab cX4_newFrame 5 none RX4 pc_X4_newFrame 0 (k_X4_newFrame.drop 0) := z_cons (ok_aload_n dX4_newFrame_0 rfl rfl) <| z_cons (ok_iload_n dX4_newFrame_1 rfl rfl) <| z_cons (ok_put ⟨by decide, by decide, by decide⟩ (ci := 3) (T := TX3) rfl rfl (Nat.le_of_ble_eq_true rfl) iw_X3 qw_193 tyX3_ok nmX3 rfl pv_4_9 rfl dX4_newFrame_2 rfl rfl) <| z_cons (ok_aload_n dX4_newFrame_5 rfl rfl) <| z_cons (ok_getr (k := 13) ⟨by decide, by decide, by decide⟩ (ci := 3) (T := TX3) rfl rfl (Nat.le_of_ble_eq_true rfl) iw_X3 qw_194 gr_4_13 (fun _ _ => by simp) (fun w i => List.mem_of_getElem? (i := 1) rfl) dX4_newFrame_6 rfl rfl) <| z_cons (ok_callv ⟨by decide, by decide, by decide⟩ (ci := 5) (C := RX7) (T := TX7) rfl go_8 (k := 87) (n := 0) qw_85 qw_86 ⟨by decide +kernel, by decide +kernel, by decide +kernel⟩ (Nat.le_of_ble_eq_true rfl) qw_195 qw_88 qw_89 dX4_newFrame_9 rfl rfl) <| z_cons (ok_aload_n dX4_newFrame_12 rfl rfl) <| z_cons (ok_dup dX4_newFrame_13 rfl rfl) <| z_cons (ok_get ⟨by decide, by decide, by decide⟩ (ci := 3) (T := TX3) rfl rfl (Nat.le_of_ble_eq_true rfl) iw_X3 qw_196 gv_4_10 dX4_newFrame_14 rfl rfl) <| z_cons (ok_iconst (by decide) dX4_newFrame_17 rfl rfl) <| z_cons (ok_iadd dX4_newFrame_18 rfl rfl) <| z_cons (ok_put ⟨by decide, by decide, by decide⟩ (ci := 3) (T := TX3) rfl rfl (Nat.le_of_ble_eq_true rfl) iw_X3 qw_196 tyX3_ok nmX3 rfl pv_4_10 rfl dX4_newFrame_19 rfl rfl) <| z_cons (ok_aload_n dX4_newFrame_22 rfl rfl) <| z_cons (ok_getr (k := 4) ⟨by decide, by decide, by decide⟩ (ci := 6) (T := TX8) rfl rfl (Nat.le_of_ble_eq_true rfl) iw_X8 qw_174 gr_9_4 (fun _ _ => by simp) (fun w i => List.mem_of_getElem? (i := 4) rfl) dX4_newFrame_23 rfl rfl) <| z_cons (ok_iconst (by decide) dX4_newFrame_26 rfl rfl) <| z_cons (ok_dup2 dX4_newFrame_27 rfl rfl) <| z_cons (ok_iald dX4_newFrame_28 rfl rfl) <| z_cons (ok_iconst (by decide) dX4_newFrame_29 rfl rfl) <| z_cons (ok_iadd dX4_newFrame_30 rfl rfl) <| z_cons (ok_iast dX4_newFrame_31 rfl rfl) <| z_cons (ok_iconst (by decide) dX4_newFrame_32 rfl rfl) <| z_cons (ok_istore (Nat.le_of_ble_eq_true rfl) dX4_newFrame_33 rfl rfl) <| z_cons (ok_iload dX4_newFrame_35 rfl rfl) <| z_cons (ok_bipush (by decide) dX4_newFrame_37 rfl rfl) <| z_cons (ok_icmp_ge (tgt := 79) (by decide) rfl dX4_newFrame_39 rfl rfl) <| z_cons (ok_aload_n dX4_newFrame_42 rfl rfl) <| z_cons (ok_getr (k := 1) ⟨by decide, by decide, by decide⟩ (ci := 6) (T := TX8) rfl rfl (Nat.le_of_ble_eq_true rfl) iw_X8 qw_140 gr_9_1 (fun _ _ => by simp) (fun w i => List.mem_of_getElem? (i := 1) rfl) dX4_newFrame_43 rfl rfl) <| z_cons (ok_iload dX4_newFrame_46 rfl rfl) <| z_cons (ok_aald dX4_newFrame_48 rfl rfl) <| z_cons (ok_get ⟨by decide, by decide, by decide⟩ (ci := 4) (T := TX6) rfl rfl (Nat.le_of_ble_eq_true rfl) iw_X6 qw_141 gv_7_4 dX4_newFrame_49 rfl rfl) <| z_cons (ok_iload_n dX4_newFrame_52 rfl rfl) <| z_cons (ok_icmp_ne (tgt := 73) (by decide) rfl dX4_newFrame_53 rfl rfl) <| z_cons (ok_aload_n dX4_newFrame_56 rfl rfl) <| z_cons (ok_getr (k := 1) ⟨by decide, by decide, by decide⟩ (ci := 6) (T := TX8) rfl rfl (Nat.le_of_ble_eq_true rfl) iw_X8 qw_140 gr_9_1 (fun _ _ => by simp) (fun w i => List.mem_of_getElem? (i := 1) rfl) dX4_newFrame_57 rfl rfl) <| z_cons (ok_iload dX4_newFrame_60 rfl rfl) <| z_cons (ok_aald dX4_newFrame_62 rfl rfl) <| z_cons (ok_aload_n dX4_newFrame_63 rfl rfl) <| z_cons (ok_iconst (by decide) dX4_newFrame_64 rfl rfl) <| z_cons (ok_iload_n dX4_newFrame_65 rfl rfl) <| z_cons (ok_ishl dX4_newFrame_66 rfl rfl) <| zl_X4_newFrame_1
theorem dX4_inSlotZero_0 : decode cX4_inSlotZero 0 = .ok (.iconst 0, 1) := by decide +kernel
theorem dX4_inSlotZero_1 : decode cX4_inSlotZero 1 = .ok (.istore_n 2, 1) := by decide +kernel
theorem dX4_inSlotZero_2 : decode cX4_inSlotZero 2 = .ok (.iconst 0, 1) := by decide +kernel
theorem dX4_inSlotZero_3 : decode cX4_inSlotZero 3 = .ok (.istore_n 3, 1) := by decide +kernel
theorem dX4_inSlotZero_4 : decode cX4_inSlotZero 4 = .ok (.iload_n 3, 1) := by decide +kernel
theorem dX4_inSlotZero_5 : decode cX4_inSlotZero 5 = .ok (.bipush 24, 2) := by decide +kernel
theorem dX4_inSlotZero_7 : decode cX4_inSlotZero 7 = .ok (.if_icmp .ge 44, 3) := by decide +kernel
theorem dX4_inSlotZero_10 : decode cX4_inSlotZero 10 = .ok (.iload_n 2, 1) := by decide +kernel
theorem dX4_inSlotZero_11 : decode cX4_inSlotZero 11 = .ok (.aload_n 0, 1) := by decide +kernel
theorem dX4_inSlotZero_12 : decode cX4_inSlotZero 12 = .ok (.getfield 29, 3) := by decide +kernel
theorem dX4_inSlotZero_15 : decode cX4_inSlotZero 15 = .ok (.iload_n 3, 1) := by decide +kernel
theorem dX4_inSlotZero_16 : decode cX4_inSlotZero 16 = .ok (.aaload, 1) := by decide +kernel
theorem dX4_inSlotZero_17 : decode cX4_inSlotZero 17 = .ok (.getfield 33, 3) := by decide +kernel
theorem dX4_inSlotZero_20 : decode cX4_inSlotZero 20 = .ok (.iload_n 1, 1) := by decide +kernel
theorem dX4_inSlotZero_21 : decode cX4_inSlotZero 21 = .ok (.if_icmp .ne 21, 3) := by decide +kernel
theorem dX4_inSlotZero_24 : decode cX4_inSlotZero 24 = .ok (.aload_n 0, 1) := by decide +kernel
theorem dX4_inSlotZero_25 : decode cX4_inSlotZero 25 = .ok (.getfield 29, 3) := by decide +kernel
theorem dX4_inSlotZero_28 : decode cX4_inSlotZero 28 = .ok (.iload_n 3, 1) := by decide +kernel
theorem dX4_inSlotZero_29 : decode cX4_inSlotZero 29 = .ok (.aaload, 1) := by decide +kernel
theorem dX4_inSlotZero_30 : decode cX4_inSlotZero 30 = .ok (.getfield 139, 3) := by decide +kernel
theorem dX4_inSlotZero_33 : decode cX4_inSlotZero 33 = .ok (.ifCond .ne 9, 3) := by decide +kernel
theorem dX4_inSlotZero_36 : decode cX4_inSlotZero 36 = .ok (.iconst 1, 1) := by decide +kernel
theorem dX4_inSlotZero_37 : decode cX4_inSlotZero 37 = .ok (.iload_n 3, 1) := by decide +kernel
theorem dX4_inSlotZero_38 : decode cX4_inSlotZero 38 = .ok (.ishl, 1) := by decide +kernel
theorem dX4_inSlotZero_39 : decode cX4_inSlotZero 39 = .ok (.goto 4, 3) := by decide +kernel
theorem dX4_inSlotZero_42 : decode cX4_inSlotZero 42 = .ok (.iconst 0, 1) := by decide +kernel
theorem dX4_inSlotZero_43 : decode cX4_inSlotZero 43 = .ok (.ior, 1) := by decide +kernel
theorem dX4_inSlotZero_44 : decode cX4_inSlotZero 44 = .ok (.istore_n 2, 1) := by decide +kernel
theorem dX4_inSlotZero_45 : decode cX4_inSlotZero 45 = .ok (.iinc 3 1, 3) := by decide +kernel
theorem dX4_inSlotZero_48 : decode cX4_inSlotZero 48 = .ok (.goto (-44), 3) := by decide +kernel
theorem dX4_inSlotZero_51 : decode cX4_inSlotZero 51 = .ok (.iload_n 2, 1) := by decide +kernel
theorem dX4_inSlotZero_52 : decode cX4_inSlotZero 52 = .ok (.ireturn, 1) := by decide +kernel
set_option maxRecDepth 20000 in
theorem zl_X4_inSlotZero_0 : z_All z_tab cX4_inSlotZero 4 (some .int) RX4 pc_X4_inSlotZero 0 (k_X4_inSlotZero.drop 0) := z_cons (ok_iconst (by decide) dX4_inSlotZero_0 rfl rfl) <| z_cons (ok_istore_n (Nat.le_of_ble_eq_true rfl) dX4_inSlotZero_1 rfl rfl) <| z_cons (ok_iconst (by decide) dX4_inSlotZero_2 rfl rfl) <| z_cons (ok_istore_n (Nat.le_of_ble_eq_true rfl) dX4_inSlotZero_3 rfl rfl) <| z_cons (ok_iload_n dX4_inSlotZero_4 rfl rfl) <| z_cons (ok_bipush (by decide) dX4_inSlotZero_5 rfl rfl) <| z_cons (ok_icmp_ge (tgt := 51) (by decide) rfl dX4_inSlotZero_7 rfl rfl) <| z_cons (ok_iload_n dX4_inSlotZero_10 rfl rfl) <| z_cons (ok_aload_n dX4_inSlotZero_11 rfl rfl) <| z_cons (ok_getr (k := 1) ⟨by decide, by decide, by decide⟩ (ci := 6) (T := TX8) rfl rfl (Nat.le_of_ble_eq_true rfl) iw_X8 qw_140 gr_9_1 (fun _ _ => by simp) (fun w i => List.mem_of_getElem? (i := 1) rfl) dX4_inSlotZero_12 rfl rfl) <| z_cons (ok_iload_n dX4_inSlotZero_15 rfl rfl) <| z_cons (ok_aald dX4_inSlotZero_16 rfl rfl) <| z_cons (ok_get ⟨by decide, by decide, by decide⟩ (ci := 4) (T := TX6) rfl rfl (Nat.le_of_ble_eq_true rfl) iw_X6 qw_141 gv_7_4 dX4_inSlotZero_17 rfl rfl) <| z_cons (ok_iload_n dX4_inSlotZero_20 rfl rfl) <| z_cons (ok_icmp_ne (tgt := 42) (by decide) rfl dX4_inSlotZero_21 rfl rfl) <| z_cons (ok_aload_n dX4_inSlotZero_24 rfl rfl) <| z_cons (ok_getr (k := 1) ⟨by decide, by decide, by decide⟩ (ci := 6) (T := TX8) rfl rfl (Nat.le_of_ble_eq_true rfl) iw_X8 qw_140 gr_9_1 (fun _ _ => by simp) (fun w i => List.mem_of_getElem? (i := 1) rfl) dX4_inSlotZero_25 rfl rfl) <| z_cons (ok_iload_n dX4_inSlotZero_28 rfl rfl) <| z_cons (ok_aald dX4_inSlotZero_29 rfl rfl) <| z_cons (ok_get ⟨by decide, by decide, by decide⟩ (ci := 4) (T := TX6) rfl rfl (Nat.le_of_ble_eq_true rfl) iw_X6 qw_201 gv_7_5 dX4_inSlotZero_30 rfl rfl) <| z_cons (ok_if_ne (tgt := 42) (by decide) rfl dX4_inSlotZero_33 rfl rfl) <| z_cons (ok_iconst (by decide) dX4_inSlotZero_36 rfl rfl) <| z_cons (ok_iload_n dX4_inSlotZero_37 rfl rfl) <| z_cons (ok_ishl dX4_inSlotZero_38 rfl rfl) <| z_cons (ok_goto (tgt := 43) (by decide) rfl dX4_inSlotZero_39 rfl) <| z_cons (ok_iconst (by decide) dX4_inSlotZero_42 rfl rfl) <| z_cons (ok_ior dX4_inSlotZero_43 rfl rfl) <| z_cons (ok_istore_n (Nat.le_of_ble_eq_true rfl) dX4_inSlotZero_44 rfl rfl) <| z_cons (ok_iinc (by decide) (Nat.le_of_ble_eq_true rfl) dX4_inSlotZero_45 rfl rfl) <| z_cons (ok_goto (tgt := 4) (by decide) rfl dX4_inSlotZero_48 rfl) <| z_cons (ok_iload_n dX4_inSlotZero_51 rfl rfl) <| z_cons (ok_iret rfl dX4_inSlotZero_52 rfl) <| z_nil
theorem dX4_begunBy_0 : decode cX4_begunBy 0 = .ok (.iconst 0, 1) := by decide +kernel
theorem dX4_begunBy_1 : decode cX4_begunBy 1 = .ok (.istore_n 3, 1) := by decide +kernel
theorem dX4_begunBy_2 : decode cX4_begunBy 2 = .ok (.iconst 0, 1) := by decide +kernel
theorem dX4_begunBy_3 : decode cX4_begunBy 3 = .ok (.istore 4, 2) := by decide +kernel
theorem dX4_begunBy_5 : decode cX4_begunBy 5 = .ok (.iload 4, 2) := by decide +kernel
theorem dX4_begunBy_7 : decode cX4_begunBy 7 = .ok (.bipush 24, 2) := by decide +kernel
theorem dX4_begunBy_9 : decode cX4_begunBy 9 = .ok (.if_icmp .ge 51, 3) := by decide +kernel
theorem dX4_begunBy_12 : decode cX4_begunBy 12 = .ok (.iload_n 3, 1) := by decide +kernel
theorem dX4_begunBy_13 : decode cX4_begunBy 13 = .ok (.aload_n 0, 1) := by decide +kernel
theorem dX4_begunBy_14 : decode cX4_begunBy 14 = .ok (.getfield 29, 3) := by decide +kernel
theorem dX4_begunBy_17 : decode cX4_begunBy 17 = .ok (.iload 4, 2) := by decide +kernel
theorem dX4_begunBy_19 : decode cX4_begunBy 19 = .ok (.aaload, 1) := by decide +kernel
theorem dX4_begunBy_20 : decode cX4_begunBy 20 = .ok (.getfield 33, 3) := by decide +kernel
theorem dX4_begunBy_23 : decode cX4_begunBy 23 = .ok (.iload_n 1, 1) := by decide +kernel
theorem dX4_begunBy_24 : decode cX4_begunBy 24 = .ok (.if_icmp .ne 27, 3) := by decide +kernel
theorem dX4_begunBy_27 : decode cX4_begunBy 27 = .ok (.iload_n 2, 1) := by decide +kernel
theorem dX4_begunBy_28 : decode cX4_begunBy 28 = .ok (.aload_n 0, 1) := by decide +kernel
theorem dX4_begunBy_29 : decode cX4_begunBy 29 = .ok (.getfield 29, 3) := by decide +kernel
theorem dX4_begunBy_32 : decode cX4_begunBy 32 = .ok (.iload 4, 2) := by decide +kernel
theorem dX4_begunBy_34 : decode cX4_begunBy 34 = .ok (.aaload, 1) := by decide +kernel
theorem dX4_begunBy_35 : decode cX4_begunBy 35 = .ok (.invokevirtual 142, 3) := by decide +kernel
theorem dX4_begunBy_38 : decode cX4_begunBy 38 = .ok (.invokestatic 145, 3) := by decide +kernel
theorem dX4_begunBy_41 : decode cX4_begunBy 41 = .ok (.ifCond .eq 10, 3) := by decide +kernel
theorem dX4_begunBy_44 : decode cX4_begunBy 44 = .ok (.iconst 1, 1) := by decide +kernel
theorem dX4_begunBy_45 : decode cX4_begunBy 45 = .ok (.iload 4, 2) := by decide +kernel
theorem dX4_begunBy_47 : decode cX4_begunBy 47 = .ok (.ishl, 1) := by decide +kernel
theorem dX4_begunBy_48 : decode cX4_begunBy 48 = .ok (.goto 4, 3) := by decide +kernel
theorem dX4_begunBy_51 : decode cX4_begunBy 51 = .ok (.iconst 0, 1) := by decide +kernel
theorem dX4_begunBy_52 : decode cX4_begunBy 52 = .ok (.ior, 1) := by decide +kernel
theorem dX4_begunBy_53 : decode cX4_begunBy 53 = .ok (.istore_n 3, 1) := by decide +kernel
theorem dX4_begunBy_54 : decode cX4_begunBy 54 = .ok (.iinc 4 1, 3) := by decide +kernel
theorem dX4_begunBy_57 : decode cX4_begunBy 57 = .ok (.goto (-52), 3) := by decide +kernel
theorem dX4_begunBy_60 : decode cX4_begunBy 60 = .ok (.iload_n 3, 1) := by decide +kernel
theorem dX4_begunBy_61 : decode cX4_begunBy 61 = .ok (.ireturn, 1) := by decide +kernel
set_option maxRecDepth 20000 in
theorem zl_X4_begunBy_0 : z_All z_tab cX4_begunBy 5 (some .int) RX4 pc_X4_begunBy 0 (k_X4_begunBy.drop 0) := z_cons (ok_iconst (by decide) dX4_begunBy_0 rfl rfl) <| z_cons (ok_istore_n (Nat.le_of_ble_eq_true rfl) dX4_begunBy_1 rfl rfl) <| z_cons (ok_iconst (by decide) dX4_begunBy_2 rfl rfl) <| z_cons (ok_istore (Nat.le_of_ble_eq_true rfl) dX4_begunBy_3 rfl rfl) <| z_cons (ok_iload dX4_begunBy_5 rfl rfl) <| z_cons (ok_bipush (by decide) dX4_begunBy_7 rfl rfl) <| z_cons (ok_icmp_ge (tgt := 60) (by decide) rfl dX4_begunBy_9 rfl rfl) <| z_cons (ok_iload_n dX4_begunBy_12 rfl rfl) <| z_cons (ok_aload_n dX4_begunBy_13 rfl rfl) <| z_cons (ok_getr (k := 1) ⟨by decide, by decide, by decide⟩ (ci := 6) (T := TX8) rfl rfl (Nat.le_of_ble_eq_true rfl) iw_X8 qw_140 gr_9_1 (fun _ _ => by simp) (fun w i => List.mem_of_getElem? (i := 1) rfl) dX4_begunBy_14 rfl rfl) <| z_cons (ok_iload dX4_begunBy_17 rfl rfl) <| z_cons (ok_aald dX4_begunBy_19 rfl rfl) <| z_cons (ok_get ⟨by decide, by decide, by decide⟩ (ci := 4) (T := TX6) rfl rfl (Nat.le_of_ble_eq_true rfl) iw_X6 qw_141 gv_7_4 dX4_begunBy_20 rfl rfl) <| z_cons (ok_iload_n dX4_begunBy_23 rfl rfl) <| z_cons (ok_icmp_ne (tgt := 51) (by decide) rfl dX4_begunBy_24 rfl rfl) <| z_cons (ok_iload_n dX4_begunBy_27 rfl rfl) <| z_cons (ok_aload_n dX4_begunBy_28 rfl rfl) <| z_cons (ok_getr (k := 1) ⟨by decide, by decide, by decide⟩ (ci := 6) (T := TX8) rfl rfl (Nat.le_of_ble_eq_true rfl) iw_X8 qw_140 gr_9_1 (fun _ _ => by simp) (fun w i => List.mem_of_getElem? (i := 1) rfl) dX4_begunBy_29 rfl rfl) <| z_cons (ok_iload dX4_begunBy_32 rfl rfl) <| z_cons (ok_aald dX4_begunBy_34 rfl rfl) <| z_cons (ok_callv ⟨by decide, by decide, by decide⟩ (ci := 4) (C := RX6) (T := TX6) rfl go_7 (k := 79) (n := 0) qw_202 qw_203 ⟨by decide +kernel, by decide +kernel, by decide +kernel⟩ (Nat.le_of_ble_eq_true rfl) qw_204 qw_205 qw_206 dX4_begunBy_35 rfl rfl) <| z_cons (ok_callS (k := 18) (n := 2) qw_207 qw_42 ⟨by decide +kernel, by decide +kernel, by decide +kernel⟩ (Nat.le_of_ble_eq_true rfl) qw_209 qw_208 dX4_begunBy_38 rfl rfl) <| z_cons (ok_if_eq (tgt := 51) (by decide) rfl dX4_begunBy_41 rfl rfl) <| z_cons (ok_iconst (by decide) dX4_begunBy_44 rfl rfl) <| z_cons (ok_iload dX4_begunBy_45 rfl rfl) <| z_cons (ok_ishl dX4_begunBy_47 rfl rfl) <| z_cons (ok_goto (tgt := 52) (by decide) rfl dX4_begunBy_48 rfl) <| z_cons (ok_iconst (by decide) dX4_begunBy_51 rfl rfl) <| z_cons (ok_ior dX4_begunBy_52 rfl rfl) <| z_cons (ok_istore_n (Nat.le_of_ble_eq_true rfl) dX4_begunBy_53 rfl rfl) <| z_cons (ok_iinc (by decide) (Nat.le_of_ble_eq_true rfl) dX4_begunBy_54 rfl rfl) <| z_cons (ok_goto (tgt := 5) (by decide) rfl dX4_begunBy_57 rfl) <| z_cons (ok_iload_n dX4_begunBy_60 rfl rfl) <| z_cons (ok_iret rfl dX4_begunBy_61 rfl) <| z_nil
theorem dX4_hear_0 : decode cX4_hear 0 = .ok (.iload_n 3, 1) := by decide +kernel
theorem dX4_hear_1 : decode cX4_hear 1 = .ok (.invokestatic 39, 3) := by decide +kernel
theorem dX4_hear_4 : decode cX4_hear 4 = .ok (.istore 4, 2) := by decide +kernel
theorem dX4_hear_6 : decode cX4_hear 6 = .ok (.aload_n 0, 1) := by decide +kernel
theorem dX4_hear_7 : decode cX4_hear 7 = .ok (.getfield 90, 3) := by decide +kernel
theorem dX4_hear_10 : decode cX4_hear 10 = .ok (.iconst 0, 1) := by decide +kernel
theorem dX4_hear_11 : decode cX4_hear 11 = .ok (.dup2, 1) := by decide +kernel
theorem dX4_hear_12 : decode cX4_hear 12 = .ok (.iaload, 1) := by decide +kernel
theorem dX4_hear_13 : decode cX4_hear 13 = .ok (.iconst 1, 1) := by decide +kernel
theorem dX4_hear_14 : decode cX4_hear 14 = .ok (.iadd, 1) := by decide +kernel
theorem dX4_hear_15 : decode cX4_hear 15 = .ok (.iastore, 1) := by decide +kernel
theorem dX4_hear_16 : decode cX4_hear 16 = .ok (.iload 4, 2) := by decide +kernel
theorem dX4_hear_18 : decode cX4_hear 18 = .ok (.ifCond .ne 23, 3) := by decide +kernel
theorem dX4_hear_21 : decode cX4_hear 21 = .ok (.aload_n 0, 1) := by decide +kernel
theorem dX4_hear_22 : decode cX4_hear 22 = .ok (.getfield 90, 3) := by decide +kernel
theorem dX4_hear_25 : decode cX4_hear 25 = .ok (.iconst 1, 1) := by decide +kernel
theorem dX4_hear_26 : decode cX4_hear 26 = .ok (.dup2, 1) := by decide +kernel
theorem dX4_hear_27 : decode cX4_hear 27 = .ok (.iaload, 1) := by decide +kernel
theorem dX4_hear_28 : decode cX4_hear 28 = .ok (.iconst 1, 1) := by decide +kernel
theorem dX4_hear_29 : decode cX4_hear 29 = .ok (.iadd, 1) := by decide +kernel
theorem dX4_hear_30 : decode cX4_hear 30 = .ok (.iastore, 1) := by decide +kernel
theorem dX4_hear_31 : decode cX4_hear 31 = .ok (.aload_n 0, 1) := by decide +kernel
theorem dX4_hear_32 : decode cX4_hear 32 = .ok (.iload_n 1, 1) := by decide +kernel
theorem dX4_hear_33 : decode cX4_hear 33 = .ok (.iconst 1, 1) := by decide +kernel
theorem dX4_hear_34 : decode cX4_hear 34 = .ok (.iconst 0, 1) := by decide +kernel
theorem dX4_hear_35 : decode cX4_hear 35 = .ok (.invokevirtual 45, 3) := by decide +kernel
theorem dX4_hear_38 : decode cX4_hear 38 = .ok (.goto 62, 3) := by decide +kernel
theorem dX4_hear_41 : decode cX4_hear 41 = .ok (.iload 4, 2) := by decide +kernel
theorem dX4_hear_43 : decode cX4_hear 43 = .ok (.iconst 1, 1) := by decide +kernel
theorem dX4_hear_44 : decode cX4_hear 44 = .ok (.if_icmp .ne 38, 3) := by decide +kernel
theorem dX4_hear_47 : decode cX4_hear 47 = .ok (.iload_n 3, 1) := by decide +kernel
theorem dX4_hear_48 : decode cX4_hear 48 = .ok (.invokestatic 149, 3) := by decide +kernel
theorem dX4_hear_51 : decode cX4_hear 51 = .ok (.istore 5, 2) := by decide +kernel
theorem dX4_hear_53 : decode cX4_hear 53 = .ok (.aload_n 0, 1) := by decide +kernel
theorem dX4_hear_54 : decode cX4_hear 54 = .ok (.getfield 90, 3) := by decide +kernel
theorem dX4_hear_57 : decode cX4_hear 57 = .ok (.iconst 2, 1) := by decide +kernel
theorem dX4_hear_58 : decode cX4_hear 58 = .ok (.dup2, 1) := by decide +kernel
theorem dX4_hear_59 : decode cX4_hear 59 = .ok (.iaload, 1) := by decide +kernel
theorem dX4_hear_60 : decode cX4_hear 60 = .ok (.iconst 1, 1) := by decide +kernel
theorem dX4_hear_61 : decode cX4_hear 61 = .ok (.iadd, 1) := by decide +kernel
theorem dX4_hear_62 : decode cX4_hear 62 = .ok (.iastore, 1) := by decide +kernel
theorem dX4_hear_63 : decode cX4_hear 63 = .ok (.aload_n 0, 1) := by decide +kernel
theorem dX4_hear_64 : decode cX4_hear 64 = .ok (.iload_n 1, 1) := by decide +kernel
theorem dX4_hear_65 : decode cX4_hear 65 = .ok (.iconst 2, 1) := by decide +kernel
theorem dX4_hear_66 : decode cX4_hear 66 = .ok (.iload 5, 2) := by decide +kernel
theorem dX4_hear_68 : decode cX4_hear 68 = .ok (.invokevirtual 45, 3) := by decide +kernel
theorem dX4_hear_71 : decode cX4_hear 71 = .ok (.aload_n 0, 1) := by decide +kernel
theorem dX4_hear_72 : decode cX4_hear 72 = .ok (.iload_n 1, 1) := by decide +kernel
theorem dX4_hear_73 : decode cX4_hear 73 = .ok (.aload_n 2, 1) := by decide +kernel
theorem dX4_hear_74 : decode cX4_hear 74 = .ok (.iload 5, 2) := by decide +kernel
theorem dX4_hear_76 : decode cX4_hear 76 = .ok (.invokestatic 152, 3) := by decide +kernel
theorem dX4_hear_79 : decode cX4_hear 79 = .ok (.goto 21, 3) := by decide +kernel
theorem dX4_hear_82 : decode cX4_hear 82 = .ok (.aload_n 0, 1) := by decide +kernel
theorem dX4_hear_83 : decode cX4_hear 83 = .ok (.getfield 90, 3) := by decide +kernel
theorem dX4_hear_86 : decode cX4_hear 86 = .ok (.iconst 3, 1) := by decide +kernel
theorem dX4_hear_87 : decode cX4_hear 87 = .ok (.dup2, 1) := by decide +kernel
theorem dX4_hear_88 : decode cX4_hear 88 = .ok (.iaload, 1) := by decide +kernel
theorem dX4_hear_89 : decode cX4_hear 89 = .ok (.iconst 1, 1) := by decide +kernel
theorem dX4_hear_90 : decode cX4_hear 90 = .ok (.iadd, 1) := by decide +kernel
theorem dX4_hear_91 : decode cX4_hear 91 = .ok (.iastore, 1) := by decide +kernel
theorem dX4_hear_92 : decode cX4_hear 92 = .ok (.aload_n 0, 1) := by decide +kernel
theorem dX4_hear_93 : decode cX4_hear 93 = .ok (.iload_n 1, 1) := by decide +kernel
theorem dX4_hear_94 : decode cX4_hear 94 = .ok (.iconst 3, 1) := by decide +kernel
theorem dX4_hear_95 : decode cX4_hear 95 = .ok (.iload 4, 2) := by decide +kernel
theorem dX4_hear_97 : decode cX4_hear 97 = .ok (.invokevirtual 45, 3) := by decide +kernel
theorem dX4_hear_100 : decode cX4_hear 100 = .ok (.aload_n 2, 1) := by decide +kernel
theorem dX4_hear_101 : decode cX4_hear 101 = .ok (.getfield 94, 3) := by decide +kernel
theorem dX4_hear_104 : decode cX4_hear 104 = .ok (.iload 4, 2) := by decide +kernel
theorem dX4_hear_106 : decode cX4_hear 106 = .ok (.invokevirtual 155, 3) := by decide +kernel
theorem dX4_hear_109 : decode cX4_hear 109 = .ok (.return_, 1) := by decide +kernel
set_option maxRecDepth 20000 in
theorem zl_X4_hear_1 : z_All z_tab cX4_hear 6 none RX4 pc_X4_hear 40 (k_X4_hear.drop 40) := z_cons (ok_iast dX4_hear_62 rfl rfl) <| z_cons (ok_aload_n dX4_hear_63 rfl rfl) <| z_cons (ok_iload_n dX4_hear_64 rfl rfl) <| z_cons (ok_iconst (by decide) dX4_hear_65 rfl rfl) <| z_cons (ok_iload dX4_hear_66 rfl rfl) <| z_cons (ok_callv ⟨by decide, by decide, by decide⟩ (ci := 6) (C := RX8) (T := TX8) rfl go_9 (k := 93) (n := 3) qw_143 qw_124 ⟨by decide +kernel, by decide +kernel, by decide +kernel⟩ (Nat.le_of_ble_eq_true rfl) qw_144 qw_145 qw_146 dX4_hear_68 rfl rfl) <| z_cons (ok_aload_n dX4_hear_71 rfl rfl) <| z_cons (ok_iload_n dX4_hear_72 rfl rfl) <| z_cons (ok_aload_n dX4_hear_73 rfl rfl) <| z_cons (ok_iload dX4_hear_74 rfl rfl) <| z_cons (ok_callS (k := 47) (n := 4) qw_213 qw_156 ⟨by decide +kernel, by decide +kernel, by decide +kernel⟩ (Nat.le_of_ble_eq_true rfl) qw_215 qw_214 dX4_hear_76 rfl rfl) <| z_cons (ok_goto (tgt := 100) (by decide) rfl dX4_hear_79 rfl) <| z_cons (ok_aload_n dX4_hear_82 rfl rfl) <| z_cons (ok_getr (k := 4) ⟨by decide, by decide, by decide⟩ (ci := 6) (T := TX8) rfl rfl (Nat.le_of_ble_eq_true rfl) iw_X8 qw_174 gr_9_4 (fun _ _ => by simp) (fun w i => List.mem_of_getElem? (i := 4) rfl) dX4_hear_83 rfl rfl) <| z_cons (ok_iconst (by decide) dX4_hear_86 rfl rfl) <| z_cons (ok_dup2 dX4_hear_87 rfl rfl) <| z_cons (ok_iald dX4_hear_88 rfl rfl) <| z_cons (ok_iconst (by decide) dX4_hear_89 rfl rfl) <| z_cons (ok_iadd dX4_hear_90 rfl rfl) <| z_cons (ok_iast dX4_hear_91 rfl rfl) <| z_cons (ok_aload_n dX4_hear_92 rfl rfl) <| z_cons (ok_iload_n dX4_hear_93 rfl rfl) <| z_cons (ok_iconst (by decide) dX4_hear_94 rfl rfl) <| z_cons (ok_iload dX4_hear_95 rfl rfl) <| z_cons (ok_callv ⟨by decide, by decide, by decide⟩ (ci := 6) (C := RX8) (T := TX8) rfl go_9 (k := 93) (n := 3) qw_143 qw_124 ⟨by decide +kernel, by decide +kernel, by decide +kernel⟩ (Nat.le_of_ble_eq_true rfl) qw_144 qw_145 qw_146 dX4_hear_97 rfl rfl) <| z_cons (ok_aload_n dX4_hear_100 rfl rfl) <| z_cons (ok_getr (k := 12) ⟨by decide, by decide, by decide⟩ (ci := 3) (T := TX3) rfl rfl (Nat.le_of_ble_eq_true rfl) iw_X3 qw_175 gr_4_12 (fun _ _ => by simp) (fun w i => List.mem_of_getElem? (i := 0) rfl) dX4_hear_101 rfl rfl) <| z_cons (ok_iload dX4_hear_104 rfl rfl) <| z_cons (ok_callv ⟨by decide, by decide, by decide⟩ (ci := 5) (C := RX7) (T := TX7) rfl go_8 (k := 88) (n := 1) qw_216 qw_86 ⟨by decide +kernel, by decide +kernel, by decide +kernel⟩ (Nat.le_of_ble_eq_true rfl) qw_217 qw_218 qw_219 dX4_hear_106 rfl rfl) <| z_cons (ok_ret rfl dX4_hear_109 rfl) <| z_nil
set_option maxRecDepth 20000 in
theorem zl_X4_hear_0 : z_All z_tab cX4_hear 6 none RX4 pc_X4_hear 0 (k_X4_hear.drop 0) := z_cons (ok_iload_n dX4_hear_0 rfl rfl) <| z_cons (ok_callS (k := 274) (n := 1) qw_25 qw_26 ⟨by decide +kernel, by decide +kernel, by decide +kernel⟩ (Nat.le_of_ble_eq_true rfl) qw_142 qw_27 dX4_hear_1 rfl rfl) <| z_cons (ok_istore (Nat.le_of_ble_eq_true rfl) dX4_hear_4 rfl rfl) <| z_cons (ok_aload_n dX4_hear_6 rfl rfl) <| z_cons (ok_getr (k := 4) ⟨by decide, by decide, by decide⟩ (ci := 6) (T := TX8) rfl rfl (Nat.le_of_ble_eq_true rfl) iw_X8 qw_174 gr_9_4 (fun _ _ => by simp) (fun w i => List.mem_of_getElem? (i := 4) rfl) dX4_hear_7 rfl rfl) <| z_cons (ok_iconst (by decide) dX4_hear_10 rfl rfl) <| z_cons (ok_dup2 dX4_hear_11 rfl rfl) <| z_cons (ok_iald dX4_hear_12 rfl rfl) <| z_cons (ok_iconst (by decide) dX4_hear_13 rfl rfl) <| z_cons (ok_iadd dX4_hear_14 rfl rfl) <| z_cons (ok_iast dX4_hear_15 rfl rfl) <| z_cons (ok_iload dX4_hear_16 rfl rfl) <| z_cons (ok_if_ne (tgt := 41) (by decide) rfl dX4_hear_18 rfl rfl) <| z_cons (ok_aload_n dX4_hear_21 rfl rfl) <| z_cons (ok_getr (k := 4) ⟨by decide, by decide, by decide⟩ (ci := 6) (T := TX8) rfl rfl (Nat.le_of_ble_eq_true rfl) iw_X8 qw_174 gr_9_4 (fun _ _ => by simp) (fun w i => List.mem_of_getElem? (i := 4) rfl) dX4_hear_22 rfl rfl) <| z_cons (ok_iconst (by decide) dX4_hear_25 rfl rfl) <| z_cons (ok_dup2 dX4_hear_26 rfl rfl) <| z_cons (ok_iald dX4_hear_27 rfl rfl) <| z_cons (ok_iconst (by decide) dX4_hear_28 rfl rfl) <| z_cons (ok_iadd dX4_hear_29 rfl rfl) <| z_cons (ok_iast dX4_hear_30 rfl rfl) <| z_cons (ok_aload_n dX4_hear_31 rfl rfl) <| z_cons (ok_iload_n dX4_hear_32 rfl rfl) <| z_cons (ok_iconst (by decide) dX4_hear_33 rfl rfl) <| z_cons (ok_iconst (by decide) dX4_hear_34 rfl rfl) <| z_cons (ok_callv ⟨by decide, by decide, by decide⟩ (ci := 6) (C := RX8) (T := TX8) rfl go_9 (k := 93) (n := 3) qw_143 qw_124 ⟨by decide +kernel, by decide +kernel, by decide +kernel⟩ (Nat.le_of_ble_eq_true rfl) qw_144 qw_145 qw_146 dX4_hear_35 rfl rfl) <| z_cons (ok_goto (tgt := 100) (by decide) rfl dX4_hear_38 rfl) <| z_cons (ok_iload dX4_hear_41 rfl rfl) <| z_cons (ok_iconst (by decide) dX4_hear_43 rfl rfl) <| z_cons (ok_icmp_ne (tgt := 82) (by decide) rfl dX4_hear_44 rfl rfl) <| z_cons (ok_iload_n dX4_hear_47 rfl rfl) <| z_cons (ok_callS (k := 273) (n := 1) qw_210 qw_26 ⟨by decide +kernel, by decide +kernel, by decide +kernel⟩ (Nat.le_of_ble_eq_true rfl) qw_212 qw_211 dX4_hear_48 rfl rfl) <| z_cons (ok_istore (Nat.le_of_ble_eq_true rfl) dX4_hear_51 rfl rfl) <| z_cons (ok_aload_n dX4_hear_53 rfl rfl) <| z_cons (ok_getr (k := 4) ⟨by decide, by decide, by decide⟩ (ci := 6) (T := TX8) rfl rfl (Nat.le_of_ble_eq_true rfl) iw_X8 qw_174 gr_9_4 (fun _ _ => by simp) (fun w i => List.mem_of_getElem? (i := 4) rfl) dX4_hear_54 rfl rfl) <| z_cons (ok_iconst (by decide) dX4_hear_57 rfl rfl) <| z_cons (ok_dup2 dX4_hear_58 rfl rfl) <| z_cons (ok_iald dX4_hear_59 rfl rfl) <| z_cons (ok_iconst (by decide) dX4_hear_60 rfl rfl) <| z_cons (ok_iadd dX4_hear_61 rfl rfl) <| zl_X4_hear_1
