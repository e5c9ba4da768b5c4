theorem dX9_both_0 : decode cX9_both 0 = .ok (.aload_n 0, 1) := by decide +kernel
theorem dX9_both_1 : decode cX9_both 1 = .ok (.getfield 21, 3) := by decide +kernel
theorem dX9_both_4 : decode cX9_both 4 = .ok (.iload_n 1, 1) := by decide +kernel
theorem dX9_both_5 : decode cX9_both 5 = .ok (.invokevirtual 33, 3) := by decide +kernel
theorem dX9_both_8 : decode cX9_both 8 = .ok (.astore_n 3, 1) := by decide +kernel
theorem dX9_both_9 : decode cX9_both 9 = .ok (.aload_n 0, 1) := by decide +kernel
theorem dX9_both_10 : decode cX9_both 10 = .ok (.getfield 21, 3) := by decide +kernel
theorem dX9_both_13 : decode cX9_both 13 = .ok (.iload_n 2, 1) := by decide +kernel
theorem dX9_both_14 : decode cX9_both 14 = .ok (.invokevirtual 33, 3) := by decide +kernel
theorem dX9_both_17 : decode cX9_both 17 = .ok (.astore 4, 2) := by decide +kernel
theorem dX9_both_19 : decode cX9_both 19 = .ok (.aload_n 3, 1) := by decide +kernel
theorem dX9_both_20 : decode cX9_both 20 = .ok (.ifnull 13, 3) := by decide +kernel
theorem dX9_both_23 : decode cX9_both 23 = .ok (.aload 4, 2) := by decide +kernel
theorem dX9_both_25 : decode cX9_both 25 = .ok (.ifnull 8, 3) := by decide +kernel
theorem dX9_both_28 : decode cX9_both 28 = .ok (.iload_n 1, 1) := by decide +kernel
theorem dX9_both_29 : decode cX9_both 29 = .ok (.iload_n 2, 1) := by decide +kernel
theorem dX9_both_30 : decode cX9_both 30 = .ok (.if_icmp .ne 5, 3) := by decide +kernel
theorem dX9_both_33 : decode cX9_both 33 = .ok (.iconst (-1), 1) := by decide +kernel
theorem dX9_both_34 : decode cX9_both 34 = .ok (.ireturn, 1) := by decide +kernel
theorem dX9_both_35 : decode cX9_both 35 = .ok (.aload_n 3, 1) := by decide +kernel
theorem dX9_both_36 : decode cX9_both 36 = .ok (.invokevirtual 204, 3) := by decide +kernel
theorem dX9_both_39 : decode cX9_both 39 = .ok (.aload 4, 2) := by decide +kernel
theorem dX9_both_41 : decode cX9_both 41 = .ok (.invokevirtual 204, 3) := by decide +kernel
theorem dX9_both_44 : decode cX9_both 44 = .ok (.iand, 1) := by decide +kernel
theorem dX9_both_45 : decode cX9_both 45 = .ok (.aload_n 0, 1) := by decide +kernel
theorem dX9_both_46 : decode cX9_both 46 = .ok (.getfield 21, 3) := by decide +kernel
theorem dX9_both_49 : decode cX9_both 49 = .ok (.invokevirtual 207, 3) := by decide +kernel
theorem dX9_both_52 : decode cX9_both 52 = .ok (.iand, 1) := by decide +kernel
theorem dX9_both_53 : decode cX9_both 53 = .ok (.invokestatic 100, 3) := by decide +kernel
theorem dX9_both_56 : decode cX9_both 56 = .ok (.ireturn, 1) := by decide +kernel
set_option maxRecDepth 20000 in
theorem zl_X9_both_0 : z_All z_tab cX9_both 5 (some .int) RX9 pc_X9_both 0 (k_X9_both.drop 0) := z_cons (ok_aload_n dX9_both_0 rfl rfl) <| z_cons (ok_getr (k := 1) ⟨by decide, by decide, by decide⟩ (ci := 7) (T := TX9) rfl rfl (Nat.le_of_ble_eq_true rfl) iw_X9 qw_488 gr_10_1 (fun _ _ => by simp) (fun w i => List.mem_of_getElem? (i := 1) rfl) dX9_both_1 rfl rfl) <| z_cons (ok_iload_n dX9_both_4 rfl rfl) <| z_cons (ok_callv ⟨by decide, by decide, by decide⟩ (ci := 6) (C := RX8) (T := TX8) rfl go_9 (k := 92) (n := 1) qw_123 qw_124 ⟨by decide +kernel, by decide +kernel, by decide +kernel⟩ (Nat.le_of_ble_eq_true rfl) qw_494 qw_126 qw_127 dX9_both_5 rfl rfl) <| z_cons (ok_astore_n (Nat.le_of_ble_eq_true rfl) dX9_both_8 rfl rfl) <| z_cons (ok_aload_n dX9_both_9 rfl rfl) <| z_cons (ok_getr (k := 1) ⟨by decide, by decide, by decide⟩ (ci := 7) (T := TX9) rfl rfl (Nat.le_of_ble_eq_true rfl) iw_X9 qw_488 gr_10_1 (fun _ _ => by simp) (fun w i => List.mem_of_getElem? (i := 1) rfl) dX9_both_10 rfl rfl) <| z_cons (ok_iload_n dX9_both_13 rfl rfl) <| z_cons (ok_callv ⟨by decide, by decide, by decide⟩ (ci := 6) (C := RX8) (T := TX8) rfl go_9 (k := 92) (n := 1) qw_123 qw_124 ⟨by decide +kernel, by decide +kernel, by decide +kernel⟩ (Nat.le_of_ble_eq_true rfl) qw_494 qw_126 qw_127 dX9_both_14 rfl rfl) <| z_cons (ok_astore (Nat.le_of_ble_eq_true rfl) dX9_both_17 rfl rfl) <| z_cons (ok_aload_n dX9_both_19 rfl rfl) <| z_cons (ok_ifnull (tgt := 33) (by decide) rfl dX9_both_20 rfl rfl) <| z_cons (ok_aload dX9_both_23 rfl rfl) <| z_cons (ok_ifnull (tgt := 33) (by decide) rfl dX9_both_25 rfl rfl) <| z_cons (ok_iload_n dX9_both_28 rfl rfl) <| z_cons (ok_iload_n dX9_both_29 rfl rfl) <| z_cons (ok_icmp_ne (tgt := 35) (by decide) rfl dX9_both_30 rfl rfl) <| z_cons (ok_iconst (by decide) dX9_both_33 rfl rfl) <| z_cons (ok_iret rfl dX9_both_34 rfl) <| z_cons (ok_aload_n dX9_both_35 rfl rfl) <| z_cons (ok_callv ⟨by decide, by decide, by decide⟩ (ci := 3) (C := RX3) (T := TX3) rfl go_4 (k := 35) (n := 0) qw_590 qw_103 ⟨by decide +kernel, by decide +kernel, by decide +kernel⟩ (Nat.le_of_ble_eq_true rfl) qw_591 qw_592 qw_593 dX9_both_36 rfl rfl) <| z_cons (ok_aload dX9_both_39 rfl rfl) <| z_cons (ok_callv ⟨by decide, by decide, by decide⟩ (ci := 3) (C := RX3) (T := TX3) rfl go_4 (k := 35) (n := 0) qw_590 qw_103 ⟨by decide +kernel, by decide +kernel, by decide +kernel⟩ (Nat.le_of_ble_eq_true rfl) qw_591 qw_592 qw_593 dX9_both_41 rfl rfl) <| z_cons (ok_iand dX9_both_44 rfl rfl) <| z_cons (ok_aload_n dX9_both_45 rfl rfl) <| z_cons (ok_getr (k := 1) ⟨by decide, by decide, by decide⟩ (ci := 7) (T := TX9) rfl rfl (Nat.le_of_ble_eq_true rfl) iw_X9 qw_488 gr_10_1 (fun _ _ => by simp) (fun w i => List.mem_of_getElem? (i := 1) rfl) dX9_both_46 rfl rfl) <| z_cons (ok_callv ⟨by decide, by decide, by decide⟩ (ci := 6) (C := RX8) (T := TX8) rfl go_9 (k := 111) (n := 0) qw_594 qw_124 ⟨by decide +kernel, by decide +kernel, by decide +kernel⟩ (Nat.le_of_ble_eq_true rfl) qw_595 qw_596 qw_597 dX9_both_49 rfl rfl) <| z_cons (ok_iand dX9_both_52 rfl rfl) <| z_cons (ok_callS (k := 274) (n := 1) qw_25 qw_26 ⟨by decide +kernel, by decide +kernel, by decide +kernel⟩ (Nat.le_of_ble_eq_true rfl) qw_540 qw_27 dX9_both_53 rfl rfl) <| z_cons (ok_iret rfl dX9_both_56 rfl) <| z_nil
theorem dX9_open_0 : decode cX9_open 0 = .ok (.aload_n 0, 1) := by decide +kernel
theorem dX9_open_1 : decode cX9_open 1 = .ok (.getfield 21, 3) := by decide +kernel
theorem dX9_open_4 : decode cX9_open 4 = .ok (.iload_n 1, 1) := by decide +kernel
theorem dX9_open_5 : decode cX9_open 5 = .ok (.iload_n 2, 1) := by decide +kernel
theorem dX9_open_6 : decode cX9_open 6 = .ok (.invokevirtual 210, 3) := by decide +kernel
theorem dX9_open_9 : decode cX9_open 9 = .ok (.ireturn, 1) := by decide +kernel
set_option maxRecDepth 20000 in
theorem zl_X9_open_0 : z_All z_tab cX9_open 3 (some .int) RX9 pc_X9_open 0 (k_X9_open.drop 0) := z_cons (ok_aload_n dX9_open_0 rfl rfl) <| z_cons (ok_getr (k := 1) ⟨by decide, by decide, by decide⟩ (ci := 7) (T := TX9) rfl rfl (Nat.le_of_ble_eq_true rfl) iw_X9 qw_488 gr_10_1 (fun _ _ => by simp) (fun w i => List.mem_of_getElem? (i := 1) rfl) dX9_open_1 rfl rfl) <| z_cons (ok_iload_n dX9_open_4 rfl rfl) <| z_cons (ok_iload_n dX9_open_5 rfl rfl) <| z_cons (ok_callv ⟨by decide, by decide, by decide⟩ (ci := 6) (C := RX8) (T := TX8) rfl go_9 (k := 110) (n := 2) qw_598 qw_124 ⟨by decide +kernel, by decide +kernel, by decide +kernel⟩ (Nat.le_of_ble_eq_true rfl) qw_599 qw_600 qw_601 dX9_open_6 rfl rfl) <| z_cons (ok_iret rfl dX9_open_9 rfl) <| z_nil
theorem dX9_apart_0 : decode cX9_apart 0 = .ok (.aload_n 0, 1) := by decide +kernel
theorem dX9_apart_1 : decode cX9_apart 1 = .ok (.getfield 21, 3) := by decide +kernel
theorem dX9_apart_4 : decode cX9_apart 4 = .ok (.iload_n 1, 1) := by decide +kernel
theorem dX9_apart_5 : decode cX9_apart 5 = .ok (.invokevirtual 46, 3) := by decide +kernel
theorem dX9_apart_8 : decode cX9_apart 8 = .ok (.astore_n 3, 1) := by decide +kernel
theorem dX9_apart_9 : decode cX9_apart 9 = .ok (.aload_n 0, 1) := by decide +kernel
theorem dX9_apart_10 : decode cX9_apart 10 = .ok (.getfield 21, 3) := by decide +kernel
theorem dX9_apart_13 : decode cX9_apart 13 = .ok (.iload_n 2, 1) := by decide +kernel
theorem dX9_apart_14 : decode cX9_apart 14 = .ok (.invokevirtual 46, 3) := by decide +kernel
theorem dX9_apart_17 : decode cX9_apart 17 = .ok (.astore 4, 2) := by decide +kernel
theorem dX9_apart_19 : decode cX9_apart 19 = .ok (.aload_n 3, 1) := by decide +kernel
theorem dX9_apart_20 : decode cX9_apart 20 = .ok (.ifnull 8, 3) := by decide +kernel
theorem dX9_apart_23 : decode cX9_apart 23 = .ok (.aload 4, 2) := by decide +kernel
theorem dX9_apart_25 : decode cX9_apart 25 = .ok (.ifnonnull 7, 3) := by decide +kernel
theorem dX9_apart_28 : decode cX9_apart 28 = .ok (.iconst (-1), 1) := by decide +kernel
theorem dX9_apart_29 : decode cX9_apart 29 = .ok (.goto 9, 3) := by decide +kernel
theorem dX9_apart_32 : decode cX9_apart 32 = .ok (.aload_n 3, 1) := by decide +kernel
theorem dX9_apart_33 : decode cX9_apart 33 = .ok (.aload 4, 2) := by decide +kernel
theorem dX9_apart_35 : decode cX9_apart 35 = .ok (.invokestatic 213, 3) := by decide +kernel
theorem dX9_apart_38 : decode cX9_apart 38 = .ok (.ireturn, 1) := by decide +kernel
set_option maxRecDepth 20000 in
theorem zl_X9_apart_0 : z_All z_tab cX9_apart 5 (some .int) RX9 pc_X9_apart 0 (k_X9_apart.drop 0) := z_cons (ok_aload_n dX9_apart_0 rfl rfl) <| z_cons (ok_getr (k := 1) ⟨by decide, by decide, by decide⟩ (ci := 7) (T := TX9) rfl rfl (Nat.le_of_ble_eq_true rfl) iw_X9 qw_488 gr_10_1 (fun _ _ => by simp) (fun w i => List.mem_of_getElem? (i := 1) rfl) dX9_apart_1 rfl rfl) <| z_cons (ok_iload_n dX9_apart_4 rfl rfl) <| z_cons (ok_callv ⟨by decide, by decide, by decide⟩ (ci := 6) (C := RX8) (T := TX8) rfl go_9 (k := 91) (n := 1) qw_220 qw_124 ⟨by decide +kernel, by decide +kernel, by decide +kernel⟩ (Nat.le_of_ble_eq_true rfl) qw_503 qw_222 qw_223 dX9_apart_5 rfl rfl) <| z_cons (ok_astore_n (Nat.le_of_ble_eq_true rfl) dX9_apart_8 rfl rfl) <| z_cons (ok_aload_n dX9_apart_9 rfl rfl) <| z_cons (ok_getr (k := 1) ⟨by decide, by decide, by decide⟩ (ci := 7) (T := TX9) rfl rfl (Nat.le_of_ble_eq_true rfl) iw_X9 qw_488 gr_10_1 (fun _ _ => by simp) (fun w i => List.mem_of_getElem? (i := 1) rfl) dX9_apart_10 rfl rfl) <| z_cons (ok_iload_n dX9_apart_13 rfl rfl) <| z_cons (ok_callv ⟨by decide, by decide, by decide⟩ (ci := 6) (C := RX8) (T := TX8) rfl go_9 (k := 91) (n := 1) qw_220 qw_124 ⟨by decide +kernel, by decide +kernel, by decide +kernel⟩ (Nat.le_of_ble_eq_true rfl) qw_503 qw_222 qw_223 dX9_apart_14 rfl rfl) <| z_cons (ok_astore (Nat.le_of_ble_eq_true rfl) dX9_apart_17 rfl rfl) <| z_cons (ok_aload_n dX9_apart_19 rfl rfl) <| z_cons (ok_ifnull (tgt := 28) (by decide) rfl dX9_apart_20 rfl rfl) <| z_cons (ok_aload dX9_apart_23 rfl rfl) <| z_cons (ok_ifnonnull (tgt := 32) (by decide) rfl dX9_apart_25 rfl rfl) <| z_cons (ok_iconst (by decide) dX9_apart_28 rfl rfl) <| z_cons (ok_goto (tgt := 38) (by decide) rfl dX9_apart_29 rfl) <| z_cons (ok_aload_n dX9_apart_32 rfl rfl) <| z_cons (ok_aload dX9_apart_33 rfl rfl) <| z_cons (ok_callS (k := 65) (n := 2) qw_602 qw_297 ⟨by decide +kernel, by decide +kernel, by decide +kernel⟩ (Nat.le_of_ble_eq_true rfl) qw_604 qw_603 dX9_apart_35 rfl rfl) <| z_cons (ok_iret rfl dX9_apart_38 rfl) <| z_nil
theorem dX9_log_0 : decode cX9_log 0 = .ok (.aload_n 0, 1) := by decide +kernel
theorem dX9_log_1 : decode cX9_log 1 = .ok (.getfield 21, 3) := by decide +kernel
theorem dX9_log_4 : decode cX9_log 4 = .ok (.getfield 217, 3) := by decide +kernel
theorem dX9_log_7 : decode cX9_log 7 = .ok (.iload_n 1, 1) := by decide +kernel
theorem dX9_log_8 : decode cX9_log 8 = .ok (.iload_n 2, 1) := by decide +kernel
theorem dX9_log_9 : decode cX9_log 9 = .ok (.invokevirtual 221, 3) := by decide +kernel
theorem dX9_log_12 : decode cX9_log 12 = .ok (.ireturn, 1) := by decide +kernel
set_option maxRecDepth 20000 in
theorem zl_X9_log_0 : z_All z_tab cX9_log 3 (some .int) RX9 pc_X9_log 0 (k_X9_log.drop 0) := z_cons (ok_aload_n dX9_log_0 rfl rfl) <| z_cons (ok_getr (k := 1) ⟨by decide, by decide, by decide⟩ (ci := 7) (T := TX9) rfl rfl (Nat.le_of_ble_eq_true rfl) iw_X9 qw_488 gr_10_1 (fun _ _ => by simp) (fun w i => List.mem_of_getElem? (i := 1) rfl) dX9_log_1 rfl rfl) <| z_cons (ok_getr (k := 3) ⟨by decide, by decide, by decide⟩ (ci := 6) (T := TX8) rfl rfl (Nat.le_of_ble_eq_true rfl) iw_X8 qw_605 gr_9_3 (fun _ _ => by simp) (fun w i => List.mem_of_getElem? (i := 3) rfl) dX9_log_4 rfl rfl) <| z_cons (ok_iload_n dX9_log_7 rfl rfl) <| z_cons (ok_iload_n dX9_log_8 rfl rfl) <| z_cons (ok_callv ⟨by decide, by decide, by decide⟩ (ci := 1) (C := RX1) (T := TX1) rfl go_2 (k := 13) (n := 2) qw_606 qw_378 ⟨by decide +kernel, by decide +kernel, by decide +kernel⟩ (Nat.le_of_ble_eq_true rfl) qw_607 qw_608 qw_609 dX9_log_9 rfl rfl) <| z_cons (ok_iret rfl dX9_log_12 rfl) <| z_nil
theorem dX9_never_0 : decode cX9_never 0 = .ok (.iload_n 1, 1) := by decide +kernel
theorem dX9_never_1 : decode cX9_never 1 = .ok (.ifCond .lt 8, 3) := by decide +kernel
theorem dX9_never_4 : decode cX9_never 4 = .ok (.iload_n 1, 1) := by decide +kernel
theorem dX9_never_5 : decode cX9_never 5 = .ok (.iconst 2, 1) := by decide +kernel
theorem dX9_never_6 : decode cX9_never 6 = .ok (.if_icmp .le 7, 3) := by decide +kernel
theorem dX9_never_9 : decode cX9_never 9 = .ok (.iconst (-1), 1) := by decide +kernel
theorem dX9_never_10 : decode cX9_never 10 = .ok (.goto 4, 3) := by decide +kernel
theorem dX9_never_13 : decode cX9_never 13 = .ok (.iconst 0, 1) := by decide +kernel
theorem dX9_never_14 : decode cX9_never 14 = .ok (.ireturn, 1) := by decide +kernel
set_option maxRecDepth 20000 in
theorem zl_X9_never_0 : z_All z_tab cX9_never 2 (some .int) RX9 pc_X9_never 0 (k_X9_never.drop 0) := z_cons (ok_iload_n dX9_never_0 rfl rfl) <| z_cons (ok_if_lt (tgt := 9) (by decide) rfl dX9_never_1 rfl rfl) <| z_cons (ok_iload_n dX9_never_4 rfl rfl) <| z_cons (ok_iconst (by decide) dX9_never_5 rfl rfl) <| z_cons (ok_icmp_le (tgt := 13) (by decide) rfl dX9_never_6 rfl rfl) <| z_cons (ok_iconst (by decide) dX9_never_9 rfl rfl) <| z_cons (ok_goto (tgt := 14) (by decide) rfl dX9_never_10 rfl) <| z_cons (ok_iconst (by decide) dX9_never_13 rfl rfl) <| z_cons (ok_iret rfl dX9_never_14 rfl) <| z_nil
theorem dX9_count_0 : decode cX9_count 0 = .ok (.iload_n 1, 1) := by decide +kernel
theorem dX9_count_1 : decode cX9_count 1 = .ok (.ifCond .lt 9, 3) := by decide +kernel
theorem dX9_count_4 : decode cX9_count 4 = .ok (.iload_n 1, 1) := by decide +kernel
theorem dX9_count_5 : decode cX9_count 5 = .ok (.bipush 14, 2) := by decide +kernel
theorem dX9_count_7 : decode cX9_count 7 = .ok (.if_icmp .lt 7, 3) := by decide +kernel
theorem dX9_count_10 : decode cX9_count 10 = .ok (.iconst (-1), 1) := by decide +kernel
theorem dX9_count_11 : decode cX9_count 11 = .ok (.goto 12, 3) := by decide +kernel
theorem dX9_count_14 : decode cX9_count 14 = .ok (.aload_n 0, 1) := by decide +kernel
theorem dX9_count_15 : decode cX9_count 15 = .ok (.getfield 21, 3) := by decide +kernel
theorem dX9_count_18 : decode cX9_count 18 = .ok (.getfield 224, 3) := by decide +kernel
theorem dX9_count_21 : decode cX9_count 21 = .ok (.iload_n 1, 1) := by decide +kernel
theorem dX9_count_22 : decode cX9_count 22 = .ok (.iaload, 1) := by decide +kernel
theorem dX9_count_23 : decode cX9_count 23 = .ok (.ireturn, 1) := by decide +kernel
set_option maxRecDepth 20000 in
theorem zl_X9_count_0 : z_All z_tab cX9_count 2 (some .int) RX9 pc_X9_count 0 (k_X9_count.drop 0) := z_cons (ok_iload_n dX9_count_0 rfl rfl) <| z_cons (ok_if_lt (tgt := 10) (by decide) rfl dX9_count_1 rfl rfl) <| z_cons (ok_iload_n dX9_count_4 rfl rfl) <| z_cons (ok_bipush (by decide) dX9_count_5 rfl rfl) <| z_cons (ok_icmp_lt (tgt := 14) (by decide) rfl dX9_count_7 rfl rfl) <| z_cons (ok_iconst (by decide) dX9_count_10 rfl rfl) <| z_cons (ok_goto (tgt := 23) (by decide) rfl dX9_count_11 rfl) <| z_cons (ok_aload_n dX9_count_14 rfl rfl) <| z_cons (ok_getr (k := 1) ⟨by decide, by decide, by decide⟩ (ci := 7) (T := TX9) rfl rfl (Nat.le_of_ble_eq_true rfl) iw_X9 qw_488 gr_10_1 (fun _ _ => by simp) (fun w i => List.mem_of_getElem? (i := 1) rfl) dX9_count_15 rfl rfl) <| z_cons (ok_getr (k := 4) ⟨by decide, by decide, by decide⟩ (ci := 6) (T := TX8) rfl rfl (Nat.le_of_ble_eq_true rfl) iw_X8 qw_610 gr_9_4 (fun _ _ => by simp) (fun w i => List.mem_of_getElem? (i := 4) rfl) dX9_count_18 rfl rfl) <| z_cons (ok_iload_n dX9_count_21 rfl rfl) <| z_cons (ok_iald dX9_count_22 rfl rfl) <| z_cons (ok_iret rfl dX9_count_23 rfl) <| z_nil
theorem dX9_look_0 : decode cX9_look 0 = .ok (.aload_n 0, 1) := by decide +kernel
theorem dX9_look_1 : decode cX9_look 1 = .ok (.getfield 21, 3) := by decide +kernel
theorem dX9_look_4 : decode cX9_look 4 = .ok (.iload_n 1, 1) := by decide +kernel
theorem dX9_look_5 : decode cX9_look 5 = .ok (.invokevirtual 230, 3) := by decide +kernel
theorem dX9_look_8 : decode cX9_look 8 = .ok (.ireturn, 1) := by decide +kernel
set_option maxRecDepth 20000 in
theorem zl_X9_look_0 : z_All z_tab cX9_look 2 (some .int) RX9 pc_X9_look 0 (k_X9_look.drop 0) := z_cons (ok_aload_n dX9_look_0 rfl rfl) <| z_cons (ok_getr (k := 1) ⟨by decide, by decide, by decide⟩ (ci := 7) (T := TX9) rfl rfl (Nat.le_of_ble_eq_true rfl) iw_X9 qw_488 gr_10_1 (fun _ _ => by simp) (fun w i => List.mem_of_getElem? (i := 1) rfl) dX9_look_1 rfl rfl) <| z_cons (ok_iload_n dX9_look_4 rfl rfl) <| z_cons (ok_callv ⟨by decide, by decide, by decide⟩ (ci := 6) (C := RX8) (T := TX8) rfl go_9 (k := 117) (n := 1) qw_611 qw_124 ⟨by decide +kernel, by decide +kernel, by decide +kernel⟩ (Nat.le_of_ble_eq_true rfl) qw_612 qw_613 qw_614 dX9_look_5 rfl rfl) <| z_cons (ok_iret rfl dX9_look_8 rfl) <| z_nil
theorem dX9_isSpan_0 : decode cX9_isSpan 0 = .ok (.iload_n 0, 1) := by decide +kernel
theorem dX9_isSpan_1 : decode cX9_isSpan 1 = .ok (.ifCond .lt 25, 3) := by decide +kernel
theorem dX9_isSpan_4 : decode cX9_isSpan 4 = .ok (.iload_n 0, 1) := by decide +kernel
theorem dX9_isSpan_5 : decode cX9_isSpan 5 = .ok (.bipush 32, 2) := by decide +kernel
theorem dX9_isSpan_7 : decode cX9_isSpan 7 = .ok (.if_icmp .ge 19, 3) := by decide +kernel
theorem dX9_isSpan_10 : decode cX9_isSpan 10 = .ok (.iload_n 1, 1) := by decide +kernel
theorem dX9_isSpan_11 : decode cX9_isSpan 11 = .ok (.ifCond .lt 15, 3) := by decide +kernel
theorem dX9_isSpan_14 : decode cX9_isSpan 14 = .ok (.iload_n 1, 1) := by decide +kernel
theorem dX9_isSpan_15 : decode cX9_isSpan 15 = .ok (.bipush 32, 2) := by decide +kernel
theorem dX9_isSpan_17 : decode cX9_isSpan 17 = .ok (.iload_n 0, 1) := by decide +kernel
theorem dX9_isSpan_18 : decode cX9_isSpan 18 = .ok (.isub, 1) := by decide +kernel
theorem dX9_isSpan_19 : decode cX9_isSpan 19 = .ok (.if_icmp .gt 7, 3) := by decide +kernel
theorem dX9_isSpan_22 : decode cX9_isSpan 22 = .ok (.iconst 1, 1) := by decide +kernel
theorem dX9_isSpan_23 : decode cX9_isSpan 23 = .ok (.goto 4, 3) := by decide +kernel
theorem dX9_isSpan_26 : decode cX9_isSpan 26 = .ok (.iconst 0, 1) := by decide +kernel
theorem dX9_isSpan_27 : decode cX9_isSpan 27 = .ok (.ireturn, 1) := by decide +kernel
set_option maxRecDepth 20000 in
theorem zl_X9_isSpan_0 : z_All z_tab cX9_isSpan 2 (some .boolean) RX9 pc_X9_isSpan 0 (k_X9_isSpan.drop 0) := z_cons (ok_iload_n dX9_isSpan_0 rfl rfl) <| z_cons (ok_if_lt (tgt := 26) (by decide) rfl dX9_isSpan_1 rfl rfl) <| z_cons (ok_iload_n dX9_isSpan_4 rfl rfl) <| z_cons (ok_bipush (by decide) dX9_isSpan_5 rfl rfl) <| z_cons (ok_icmp_ge (tgt := 26) (by decide) rfl dX9_isSpan_7 rfl rfl) <| z_cons (ok_iload_n dX9_isSpan_10 rfl rfl) <| z_cons (ok_if_lt (tgt := 26) (by decide) rfl dX9_isSpan_11 rfl rfl) <| z_cons (ok_iload_n dX9_isSpan_14 rfl rfl) <| z_cons (ok_bipush (by decide) dX9_isSpan_15 rfl rfl) <| z_cons (ok_iload_n dX9_isSpan_17 rfl rfl) <| z_cons (ok_isub dX9_isSpan_18 rfl rfl) <| z_cons (ok_icmp_gt (tgt := 26) (by decide) rfl dX9_isSpan_19 rfl rfl) <| z_cons (ok_iconst (by decide) dX9_isSpan_22 rfl rfl) <| z_cons (ok_goto (tgt := 27) (by decide) rfl dX9_isSpan_23 rfl) <| z_cons (ok_iconst (by decide) dX9_isSpan_26 rfl rfl) <| z_cons (ok_zret rfl dX9_isSpan_27 rfl) <| z_nil
theorem dX9_isSet_0 : decode cX9_isSet 0 = .ok (.iload_n 0, 1) := by decide +kernel
theorem dX9_isSet_1 : decode cX9_isSet 1 = .ok (.ifCond .lt 13, 3) := by decide +kernel
theorem dX9_isSet_4 : decode cX9_isSet 4 = .ok (.iload_n 0, 1) := by decide +kernel
theorem dX9_isSet_5 : decode cX9_isSet 5 = .ok (.bipush 16, 2) := by decide +kernel
theorem dX9_isSet_7 : decode cX9_isSet 7 = .ok (.if_icmp .ge 7, 3) := by decide +kernel
theorem dX9_isSet_10 : decode cX9_isSet 10 = .ok (.iconst 1, 1) := by decide +kernel
theorem dX9_isSet_11 : decode cX9_isSet 11 = .ok (.goto 4, 3) := by decide +kernel
theorem dX9_isSet_14 : decode cX9_isSet 14 = .ok (.iconst 0, 1) := by decide +kernel
theorem dX9_isSet_15 : decode cX9_isSet 15 = .ok (.ireturn, 1) := by decide +kernel
set_option maxRecDepth 20000 in
theorem zl_X9_isSet_0 : z_All z_tab cX9_isSet 1 (some .boolean) RX9 pc_X9_isSet 0 (k_X9_isSet.drop 0) := z_cons (ok_iload_n dX9_isSet_0 rfl rfl) <| z_cons (ok_if_lt (tgt := 14) (by decide) rfl dX9_isSet_1 rfl rfl) <| z_cons (ok_iload_n dX9_isSet_4 rfl rfl) <| z_cons (ok_bipush (by decide) dX9_isSet_5 rfl rfl) <| z_cons (ok_icmp_ge (tgt := 14) (by decide) rfl dX9_isSet_7 rfl rfl) <| z_cons (ok_iconst (by decide) dX9_isSet_10 rfl rfl) <| z_cons (ok_goto (tgt := 15) (by decide) rfl dX9_isSet_11 rfl) <| z_cons (ok_iconst (by decide) dX9_isSet_14 rfl rfl) <| z_cons (ok_zret rfl dX9_isSet_15 rfl) <| z_nil
theorem dX9_lowest_0 : decode cX9_lowest 0 = .ok (.iload_n 1, 1) := by decide +kernel
theorem dX9_lowest_1 : decode cX9_lowest 1 = .ok (.ifCond .ne 7, 3) := by decide +kernel
theorem dX9_lowest_4 : decode cX9_lowest 4 = .ok (.iconst 0, 1) := by decide +kernel
theorem dX9_lowest_5 : decode cX9_lowest 5 = .ok (.goto 14, 3) := by decide +kernel
theorem dX9_lowest_8 : decode cX9_lowest 8 = .ok (.iload_n 0, 1) := by decide +kernel
theorem dX9_lowest_9 : decode cX9_lowest 9 = .ok (.bipush 32, 2) := by decide +kernel
theorem dX9_lowest_11 : decode cX9_lowest 11 = .ok (.iload_n 1, 1) := by decide +kernel
theorem dX9_lowest_12 : decode cX9_lowest 12 = .ok (.isub, 1) := by decide +kernel
theorem dX9_lowest_13 : decode cX9_lowest 13 = .ok (.ishl, 1) := by decide +kernel
theorem dX9_lowest_14 : decode cX9_lowest 14 = .ok (.bipush 32, 2) := by decide +kernel
theorem dX9_lowest_16 : decode cX9_lowest 16 = .ok (.iload_n 1, 1) := by decide +kernel
theorem dX9_lowest_17 : decode cX9_lowest 17 = .ok (.isub, 1) := by decide +kernel
theorem dX9_lowest_18 : decode cX9_lowest 18 = .ok (.iushr, 1) := by decide +kernel
theorem dX9_lowest_19 : decode cX9_lowest 19 = .ok (.ireturn, 1) := by decide +kernel
set_option maxRecDepth 20000 in
theorem zl_X9_lowest_0 : z_All z_tab cX9_lowest 2 (some .int) RX9 pc_X9_lowest 0 (k_X9_lowest.drop 0) := z_cons (ok_iload_n dX9_lowest_0 rfl rfl) <| z_cons (ok_if_ne (tgt := 8) (by decide) rfl dX9_lowest_1 rfl rfl) <| z_cons (ok_iconst (by decide) dX9_lowest_4 rfl rfl) <| z_cons (ok_goto (tgt := 19) (by decide) rfl dX9_lowest_5 rfl) <| z_cons (ok_iload_n dX9_lowest_8 rfl rfl) <| z_cons (ok_bipush (by decide) dX9_lowest_9 rfl rfl) <| z_cons (ok_iload_n dX9_lowest_11 rfl rfl) <| z_cons (ok_isub dX9_lowest_12 rfl rfl) <| z_cons (ok_ishl dX9_lowest_13 rfl rfl) <| z_cons (ok_bipush (by decide) dX9_lowest_14 rfl rfl) <| z_cons (ok_iload_n dX9_lowest_16 rfl rfl) <| z_cons (ok_isub dX9_lowest_17 rfl rfl) <| z_cons (ok_iushr dX9_lowest_18 rfl rfl) <| z_cons (ok_iret rfl dX9_lowest_19 rfl) <| z_nil
theorem dX9_commonDivisor_0 : decode cX9_commonDivisor 0 = .ok (.lload_n 0, 1) := by decide +kernel
theorem dX9_commonDivisor_1 : decode cX9_commonDivisor 1 = .ok (.lstore 4, 2) := by decide +kernel
theorem dX9_commonDivisor_3 : decode cX9_commonDivisor 3 = .ok (.lload_n 2, 1) := by decide +kernel
theorem dX9_commonDivisor_4 : decode cX9_commonDivisor 4 = .ok (.lstore 6, 2) := by decide +kernel
theorem dX9_commonDivisor_6 : decode cX9_commonDivisor 6 = .ok (.iconst 0, 1) := by decide +kernel
theorem dX9_commonDivisor_7 : decode cX9_commonDivisor 7 = .ok (.istore 8, 2) := by decide +kernel
theorem dX9_commonDivisor_9 : decode cX9_commonDivisor 9 = .ok (.iload 8, 2) := by decide +kernel
theorem dX9_commonDivisor_11 : decode cX9_commonDivisor 11 = .ok (.sipush 200, 3) := by decide +kernel
theorem dX9_commonDivisor_14 : decode cX9_commonDivisor 14 = .ok (.if_icmp .ge 31, 3) := by decide +kernel
theorem dX9_commonDivisor_17 : decode cX9_commonDivisor 17 = .ok (.lload 6, 2) := by decide +kernel
theorem dX9_commonDivisor_19 : decode cX9_commonDivisor 19 = .ok (.lconst 0, 1) := by decide +kernel
theorem dX9_commonDivisor_20 : decode cX9_commonDivisor 20 = .ok (.lcmp, 1) := by decide +kernel
theorem dX9_commonDivisor_21 : decode cX9_commonDivisor 21 = .ok (.ifCond .eq 24, 3) := by decide +kernel
theorem dX9_commonDivisor_24 : decode cX9_commonDivisor 24 = .ok (.lload 4, 2) := by decide +kernel
theorem dX9_commonDivisor_26 : decode cX9_commonDivisor 26 = .ok (.lload 6, 2) := by decide +kernel
theorem dX9_commonDivisor_28 : decode cX9_commonDivisor 28 = .ok (.lrem, 1) := by decide +kernel
theorem dX9_commonDivisor_29 : decode cX9_commonDivisor 29 = .ok (.lstore 9, 2) := by decide +kernel
theorem dX9_commonDivisor_31 : decode cX9_commonDivisor 31 = .ok (.lload 6, 2) := by decide +kernel
theorem dX9_commonDivisor_33 : decode cX9_commonDivisor 33 = .ok (.lstore 4, 2) := by decide +kernel
theorem dX9_commonDivisor_35 : decode cX9_commonDivisor 35 = .ok (.lload 9, 2) := by decide +kernel
theorem dX9_commonDivisor_37 : decode cX9_commonDivisor 37 = .ok (.lstore 6, 2) := by decide +kernel
theorem dX9_commonDivisor_39 : decode cX9_commonDivisor 39 = .ok (.iinc 8 1, 3) := by decide +kernel
theorem dX9_commonDivisor_42 : decode cX9_commonDivisor 42 = .ok (.goto (-33), 3) := by decide +kernel
theorem dX9_commonDivisor_45 : decode cX9_commonDivisor 45 = .ok (.lload 4, 2) := by decide +kernel
theorem dX9_commonDivisor_47 : decode cX9_commonDivisor 47 = .ok (.lreturn, 1) := by decide +kernel
set_option maxRecDepth 20000 in
theorem zl_X9_commonDivisor_0 : z_All z_tab cX9_commonDivisor 11 (some .long) RX9 pc_X9_commonDivisor 0 (k_X9_commonDivisor.drop 0) := z_cons (ok_lload_n dX9_commonDivisor_0 rfl rfl) <| z_cons (ok_lstore (Nat.le_of_ble_eq_true rfl) dX9_commonDivisor_1 rfl rfl) <| z_cons (ok_lload_n dX9_commonDivisor_3 rfl rfl) <| z_cons (ok_lstore (Nat.le_of_ble_eq_true rfl) dX9_commonDivisor_4 rfl rfl) <| z_cons (ok_iconst (by decide) dX9_commonDivisor_6 rfl rfl) <| z_cons (ok_istore (Nat.le_of_ble_eq_true rfl) dX9_commonDivisor_7 rfl rfl) <| z_cons (ok_iload dX9_commonDivisor_9 rfl rfl) <| z_cons (ok_sipush (by decide) dX9_commonDivisor_11 rfl rfl) <| z_cons (ok_icmp_ge (tgt := 45) (by decide) rfl dX9_commonDivisor_14 rfl rfl) <| z_cons (ok_lload dX9_commonDivisor_17 rfl rfl) <| z_cons (ok_lconst (by decide) dX9_commonDivisor_19 rfl rfl) <| z_cons (ok_lcmp dX9_commonDivisor_20 rfl rfl) <| z_cons (ok_if_eq (tgt := 45) (by decide) rfl dX9_commonDivisor_21 rfl rfl) <| z_cons (ok_lload dX9_commonDivisor_24 rfl rfl) <| z_cons (ok_lload dX9_commonDivisor_26 rfl rfl) <| z_cons (ok_lrem dX9_commonDivisor_28 rfl rfl) <| z_cons (ok_lstore (Nat.le_of_ble_eq_true rfl) dX9_commonDivisor_29 rfl rfl) <| z_cons (ok_lload dX9_commonDivisor_31 rfl rfl) <| z_cons (ok_lstore (Nat.le_of_ble_eq_true rfl) dX9_commonDivisor_33 rfl rfl) <| z_cons (ok_lload dX9_commonDivisor_35 rfl rfl) <| z_cons (ok_lstore (Nat.le_of_ble_eq_true rfl) dX9_commonDivisor_37 rfl rfl) <| z_cons (ok_iinc (by decide) (Nat.le_of_ble_eq_true rfl) dX9_commonDivisor_39 rfl rfl) <| z_cons (ok_goto (tgt := 9) (by decide) rfl dX9_commonDivisor_42 rfl) <| z_cons (ok_lload dX9_commonDivisor_45 rfl rfl) <| z_cons (ok_lret rfl dX9_commonDivisor_47 rfl) <| z_nil
theorem dX10_isIn_0 : decode cX10_isIn 0 = .ok (.iload_n 0, 1) := by decide +kernel
theorem dX10_isIn_1 : decode cX10_isIn 1 = .ok (.iload_n 1, 1) := by decide +kernel
theorem dX10_isIn_2 : decode cX10_isIn 2 = .ok (.if_icmp .lt 12, 3) := by decide +kernel
theorem dX10_isIn_5 : decode cX10_isIn 5 = .ok (.iload_n 0, 1) := by decide +kernel
theorem dX10_isIn_6 : decode cX10_isIn 6 = .ok (.iload_n 2, 1) := by decide +kernel
theorem dX10_isIn_7 : decode cX10_isIn 7 = .ok (.if_icmp .gt 7, 3) := by decide +kernel
theorem dX10_isIn_10 : decode cX10_isIn 10 = .ok (.iconst 1, 1) := by decide +kernel
theorem dX10_isIn_11 : decode cX10_isIn 11 = .ok (.goto 4, 3) := by decide +kernel
theorem dX10_isIn_14 : decode cX10_isIn 14 = .ok (.iconst 0, 1) := by decide +kernel
theorem dX10_isIn_15 : decode cX10_isIn 15 = .ok (.ireturn, 1) := by decide +kernel
set_option maxRecDepth 20000 in
theorem zl_X10_isIn_0 : z_All z_tab cX10_isIn 3 (some .boolean) RX10 pc_X10_isIn 0 (k_X10_isIn.drop 0) := z_cons (ok_iload_n dX10_isIn_0 rfl rfl) <| z_cons (ok_iload_n dX10_isIn_1 rfl rfl) <| z_cons (ok_icmp_lt (tgt := 14) (by decide) rfl dX10_isIn_2 rfl rfl) <| z_cons (ok_iload_n dX10_isIn_5 rfl rfl) <| z_cons (ok_iload_n dX10_isIn_6 rfl rfl) <| z_cons (ok_icmp_gt (tgt := 14) (by decide) rfl dX10_isIn_7 rfl rfl) <| z_cons (ok_iconst (by decide) dX10_isIn_10 rfl rfl) <| z_cons (ok_goto (tgt := 15) (by decide) rfl dX10_isIn_11 rfl) <| z_cons (ok_iconst (by decide) dX10_isIn_14 rfl rfl) <| z_cons (ok_zret rfl dX10_isIn_15 rfl) <| z_nil
theorem dX10_has_0 : decode cX10_has 0 = .ok (.iload_n 0, 1) := by decide +kernel
theorem dX10_has_1 : decode cX10_has 1 = .ok (.iload_n 1, 1) := by decide +kernel
theorem dX10_has_2 : decode cX10_has 2 = .ok (.ishr, 1) := by decide +kernel
theorem dX10_has_3 : decode cX10_has 3 = .ok (.iconst 1, 1) := by decide +kernel
theorem dX10_has_4 : decode cX10_has 4 = .ok (.iand, 1) := by decide +kernel
theorem dX10_has_5 : decode cX10_has 5 = .ok (.iconst 1, 1) := by decide +kernel
theorem dX10_has_6 : decode cX10_has 6 = .ok (.if_icmp .ne 7, 3) := by decide +kernel
theorem dX10_has_9 : decode cX10_has 9 = .ok (.iconst 1, 1) := by decide +kernel
theorem dX10_has_10 : decode cX10_has 10 = .ok (.goto 4, 3) := by decide +kernel
theorem dX10_has_13 : decode cX10_has 13 = .ok (.iconst 0, 1) := by decide +kernel
theorem dX10_has_14 : decode cX10_has 14 = .ok (.ireturn, 1) := by decide +kernel
set_option maxRecDepth 20000 in
theorem zl_X10_has_0 : z_All z_tab cX10_has 2 (some .boolean) RX10 pc_X10_has 0 (k_X10_has.drop 0) := z_cons (ok_iload_n dX10_has_0 rfl rfl) <| z_cons (ok_iload_n dX10_has_1 rfl rfl) <| z_cons (ok_ishr dX10_has_2 rfl rfl) <| z_cons (ok_iconst (by decide) dX10_has_3 rfl rfl) <| z_cons (ok_iand dX10_has_4 rfl rfl) <| z_cons (ok_iconst (by decide) dX10_has_5 rfl rfl) <| z_cons (ok_icmp_ne (tgt := 13) (by decide) rfl dX10_has_6 rfl rfl) <| z_cons (ok_iconst (by decide) dX10_has_9 rfl rfl) <| z_cons (ok_goto (tgt := 14) (by decide) rfl dX10_has_10 rfl) <| z_cons (ok_iconst (by decide) dX10_has_13 rfl rfl) <| z_cons (ok_zret rfl dX10_has_14 rfl) <| z_nil
theorem dX10_copies_0 : decode cX10_copies 0 = .ok (.iconst 0, 1) := by decide +kernel
theorem dX10_copies_1 : decode cX10_copies 1 = .ok (.istore_n 2, 1) := by decide +kernel
theorem dX10_copies_2 : decode cX10_copies 2 = .ok (.iload_n 2, 1) := by decide +kernel
theorem dX10_copies_3 : decode cX10_copies 3 = .ok (.ldc 3, 2) := by decide +kernel
theorem dX10_copies_5 : decode cX10_copies 5 = .ok (.if_icmp .ge 15, 3) := by decide +kernel
theorem dX10_copies_8 : decode cX10_copies 8 = .ok (.aload_n 1, 1) := by decide +kernel
theorem dX10_copies_9 : decode cX10_copies 9 = .ok (.iload_n 2, 1) := by decide +kernel
theorem dX10_copies_10 : decode cX10_copies 10 = .ok (.aload_n 0, 1) := by decide +kernel
theorem dX10_copies_11 : decode cX10_copies 11 = .ok (.iload_n 2, 1) := by decide +kernel
theorem dX10_copies_12 : decode cX10_copies 12 = .ok (.iaload, 1) := by decide +kernel
theorem dX10_copies_13 : decode cX10_copies 13 = .ok (.iastore, 1) := by decide +kernel
theorem dX10_copies_14 : decode cX10_copies 14 = .ok (.iinc 2 1, 3) := by decide +kernel
theorem dX10_copies_17 : decode cX10_copies 17 = .ok (.goto (-15), 3) := by decide +kernel
theorem dX10_copies_20 : decode cX10_copies 20 = .ok (.return_, 1) := by decide +kernel
set_option maxRecDepth 20000 in
theorem zl_X10_copies_0 : z_All z_tab cX10_copies 3 none RX10 pc_X10_copies 0 (k_X10_copies.drop 0) := z_cons (ok_iconst (by decide) dX10_copies_0 rfl rfl) <| z_cons (ok_istore_n (Nat.le_of_ble_eq_true rfl) dX10_copies_1 rfl rfl) <| z_cons (ok_iload_n dX10_copies_2 rfl rfl) <| z_cons (ok_ldc qw_615 dX10_copies_3 rfl rfl) <| z_cons (ok_icmp_ge (tgt := 20) (by decide) rfl dX10_copies_5 rfl rfl) <| z_cons (ok_aload_n dX10_copies_8 rfl rfl) <| z_cons (ok_iload_n dX10_copies_9 rfl rfl) <| z_cons (ok_aload_n dX10_copies_10 rfl rfl) <| z_cons (ok_iload_n dX10_copies_11 rfl rfl) <| z_cons (ok_iald dX10_copies_12 rfl rfl) <| z_cons (ok_iast dX10_copies_13 rfl rfl) <| z_cons (ok_iinc (by decide) (Nat.le_of_ble_eq_true rfl) dX10_copies_14 rfl rfl) <| z_cons (ok_goto (tgt := 2) (by decide) rfl dX10_copies_17 rfl) <| z_cons (ok_ret rfl dX10_copies_20 rfl) <| z_nil
theorem dX10_clears_0 : decode cX10_clears 0 = .ok (.sipush 454, 3) := by decide +kernel
theorem dX10_clears_3 : decode cX10_clears 3 = .ok (.istore_n 2, 1) := by decide +kernel
theorem dX10_clears_4 : decode cX10_clears 4 = .ok (.iload_n 2, 1) := by decide +kernel
theorem dX10_clears_5 : decode cX10_clears 5 = .ok (.sipush 718, 3) := by decide +kernel
theorem dX10_clears_8 : decode cX10_clears 8 = .ok (.if_icmp .ge 18, 3) := by decide +kernel
theorem dX10_clears_11 : decode cX10_clears 11 = .ok (.aload_n 0, 1) := by decide +kernel
theorem dX10_clears_12 : decode cX10_clears 12 = .ok (.getfield 10, 3) := by decide +kernel
theorem dX10_clears_15 : decode cX10_clears 15 = .ok (.iload_n 2, 1) := by decide +kernel
theorem dX10_clears_16 : decode cX10_clears 16 = .ok (.iload_n 1, 1) := by decide +kernel
theorem dX10_clears_17 : decode cX10_clears 17 = .ok (.iadd, 1) := by decide +kernel
theorem dX10_clears_18 : decode cX10_clears 18 = .ok (.iconst 0, 1) := by decide +kernel
theorem dX10_clears_19 : decode cX10_clears 19 = .ok (.iastore, 1) := by decide +kernel
theorem dX10_clears_20 : decode cX10_clears 20 = .ok (.iinc 2 24, 3) := by decide +kernel
theorem dX10_clears_23 : decode cX10_clears 23 = .ok (.goto (-19), 3) := by decide +kernel
theorem dX10_clears_26 : decode cX10_clears 26 = .ok (.iconst 0, 1) := by decide +kernel
theorem dX10_clears_27 : decode cX10_clears 27 = .ok (.istore_n 2, 1) := by decide +kernel
theorem dX10_clears_28 : decode cX10_clears 28 = .ok (.iload_n 2, 1) := by decide +kernel
theorem dX10_clears_29 : decode cX10_clears 29 = .ok (.iconst 4, 1) := by decide +kernel
theorem dX10_clears_30 : decode cX10_clears 30 = .ok (.if_icmp .ge 24, 3) := by decide +kernel
theorem dX10_clears_33 : decode cX10_clears 33 = .ok (.aload_n 0, 1) := by decide +kernel
theorem dX10_clears_34 : decode cX10_clears 34 = .ok (.getfield 10, 3) := by decide +kernel
theorem dX10_clears_37 : decode cX10_clears 37 = .ok (.sipush 718, 3) := by decide +kernel
theorem dX10_clears_40 : decode cX10_clears 40 = .ok (.iconst 4, 1) := by decide +kernel
theorem dX10_clears_41 : decode cX10_clears 41 = .ok (.iload_n 1, 1) := by decide +kernel
theorem dX10_clears_42 : decode cX10_clears 42 = .ok (.imul, 1) := by decide +kernel
theorem dX10_clears_43 : decode cX10_clears 43 = .ok (.iadd, 1) := by decide +kernel
theorem dX10_clears_44 : decode cX10_clears 44 = .ok (.iload_n 2, 1) := by decide +kernel
theorem dX10_clears_45 : decode cX10_clears 45 = .ok (.iadd, 1) := by decide +kernel
theorem dX10_clears_46 : decode cX10_clears 46 = .ok (.iconst 0, 1) := by decide +kernel
theorem dX10_clears_47 : decode cX10_clears 47 = .ok (.iastore, 1) := by decide +kernel
theorem dX10_clears_48 : decode cX10_clears 48 = .ok (.iinc 2 1, 3) := by decide +kernel
theorem dX10_clears_51 : decode cX10_clears 51 = .ok (.goto (-23), 3) := by decide +kernel
theorem dX10_clears_54 : decode cX10_clears 54 = .ok (.aload_n 0, 1) := by decide +kernel
theorem dX10_clears_55 : decode cX10_clears 55 = .ok (.getfield 10, 3) := by decide +kernel
theorem dX10_clears_58 : decode cX10_clears 58 = .ok (.sipush 550, 3) := by decide +kernel
theorem dX10_clears_61 : decode cX10_clears 61 = .ok (.iload_n 1, 1) := by decide +kernel
theorem dX10_clears_62 : decode cX10_clears 62 = .ok (.iadd, 1) := by decide +kernel
theorem dX10_clears_63 : decode cX10_clears 63 = .ok (.iconst (-1), 1) := by decide +kernel
theorem dX10_clears_64 : decode cX10_clears 64 = .ok (.iastore, 1) := by decide +kernel
theorem dX10_clears_65 : decode cX10_clears 65 = .ok (.aload_n 0, 1) := by decide +kernel
theorem dX10_clears_66 : decode cX10_clears 66 = .ok (.getfield 10, 3) := by decide +kernel
theorem dX10_clears_69 : decode cX10_clears 69 = .ok (.sipush 574, 3) := by decide +kernel
theorem dX10_clears_72 : decode cX10_clears 72 = .ok (.iload_n 1, 1) := by decide +kernel
theorem dX10_clears_73 : decode cX10_clears 73 = .ok (.iadd, 1) := by decide +kernel
theorem dX10_clears_74 : decode cX10_clears 74 = .ok (.iconst (-1), 1) := by decide +kernel
theorem dX10_clears_75 : decode cX10_clears 75 = .ok (.iastore, 1) := by decide +kernel
theorem dX10_clears_76 : decode cX10_clears 76 = .ok (.aload_n 0, 1) := by decide +kernel
theorem dX10_clears_77 : decode cX10_clears 77 = .ok (.getfield 10, 3) := by decide +kernel
theorem dX10_clears_80 : decode cX10_clears 80 = .ok (.sipush 622, 3) := by decide +kernel
theorem dX10_clears_83 : decode cX10_clears 83 = .ok (.iload_n 1, 1) := by decide +kernel
theorem dX10_clears_84 : decode cX10_clears 84 = .ok (.iadd, 1) := by decide +kernel
theorem dX10_clears_85 : decode cX10_clears 85 = .ok (.iconst (-1), 1) := by decide +kernel
theorem dX10_clears_86 : decode cX10_clears 86 = .ok (.iastore, 1) := by decide +kernel
theorem dX10_clears_87 : decode cX10_clears 87 = .ok (.aload_n 0, 1) := by decide +kernel
theorem dX10_clears_88 : decode cX10_clears 88 = .ok (.getfield 10, 3) := by decide +kernel
theorem dX10_clears_91 : decode cX10_clears 91 = .ok (.sipush 670, 3) := by decide +kernel
theorem dX10_clears_94 : decode cX10_clears 94 = .ok (.iload_n 1, 1) := by decide +kernel
theorem dX10_clears_95 : decode cX10_clears 95 = .ok (.iadd, 1) := by decide +kernel
theorem dX10_clears_96 : decode cX10_clears 96 = .ok (.iconst (-1), 1) := by decide +kernel
theorem dX10_clears_97 : decode cX10_clears 97 = .ok (.iastore, 1) := by decide +kernel
theorem dX10_clears_98 : decode cX10_clears 98 = .ok (.return_, 1) := by decide +kernel
set_option maxRecDepth 20000 in
theorem zl_X10_clears_1 : z_All z_tab cX10_clears 3 none RX10 pc_X10_clears 40 (k_X10_clears.drop 40) := z_cons (ok_getr (k := 0) ⟨by decide, by decide, by decide⟩ (ci := 8) (T := TX10) rfl rfl (Nat.le_of_ble_eq_true rfl) iw_X10 qw_616 gr_11_0 (fun _ _ => by simp) (fun w i => List.mem_of_getElem? (i := 0) rfl) dX10_clears_66 rfl rfl) <| z_cons (ok_sipush (by decide) dX10_clears_69 rfl rfl) <| z_cons (ok_iload_n dX10_clears_72 rfl rfl) <| z_cons (ok_iadd dX10_clears_73 rfl rfl) <| z_cons (ok_iconst (by decide) dX10_clears_74 rfl rfl) <| z_cons (ok_iast dX10_clears_75 rfl rfl) <| z_cons (ok_aload_n dX10_clears_76 rfl rfl) <| z_cons (ok_getr (k := 0) ⟨by decide, by decide, by decide⟩ (ci := 8) (T := TX10) rfl rfl (Nat.le_of_ble_eq_true rfl) iw_X10 qw_616 gr_11_0 (fun _ _ => by simp) (fun w i => List.mem_of_getElem? (i := 0) rfl) dX10_clears_77 rfl rfl) <| z_cons (ok_sipush (by decide) dX10_clears_80 rfl rfl) <| z_cons (ok_iload_n dX10_clears_83 rfl rfl) <| z_cons (ok_iadd dX10_clears_84 rfl rfl) <| z_cons (ok_iconst (by decide) dX10_clears_85 rfl rfl) <| z_cons (ok_iast dX10_clears_86 rfl rfl) <| z_cons (ok_aload_n dX10_clears_87 rfl rfl) <| z_cons (ok_getr (k := 0) ⟨by decide, by decide, by decide⟩ (ci := 8) (T := TX10) rfl rfl (Nat.le_of_ble_eq_true rfl) iw_X10 qw_616 gr_11_0 (fun _ _ => by simp) (fun w i => List.mem_of_getElem? (i := 0) rfl) dX10_clears_88 rfl rfl) <| z_cons (ok_sipush (by decide) dX10_clears_91 rfl rfl) <| z_cons (ok_iload_n dX10_clears_94 rfl rfl) <| z_cons (ok_iadd dX10_clears_95 rfl rfl) <| z_cons (ok_iconst (by decide) dX10_clears_96 rfl rfl) <| z_cons (ok_iast dX10_clears_97 rfl rfl) <| z_cons (ok_ret rfl dX10_clears_98 rfl) <| z_nil
set_option maxRecDepth 20000 in
theorem zl_X10_clears_0 : z_All z_tab cX10_clears 3 none RX10 pc_X10_clears 0 (k_X10_clears.drop 0) := z_cons (ok_sipush (by decide) dX10_clears_0 rfl rfl) <| z_cons (ok_istore_n (Nat.le_of_ble_eq_true rfl) dX10_clears_3 rfl rfl) <| z_cons (ok_iload_n dX10_clears_4 rfl rfl) <| z_cons (ok_sipush (by decide) dX10_clears_5 rfl rfl) <| z_cons (ok_icmp_ge (tgt := 26) (by decide) rfl dX10_clears_8 rfl rfl) <| z_cons (ok_aload_n dX10_clears_11 rfl rfl) <| z_cons (ok_getr (k := 0) ⟨by decide, by decide, by decide⟩ (ci := 8) (T := TX10) rfl rfl (Nat.le_of_ble_eq_true rfl) iw_X10 qw_616 gr_11_0 (fun _ _ => by simp) (fun w i => List.mem_of_getElem? (i := 0) rfl) dX10_clears_12 rfl rfl) <| z_cons (ok_iload_n dX10_clears_15 rfl rfl) <| z_cons (ok_iload_n dX10_clears_16 rfl rfl) <| z_cons (ok_iadd dX10_clears_17 rfl rfl) <| z_cons (ok_iconst (by decide) dX10_clears_18 rfl rfl) <| z_cons (ok_iast dX10_clears_19 rfl rfl) <| z_cons (ok_iinc (by decide) (Nat.le_of_ble_eq_true rfl) dX10_clears_20 rfl rfl) <| z_cons (ok_goto (tgt := 4) (by decide) rfl dX10_clears_23 rfl) <| z_cons (ok_iconst (by decide) dX10_clears_26 rfl rfl) <| z_cons (ok_istore_n (Nat.le_of_ble_eq_true rfl) dX10_clears_27 rfl rfl) <| z_cons (ok_iload_n dX10_clears_28 rfl rfl) <| z_cons (ok_iconst (by decide) dX10_clears_29 rfl rfl) <| z_cons (ok_icmp_ge (tgt := 54) (by decide) rfl dX10_clears_30 rfl rfl) <| z_cons (ok_aload_n dX10_clears_33 rfl rfl) <| z_cons (ok_getr (k := 0) ⟨by decide, by decide, by decide⟩ (ci := 8) (T := TX10) rfl rfl (Nat.le_of_ble_eq_true rfl) iw_X10 qw_616 gr_11_0 (fun _ _ => by simp) (fun w i => List.mem_of_getElem? (i := 0) rfl) dX10_clears_34 rfl rfl) <| z_cons (ok_sipush (by decide) dX10_clears_37 rfl rfl) <| z_cons (ok_iconst (by decide) dX10_clears_40 rfl rfl) <| z_cons (ok_iload_n dX10_clears_41 rfl rfl) <| z_cons (ok_imul dX10_clears_42 rfl rfl) <| z_cons (ok_iadd dX10_clears_43 rfl rfl) <| z_cons (ok_iload_n dX10_clears_44 rfl rfl) <| z_cons (ok_iadd dX10_clears_45 rfl rfl) <| z_cons (ok_iconst (by decide) dX10_clears_46 rfl rfl) <| z_cons (ok_iast dX10_clears_47 rfl rfl) <| z_cons (ok_iinc (by decide) (Nat.le_of_ble_eq_true rfl) dX10_clears_48 rfl rfl) <| z_cons (ok_goto (tgt := 28) (by decide) rfl dX10_clears_51 rfl) <| z_cons (ok_aload_n dX10_clears_54 rfl rfl) <| z_cons (ok_getr (k := 0) ⟨by decide, by decide, by decide⟩ (ci := 8) (T := TX10) rfl rfl (Nat.le_of_ble_eq_true rfl) iw_X10 qw_616 gr_11_0 (fun _ _ => by simp) (fun w i => List.mem_of_getElem? (i := 0) rfl) dX10_clears_55 rfl rfl) <| z_cons (ok_sipush (by decide) dX10_clears_58 rfl rfl) <| z_cons (ok_iload_n dX10_clears_61 rfl rfl) <| z_cons (ok_iadd dX10_clears_62 rfl rfl) <| z_cons (ok_iconst (by decide) dX10_clears_63 rfl rfl) <| z_cons (ok_iast dX10_clears_64 rfl rfl) <| z_cons (ok_aload_n dX10_clears_65 rfl rfl) <| zl_X10_clears_1
theorem dX10_isReader_0 : decode cX10_isReader 0 = .ok (.iload_n 0, 1) := by decide +kernel
theorem dX10_isReader_1 : decode cX10_isReader 1 = .ok (.iconst 0, 1) := by decide +kernel
theorem dX10_isReader_2 : decode cX10_isReader 2 = .ok (.iconst 3, 1) := by decide +kernel
theorem dX10_isReader_3 : decode cX10_isReader 3 = .ok (.invokestatic 32, 3) := by decide +kernel
theorem dX10_isReader_6 : decode cX10_isReader 6 = .ok (.ireturn, 1) := by decide +kernel
set_option maxRecDepth 20000 in
theorem zl_X10_isReader_0 : z_All z_tab cX10_isReader 1 (some .boolean) RX10 pc_X10_isReader 0 (k_X10_isReader.drop 0) := z_cons (ok_iload_n dX10_isReader_0 rfl rfl) <| z_cons (ok_iconst (by decide) dX10_isReader_1 rfl rfl) <| z_cons (ok_iconst (by decide) dX10_isReader_2 rfl rfl) <| z_cons (ok_callS (k := 162) (n := 3) qw_617 qw_618 ⟨by decide +kernel, by decide +kernel, by decide +kernel⟩ (Nat.le_of_ble_eq_true rfl) qw_620 qw_619 dX10_isReader_3 rfl rfl) <| z_cons (ok_zret rfl dX10_isReader_6 rfl) <| z_nil
theorem dX10_isTag_0 : decode cX10_isTag 0 = .ok (.iload_n 1, 1) := by decide +kernel
theorem dX10_isTag_1 : decode cX10_isTag 1 = .ok (.iconst 0, 1) := by decide +kernel
theorem dX10_isTag_2 : decode cX10_isTag 2 = .ok (.bipush 23, 2) := by decide +kernel
theorem dX10_isTag_4 : decode cX10_isTag 4 = .ok (.invokestatic 32, 3) := by decide +kernel
theorem dX10_isTag_7 : decode cX10_isTag 7 = .ok (.ifCond .eq 21, 3) := by decide +kernel
theorem dX10_isTag_10 : decode cX10_isTag 10 = .ok (.aload_n 0, 1) := by decide +kernel
theorem dX10_isTag_11 : decode cX10_isTag 11 = .ok (.getfield 10, 3) := by decide +kernel
theorem dX10_isTag_14 : decode cX10_isTag 14 = .ok (.sipush 454, 3) := by decide +kernel
theorem dX10_isTag_17 : decode cX10_isTag 17 = .ok (.iload_n 1, 1) := by decide +kernel
theorem dX10_isTag_18 : decode cX10_isTag 18 = .ok (.iadd, 1) := by decide +kernel
theorem dX10_isTag_19 : decode cX10_isTag 19 = .ok (.iaload, 1) := by decide +kernel
theorem dX10_isTag_20 : decode cX10_isTag 20 = .ok (.iconst 1, 1) := by decide +kernel
theorem dX10_isTag_21 : decode cX10_isTag 21 = .ok (.if_icmp .ne 7, 3) := by decide +kernel
theorem dX10_isTag_24 : decode cX10_isTag 24 = .ok (.iconst 1, 1) := by decide +kernel
theorem dX10_isTag_25 : decode cX10_isTag 25 = .ok (.goto 4, 3) := by decide +kernel
theorem dX10_isTag_28 : decode cX10_isTag 28 = .ok (.iconst 0, 1) := by decide +kernel
theorem dX10_isTag_29 : decode cX10_isTag 29 = .ok (.ireturn, 1) := by decide +kernel
set_option maxRecDepth 20000 in
theorem zl_X10_isTag_0 : z_All z_tab cX10_isTag 2 (some .boolean) RX10 pc_X10_isTag 0 (k_X10_isTag.drop 0) := z_cons (ok_iload_n dX10_isTag_0 rfl rfl) <| z_cons (ok_iconst (by decide) dX10_isTag_1 rfl rfl) <| z_cons (ok_bipush (by decide) dX10_isTag_2 rfl rfl) <| z_cons (ok_callS (k := 162) (n := 3) qw_617 qw_618 ⟨by decide +kernel, by decide +kernel, by decide +kernel⟩ (Nat.le_of_ble_eq_true rfl) qw_620 qw_619 dX10_isTag_4 rfl rfl) <| z_cons (ok_if_eq (tgt := 28) (by decide) rfl dX10_isTag_7 rfl rfl) <| z_cons (ok_aload_n dX10_isTag_10 rfl rfl) <| z_cons (ok_getr (k := 0) ⟨by decide, by decide, by decide⟩ (ci := 8) (T := TX10) rfl rfl (Nat.le_of_ble_eq_true rfl) iw_X10 qw_616 gr_11_0 (fun _ _ => by simp) (fun w i => List.mem_of_getElem? (i := 0) rfl) dX10_isTag_11 rfl rfl) <| z_cons (ok_sipush (by decide) dX10_isTag_14 rfl rfl) <| z_cons (ok_iload_n dX10_isTag_17 rfl rfl) <| z_cons (ok_iadd dX10_isTag_18 rfl rfl) <| z_cons (ok_iald dX10_isTag_19 rfl rfl) <| z_cons (ok_iconst (by decide) dX10_isTag_20 rfl rfl) <| z_cons (ok_icmp_ne (tgt := 28) (by decide) rfl dX10_isTag_21 rfl rfl) <| z_cons (ok_iconst (by decide) dX10_isTag_24 rfl rfl) <| z_cons (ok_goto (tgt := 29) (by decide) rfl dX10_isTag_25 rfl) <| z_cons (ok_iconst (by decide) dX10_isTag_28 rfl rfl) <| z_cons (ok_zret rfl dX10_isTag_29 rfl) <| z_nil
theorem dX10_counts_0 : decode cX10_counts 0 = .ok (.aload_n 0, 1) := by decide +kernel
theorem dX10_counts_1 : decode cX10_counts 1 = .ok (.getfield 10, 3) := by decide +kernel
theorem dX10_counts_4 : decode cX10_counts 4 = .ok (.iconst 5, 1) := by decide +kernel
theorem dX10_counts_5 : decode cX10_counts 5 = .ok (.iload_n 1, 1) := by decide +kernel
theorem dX10_counts_6 : decode cX10_counts 6 = .ok (.iadd, 1) := by decide +kernel
theorem dX10_counts_7 : decode cX10_counts 7 = .ok (.dup2, 1) := by decide +kernel
theorem dX10_counts_8 : decode cX10_counts 8 = .ok (.iaload, 1) := by decide +kernel
theorem dX10_counts_9 : decode cX10_counts 9 = .ok (.iload_n 2, 1) := by decide +kernel
theorem dX10_counts_10 : decode cX10_counts 10 = .ok (.iadd, 1) := by decide +kernel
theorem dX10_counts_11 : decode cX10_counts 11 = .ok (.iastore, 1) := by decide +kernel
theorem dX10_counts_12 : decode cX10_counts 12 = .ok (.return_, 1) := by decide +kernel
set_option maxRecDepth 20000 in
theorem zl_X10_counts_0 : z_All z_tab cX10_counts 3 none RX10 pc_X10_counts 0 (k_X10_counts.drop 0) := z_cons (ok_aload_n dX10_counts_0 rfl rfl) <| z_cons (ok_getr (k := 0) ⟨by decide, by decide, by decide⟩ (ci := 8) (T := TX10) rfl rfl (Nat.le_of_ble_eq_true rfl) iw_X10 qw_616 gr_11_0 (fun _ _ => by simp) (fun w i => List.mem_of_getElem? (i := 0) rfl) dX10_counts_1 rfl rfl) <| z_cons (ok_iconst (by decide) dX10_counts_4 rfl rfl) <| z_cons (ok_iload_n dX10_counts_5 rfl rfl) <| z_cons (ok_iadd dX10_counts_6 rfl rfl) <| z_cons (ok_dup2 dX10_counts_7 rfl rfl) <| z_cons (ok_iald dX10_counts_8 rfl rfl) <| z_cons (ok_iload_n dX10_counts_9 rfl rfl) <| z_cons (ok_iadd dX10_counts_10 rfl rfl) <| z_cons (ok_iast dX10_counts_11 rfl rfl) <| z_cons (ok_ret rfl dX10_counts_12 rfl) <| z_nil
theorem dX10_logs_0 : decode cX10_logs 0 = .ok (.aload_n 0, 1) := by decide +kernel
theorem dX10_logs_1 : decode cX10_logs 1 = .ok (.getfield 10, 3) := by decide +kernel
theorem dX10_logs_4 : decode cX10_logs 4 = .ok (.iconst 4, 1) := by decide +kernel
theorem dX10_logs_5 : decode cX10_logs 5 = .ok (.iaload, 1) := by decide +kernel
theorem dX10_logs_6 : decode cX10_logs 6 = .ok (.bipush 60, 2) := by decide +kernel
theorem dX10_logs_8 : decode cX10_logs 8 = .ok (.if_icmp .lt 42, 3) := by decide +kernel
theorem dX10_logs_11 : decode cX10_logs 11 = .ok (.iconst 4, 1) := by decide +kernel
theorem dX10_logs_12 : decode cX10_logs 12 = .ok (.istore 4, 2) := by decide +kernel
theorem dX10_logs_14 : decode cX10_logs 14 = .ok (.iload 4, 2) := by decide +kernel
theorem dX10_logs_16 : decode cX10_logs 16 = .ok (.sipush 240, 3) := by decide +kernel
theorem dX10_logs_19 : decode cX10_logs 19 = .ok (.if_icmp .ge 31, 3) := by decide +kernel
theorem dX10_logs_22 : decode cX10_logs 22 = .ok (.aload_n 0, 1) := by decide +kernel
theorem dX10_logs_23 : decode cX10_logs 23 = .ok (.getfield 10, 3) := by decide +kernel
theorem dX10_logs_26 : decode cX10_logs 26 = .ok (.bipush 22, 2) := by decide +kernel
theorem dX10_logs_28 : decode cX10_logs 28 = .ok (.iload 4, 2) := by decide +kernel
theorem dX10_logs_30 : decode cX10_logs 30 = .ok (.iadd, 1) := by decide +kernel
theorem dX10_logs_31 : decode cX10_logs 31 = .ok (.iconst 4, 1) := by decide +kernel
theorem dX10_logs_32 : decode cX10_logs 32 = .ok (.isub, 1) := by decide +kernel
theorem dX10_logs_33 : decode cX10_logs 33 = .ok (.aload_n 0, 1) := by decide +kernel
theorem dX10_logs_34 : decode cX10_logs 34 = .ok (.getfield 10, 3) := by decide +kernel
theorem dX10_logs_37 : decode cX10_logs 37 = .ok (.bipush 22, 2) := by decide +kernel
theorem dX10_logs_39 : decode cX10_logs 39 = .ok (.iload 4, 2) := by decide +kernel
theorem dX10_logs_41 : decode cX10_logs 41 = .ok (.iadd, 1) := by decide +kernel
theorem dX10_logs_42 : decode cX10_logs 42 = .ok (.iaload, 1) := by decide +kernel
theorem dX10_logs_43 : decode cX10_logs 43 = .ok (.iastore, 1) := by decide +kernel
theorem dX10_logs_44 : decode cX10_logs 44 = .ok (.iinc 4 1, 3) := by decide +kernel
theorem dX10_logs_47 : decode cX10_logs 47 = .ok (.goto (-33), 3) := by decide +kernel
theorem dX10_logs_50 : decode cX10_logs 50 = .ok (.bipush 22, 2) := by decide +kernel
theorem dX10_logs_52 : decode cX10_logs 52 = .ok (.iconst 4, 1) := by decide +kernel
theorem dX10_logs_53 : decode cX10_logs 53 = .ok (.aload_n 0, 1) := by decide +kernel
theorem dX10_logs_54 : decode cX10_logs 54 = .ok (.getfield 10, 3) := by decide +kernel
theorem dX10_logs_57 : decode cX10_logs 57 = .ok (.iconst 4, 1) := by decide +kernel
theorem dX10_logs_58 : decode cX10_logs 58 = .ok (.iaload, 1) := by decide +kernel
theorem dX10_logs_59 : decode cX10_logs 59 = .ok (.bipush 60, 2) := by decide +kernel
theorem dX10_logs_61 : decode cX10_logs 61 = .ok (.if_icmp .ge 12, 3) := by decide +kernel
theorem dX10_logs_64 : decode cX10_logs 64 = .ok (.aload_n 0, 1) := by decide +kernel
theorem dX10_logs_65 : decode cX10_logs 65 = .ok (.getfield 10, 3) := by decide +kernel
theorem dX10_logs_68 : decode cX10_logs 68 = .ok (.iconst 4, 1) := by decide +kernel
theorem dX10_logs_69 : decode cX10_logs 69 = .ok (.iaload, 1) := by decide +kernel
theorem dX10_logs_70 : decode cX10_logs 70 = .ok (.goto 5, 3) := by decide +kernel
theorem dX10_logs_73 : decode cX10_logs 73 = .ok (.bipush 59, 2) := by decide +kernel
theorem dX10_logs_75 : decode cX10_logs 75 = .ok (.imul, 1) := by decide +kernel
theorem dX10_logs_76 : decode cX10_logs 76 = .ok (.iadd, 1) := by decide +kernel
theorem dX10_logs_77 : decode cX10_logs 77 = .ok (.istore 4, 2) := by decide +kernel
theorem dX10_logs_79 : decode cX10_logs 79 = .ok (.aload_n 0, 1) := by decide +kernel
theorem dX10_logs_80 : decode cX10_logs 80 = .ok (.getfield 10, 3) := by decide +kernel
theorem dX10_logs_83 : decode cX10_logs 83 = .ok (.iload 4, 2) := by decide +kernel
theorem dX10_logs_85 : decode cX10_logs 85 = .ok (.aload_n 0, 1) := by decide +kernel
theorem dX10_logs_86 : decode cX10_logs 86 = .ok (.getfield 10, 3) := by decide +kernel
theorem dX10_logs_89 : decode cX10_logs 89 = .ok (.iconst 0, 1) := by decide +kernel
theorem dX10_logs_90 : decode cX10_logs 90 = .ok (.iaload, 1) := by decide +kernel
theorem dX10_logs_91 : decode cX10_logs 91 = .ok (.iastore, 1) := by decide +kernel
theorem dX10_logs_92 : decode cX10_logs 92 = .ok (.aload_n 0, 1) := by decide +kernel
theorem dX10_logs_93 : decode cX10_logs 93 = .ok (.getfield 10, 3) := by decide +kernel
theorem dX10_logs_96 : decode cX10_logs 96 = .ok (.iload 4, 2) := by decide +kernel
theorem dX10_logs_98 : decode cX10_logs 98 = .ok (.iconst 1, 1) := by decide +kernel
theorem dX10_logs_99 : decode cX10_logs 99 = .ok (.iadd, 1) := by decide +kernel
theorem dX10_logs_100 : decode cX10_logs 100 = .ok (.iload_n 1, 1) := by decide +kernel
theorem dX10_logs_101 : decode cX10_logs 101 = .ok (.iastore, 1) := by decide +kernel
theorem dX10_logs_102 : decode cX10_logs 102 = .ok (.aload_n 0, 1) := by decide +kernel
theorem dX10_logs_103 : decode cX10_logs 103 = .ok (.getfield 10, 3) := by decide +kernel
theorem dX10_logs_106 : decode cX10_logs 106 = .ok (.iload 4, 2) := by decide +kernel
theorem dX10_logs_108 : decode cX10_logs 108 = .ok (.iconst 2, 1) := by decide +kernel
theorem dX10_logs_109 : decode cX10_logs 109 = .ok (.iadd, 1) := by decide +kernel
theorem dX10_logs_110 : decode cX10_logs 110 = .ok (.iload_n 2, 1) := by decide +kernel
theorem dX10_logs_111 : decode cX10_logs 111 = .ok (.iastore, 1) := by decide +kernel
theorem dX10_logs_112 : decode cX10_logs 112 = .ok (.aload_n 0, 1) := by decide +kernel
theorem dX10_logs_113 : decode cX10_logs 113 = .ok (.getfield 10, 3) := by decide +kernel
theorem dX10_logs_116 : decode cX10_logs 116 = .ok (.iload 4, 2) := by decide +kernel
theorem dX10_logs_118 : decode cX10_logs 118 = .ok (.iconst 3, 1) := by decide +kernel
theorem dX10_logs_119 : decode cX10_logs 119 = .ok (.iadd, 1) := by decide +kernel
theorem dX10_logs_120 : decode cX10_logs 120 = .ok (.iload_n 3, 1) := by decide +kernel
theorem dX10_logs_121 : decode cX10_logs 121 = .ok (.iastore, 1) := by decide +kernel
theorem dX10_logs_122 : decode cX10_logs 122 = .ok (.aload_n 0, 1) := by decide +kernel
theorem dX10_logs_123 : decode cX10_logs 123 = .ok (.getfield 10, 3) := by decide +kernel
theorem dX10_logs_126 : decode cX10_logs 126 = .ok (.iconst 4, 1) := by decide +kernel
theorem dX10_logs_127 : decode cX10_logs 127 = .ok (.dup2, 1) := by decide +kernel
theorem dX10_logs_128 : decode cX10_logs 128 = .ok (.iaload, 1) := by decide +kernel
theorem dX10_logs_129 : decode cX10_logs 129 = .ok (.iconst 1, 1) := by decide +kernel
theorem dX10_logs_130 : decode cX10_logs 130 = .ok (.iadd, 1) := by decide +kernel
theorem dX10_logs_131 : decode cX10_logs 131 = .ok (.iastore, 1) := by decide +kernel
theorem dX10_logs_132 : decode cX10_logs 132 = .ok (.return_, 1) := by decide +kernel
set_option maxRecDepth 20000 in
theorem zl_X10_logs_2 : z_All z_tab cX10_logs 5 none RX10 pc_X10_logs 80 (k_X10_logs.drop 80) := z_cons (ok_iast dX10_logs_131 rfl rfl) <| z_cons (ok_ret rfl dX10_logs_132 rfl) <| z_nil
set_option maxRecDepth 20000 in
theorem zl_X10_logs_1 : z_All z_tab cX10_logs 5 none RX10 pc_X10_logs 40 (k_X10_logs.drop 40) := z_cons (ok_bipush (by decide) dX10_logs_73 rfl rfl) <| z_cons (ok_imul dX10_logs_75 rfl rfl) <| z_cons (ok_iadd dX10_logs_76 rfl rfl) <| z_cons (ok_istore (Nat.le_of_ble_eq_true rfl) dX10_logs_77 rfl rfl) <| z_cons (ok_aload_n dX10_logs_79 rfl rfl) <| z_cons (ok_getr (k := 0) ⟨by decide, by decide, by decide⟩ (ci := 8) (T := TX10) rfl rfl (Nat.le_of_ble_eq_true rfl) iw_X10 qw_616 gr_11_0 (fun _ _ => by simp) (fun w i => List.mem_of_getElem? (i := 0) rfl) dX10_logs_80 rfl rfl) <| z_cons (ok_iload dX10_logs_83 rfl rfl) <| z_cons (ok_aload_n dX10_logs_85 rfl rfl) <| z_cons (ok_getr (k := 0) ⟨by decide, by decide, by decide⟩ (ci := 8) (T := TX10) rfl rfl (Nat.le_of_ble_eq_true rfl) iw_X10 qw_616 gr_11_0 (fun _ _ => by simp) (fun w i => List.mem_of_getElem? (i := 0) rfl) dX10_logs_86 rfl rfl) <| z_cons (ok_iconst (by decide) dX10_logs_89 rfl rfl) <| z_cons (ok_iald dX10_logs_90 rfl rfl) <| z_cons (ok_iast dX10_logs_91 rfl rfl) <| z_cons (ok_aload_n dX10_logs_92 rfl rfl) <| z_cons (ok_getr (k := 0) ⟨by decide, by decide, by decide⟩ (ci := 8) (T := TX10) rfl rfl (Nat.le_of_ble_eq_true rfl) iw_X10 qw_616 gr_11_0 (fun _ _ => by simp) (fun w i => List.mem_of_getElem? (i := 0) rfl) dX10_logs_93 rfl rfl) <| z_cons (ok_iload dX10_logs_96 rfl rfl) <| z_cons (ok_iconst (by decide) dX10_logs_98 rfl rfl) <| z_cons (ok_iadd dX10_logs_99 rfl rfl) <| z_cons (ok_iload_n dX10_logs_100 rfl rfl) <| z_cons (ok_iast dX10_logs_101 rfl rfl) <| z_cons (ok_aload_n dX10_logs_102 rfl rfl) <| z_cons (ok_getr (k := 0) ⟨by decide, by decide, by decide⟩ (ci := 8) (T := TX10) rfl rfl (Nat.le_of_ble_eq_true rfl) iw_X10 qw_616 gr_11_0 (fun _ _ => by simp) (fun w i => List.mem_of_getElem? (i := 0) rfl) dX10_logs_103 rfl rfl) <| z_cons (ok_iload dX10_logs_106 rfl rfl) <| z_cons (ok_iconst (by decide) dX10_logs_108 rfl rfl) <| z_cons (ok_iadd dX10_logs_109 rfl rfl) <| z_cons (ok_iload_n dX10_logs_110 rfl rfl) <| z_cons (ok_iast dX10_logs_111 rfl rfl) <| z_cons (ok_aload_n dX10_logs_112 rfl rfl) <| z_cons (ok_getr (k := 0) ⟨by decide, by decide, by decide⟩ (ci := 8) (T := TX10) rfl rfl (Nat.le_of_ble_eq_true rfl) iw_X10 qw_616 gr_11_0 (fun _ _ => by simp) (fun w i => List.mem_of_getElem? (i := 0) rfl) dX10_logs_113 rfl rfl) <| z_cons (ok_iload dX10_logs_116 rfl rfl) <| z_cons (ok_iconst (by decide) dX10_logs_118 rfl rfl) <| z_cons (ok_iadd dX10_logs_119 rfl rfl) <| z_cons (ok_iload_n dX10_logs_120 rfl rfl) <| z_cons (ok_iast dX10_logs_121 rfl rfl) <| z_cons (ok_aload_n dX10_logs_122 rfl rfl) <| z_cons (ok_getr (k := 0) ⟨by decide, by decide, by decide⟩ (ci := 8) (T := TX10) rfl rfl (Nat.le_of_ble_eq_true rfl) iw_X10 qw_616 gr_11_0 (fun _ _ => by simp) (fun w i => List.mem_of_getElem? (i := 0) rfl) dX10_logs_123 rfl rfl) <| z_cons (ok_iconst (by decide) dX10_logs_126 rfl rfl) <| z_cons (ok_dup2 dX10_logs_127 rfl rfl) <| z_cons (ok_iald dX10_logs_128 rfl rfl) <| z_cons (ok_iconst (by decide) dX10_logs_129 rfl rfl) <| z_cons (ok_iadd dX10_logs_130 rfl rfl) <| zl_X10_logs_2
set_option maxRecDepth 20000 in
theorem zl_X10_logs_0 : z_All z_tab cX10_logs 5 none RX10 pc_X10_logs 0 (k_X10_logs.drop 0) := z_cons (ok_aload_n dX10_logs_0 rfl rfl) <| z_cons (ok_getr (k := 0) ⟨by decide, by decide, by decide⟩ (ci := 8) (T := TX10) rfl rfl (Nat.le_of_ble_eq_true rfl) iw_X10 qw_616 gr_11_0 (fun _ _ => by simp) (fun w i => List.mem_of_getElem? (i := 0) rfl) dX10_logs_1 rfl rfl) <| z_cons (ok_iconst (by decide) dX10_logs_4 rfl rfl) <| z_cons (ok_iald dX10_logs_5 rfl rfl) <| z_cons (ok_bipush (by decide) dX10_logs_6 rfl rfl) <| z_cons (ok_icmp_lt (tgt := 50) (by decide) rfl dX10_logs_8 rfl rfl) <| z_cons (ok_iconst (by decide) dX10_logs_11 rfl rfl) <| z_cons (ok_istore (Nat.le_of_ble_eq_true rfl) dX10_logs_12 rfl rfl) <| z_cons (ok_iload dX10_logs_14 rfl rfl) <| z_cons (ok_sipush (by decide) dX10_logs_16 rfl rfl) <| z_cons (ok_icmp_ge (tgt := 50) (by decide) rfl dX10_logs_19 rfl rfl) <| z_cons (ok_aload_n dX10_logs_22 rfl rfl) <| z_cons (ok_getr (k := 0) ⟨by decide, by decide, by decide⟩ (ci := 8) (T := TX10) rfl rfl (Nat.le_of_ble_eq_true rfl) iw_X10 qw_616 gr_11_0 (fun _ _ => by simp) (fun w i => List.mem_of_getElem? (i := 0) rfl) dX10_logs_23 rfl rfl) <| z_cons (ok_bipush (by decide) dX10_logs_26 rfl rfl) <| z_cons (ok_iload dX10_logs_28 rfl rfl) <| z_cons (ok_iadd dX10_logs_30 rfl rfl) <| z_cons (ok_iconst (by decide) dX10_logs_31 rfl rfl) <| z_cons (ok_isub dX10_logs_32 rfl rfl) <| z_cons (ok_aload_n dX10_logs_33 rfl rfl) <| z_cons (ok_getr (k := 0) ⟨by decide, by decide, by decide⟩ (ci := 8) (T := TX10) rfl rfl (Nat.le_of_ble_eq_true rfl) iw_X10 qw_616 gr_11_0 (fun _ _ => by simp) (fun w i => List.mem_of_getElem? (i := 0) rfl) dX10_logs_34 rfl rfl) <| z_cons (ok_bipush (by decide) dX10_logs_37 rfl rfl) <| z_cons (ok_iload dX10_logs_39 rfl rfl) <| z_cons (ok_iadd dX10_logs_41 rfl rfl) <| z_cons (ok_iald dX10_logs_42 rfl rfl) <| z_cons (ok_iast dX10_logs_43 rfl rfl) <| z_cons (ok_iinc (by decide) (Nat.le_of_ble_eq_true rfl) dX10_logs_44 rfl rfl) <| z_cons (ok_goto (tgt := 14) (by decide) rfl dX10_logs_47 rfl) <| z_cons (ok_bipush (by decide) dX10_logs_50 rfl rfl) <| z_cons (ok_iconst (by decide) dX10_logs_52 rfl rfl) <| z_cons (ok_aload_n dX10_logs_53 rfl rfl) <| z_cons (ok_getr (k := 0) ⟨by decide, by decide, by decide⟩ (ci := 8) (T := TX10) rfl rfl (Nat.le_of_ble_eq_true rfl) iw_X10 qw_616 gr_11_0 (fun _ _ => by simp) (fun w i => List.mem_of_getElem? (i := 0) rfl) dX10_logs_54 rfl rfl) <| z_cons (ok_iconst (by decide) dX10_logs_57 rfl rfl) <| z_cons (ok_iald dX10_logs_58 rfl rfl) <| z_cons (ok_bipush (by decide) dX10_logs_59 rfl rfl) <| z_cons (ok_icmp_ge (tgt := 73) (by decide) rfl dX10_logs_61 rfl rfl) <| z_cons (ok_aload_n dX10_logs_64 rfl rfl) <| z_cons (ok_getr (k := 0) ⟨by decide, by decide, by decide⟩ (ci := 8) (T := TX10) rfl rfl (Nat.le_of_ble_eq_true rfl) iw_X10 qw_616 gr_11_0 (fun _ _ => by simp) (fun w i => List.mem_of_getElem? (i := 0) rfl) dX10_logs_65 rfl rfl) <| z_cons (ok_iconst (by decide) dX10_logs_68 rfl rfl) <| z_cons (ok_iald dX10_logs_69 rfl rfl) <| z_cons (ok_goto (tgt := 75) (by decide) rfl dX10_logs_70 rfl) <| zl_X10_logs_1
theorem dX10_draw_0 : decode cX10_draw 0 = .ok (.aload_n 0, 1) := by decide +kernel
theorem dX10_draw_1 : decode cX10_draw 1 = .ok (.getfield 10, 3) := by decide +kernel
theorem dX10_draw_4 : decode cX10_draw 4 = .ok (.iconst 1, 1) := by decide +kernel
theorem dX10_draw_5 : decode cX10_draw 5 = .ok (.ldc 36, 2) := by decide +kernel
theorem dX10_draw_7 : decode cX10_draw 7 = .ok (.aload_n 0, 1) := by decide +kernel
theorem dX10_draw_8 : decode cX10_draw 8 = .ok (.getfield 10, 3) := by decide +kernel
theorem dX10_draw_11 : decode cX10_draw 11 = .ok (.iconst 1, 1) := by decide +kernel
theorem dX10_draw_12 : decode cX10_draw 12 = .ok (.iaload, 1) := by decide +kernel
theorem dX10_draw_13 : decode cX10_draw 13 = .ok (.imul, 1) := by decide +kernel
theorem dX10_draw_14 : decode cX10_draw 14 = .ok (.ldc 37, 2) := by decide +kernel
theorem dX10_draw_16 : decode cX10_draw 16 = .ok (.iadd, 1) := by decide +kernel
theorem dX10_draw_17 : decode cX10_draw 17 = .ok (.iastore, 1) := by decide +kernel
theorem dX10_draw_18 : decode cX10_draw 18 = .ok (.aload_n 0, 1) := by decide +kernel
theorem dX10_draw_19 : decode cX10_draw 19 = .ok (.getfield 10, 3) := by decide +kernel
theorem dX10_draw_22 : decode cX10_draw 22 = .ok (.iconst 1, 1) := by decide +kernel
theorem dX10_draw_23 : decode cX10_draw 23 = .ok (.iaload, 1) := by decide +kernel
theorem dX10_draw_24 : decode cX10_draw 24 = .ok (.bipush 8, 2) := by decide +kernel
theorem dX10_draw_26 : decode cX10_draw 26 = .ok (.iushr, 1) := by decide +kernel
theorem dX10_draw_27 : decode cX10_draw 27 = .ok (.iload_n 1, 1) := by decide +kernel
theorem dX10_draw_28 : decode cX10_draw 28 = .ok (.irem, 1) := by decide +kernel
theorem dX10_draw_29 : decode cX10_draw 29 = .ok (.ireturn, 1) := by decide +kernel
set_option maxRecDepth 20000 in
theorem zl_X10_draw_0 : z_All z_tab cX10_draw 2 (some .int) RX10 pc_X10_draw 0 (k_X10_draw.drop 0) := z_cons (ok_aload_n dX10_draw_0 rfl rfl) <| z_cons (ok_getr (k := 0) ⟨by decide, by decide, by decide⟩ (ci := 8) (T := TX10) rfl rfl (Nat.le_of_ble_eq_true rfl) iw_X10 qw_616 gr_11_0 (fun _ _ => by simp) (fun w i => List.mem_of_getElem? (i := 0) rfl) dX10_draw_1 rfl rfl) <| z_cons (ok_iconst (by decide) dX10_draw_4 rfl rfl) <| z_cons (ok_ldc qw_621 dX10_draw_5 rfl rfl) <| z_cons (ok_aload_n dX10_draw_7 rfl rfl) <| z_cons (ok_getr (k := 0) ⟨by decide, by decide, by decide⟩ (ci := 8) (T := TX10) rfl rfl (Nat.le_of_ble_eq_true rfl) iw_X10 qw_616 gr_11_0 (fun _ _ => by simp) (fun w i => List.mem_of_getElem? (i := 0) rfl) dX10_draw_8 rfl rfl) <| z_cons (ok_iconst (by decide) dX10_draw_11 rfl rfl) <| z_cons (ok_iald dX10_draw_12 rfl rfl) <| z_cons (ok_imul dX10_draw_13 rfl rfl) <| z_cons (ok_ldc qw_622 dX10_draw_14 rfl rfl) <| z_cons (ok_iadd dX10_draw_16 rfl rfl) <| z_cons (ok_iast dX10_draw_17 rfl rfl) <| z_cons (ok_aload_n dX10_draw_18 rfl rfl) <| z_cons (ok_getr (k := 0) ⟨by decide, by decide, by decide⟩ (ci := 8) (T := TX10) rfl rfl (Nat.le_of_ble_eq_true rfl) iw_X10 qw_616 gr_11_0 (fun _ _ => by simp) (fun w i => List.mem_of_getElem? (i := 0) rfl) dX10_draw_19 rfl rfl) <| z_cons (ok_iconst (by decide) dX10_draw_22 rfl rfl) <| z_cons (ok_iald dX10_draw_23 rfl rfl) <| z_cons (ok_bipush (by decide) dX10_draw_24 rfl rfl) <| z_cons (ok_iushr dX10_draw_26 rfl rfl) <| z_cons (ok_iload_n dX10_draw_27 rfl rfl) <| z_cons (ok_irem dX10_draw_28 rfl rfl) <| z_cons (ok_iret rfl dX10_draw_29 rfl) <| z_nil
theorem dX10_idOf_0 : decode cX10_idOf 0 = .ok (.aload_n 0, 1) := by decide +kernel
theorem dX10_idOf_1 : decode cX10_idOf 1 = .ok (.getfield 10, 3) := by decide +kernel
theorem dX10_idOf_4 : decode cX10_idOf 4 = .ok (.sipush 478, 3) := by decide +kernel
theorem dX10_idOf_7 : decode cX10_idOf 7 = .ok (.iload_n 1, 1) := by decide +kernel
theorem dX10_idOf_8 : decode cX10_idOf 8 = .ok (.iadd, 1) := by decide +kernel
theorem dX10_idOf_9 : decode cX10_idOf 9 = .ok (.iaload, 1) := by decide +kernel
theorem dX10_idOf_10 : decode cX10_idOf 10 = .ok (.bipush 16, 2) := by decide +kernel
theorem dX10_idOf_12 : decode cX10_idOf 12 = .ok (.iushr, 1) := by decide +kernel
theorem dX10_idOf_13 : decode cX10_idOf 13 = .ok (.ireturn, 1) := by decide +kernel
set_option maxRecDepth 20000 in
theorem zl_X10_idOf_0 : z_All z_tab cX10_idOf 2 (some .int) RX10 pc_X10_idOf 0 (k_X10_idOf.drop 0) := z_cons (ok_aload_n dX10_idOf_0 rfl rfl) <| z_cons (ok_getr (k := 0) ⟨by decide, by decide, by decide⟩ (ci := 8) (T := TX10) rfl rfl (Nat.le_of_ble_eq_true rfl) iw_X10 qw_616 gr_11_0 (fun _ _ => by simp) (fun w i => List.mem_of_getElem? (i := 0) rfl) dX10_idOf_1 rfl rfl) <| z_cons (ok_sipush (by decide) dX10_idOf_4 rfl rfl) <| z_cons (ok_iload_n dX10_idOf_7 rfl rfl) <| z_cons (ok_iadd dX10_idOf_8 rfl rfl) <| z_cons (ok_iald dX10_idOf_9 rfl rfl) <| z_cons (ok_bipush (by decide) dX10_idOf_10 rfl rfl) <| z_cons (ok_iushr dX10_idOf_12 rfl rfl) <| z_cons (ok_iret rfl dX10_idOf_13 rfl) <| z_nil
theorem dX10_reaches_0 : decode cX10_reaches 0 = .ok (.aload_n 0, 1) := by decide +kernel
theorem dX10_reaches_1 : decode cX10_reaches 1 = .ok (.getfield 10, 3) := by decide +kernel
theorem dX10_reaches_4 : decode cX10_reaches 4 = .ok (.sipush 502, 3) := by decide +kernel
theorem dX10_reaches_7 : decode cX10_reaches 7 = .ok (.iload_n 2, 1) := by decide +kernel
theorem dX10_reaches_8 : decode cX10_reaches 8 = .ok (.iadd, 1) := by decide +kernel
theorem dX10_reaches_9 : decode cX10_reaches 9 = .ok (.iaload, 1) := by decide +kernel
theorem dX10_reaches_10 : decode cX10_reaches 10 = .ok (.iload_n 1, 1) := by decide +kernel
theorem dX10_reaches_11 : decode cX10_reaches 11 = .ok (.invokestatic 38, 3) := by decide +kernel
theorem dX10_reaches_14 : decode cX10_reaches 14 = .ok (.ireturn, 1) := by decide +kernel
set_option maxRecDepth 20000 in
theorem zl_X10_reaches_0 : z_All z_tab cX10_reaches 3 (some .boolean) RX10 pc_X10_reaches 0 (k_X10_reaches.drop 0) := z_cons (ok_aload_n dX10_reaches_0 rfl rfl) <| z_cons (ok_getr (k := 0) ⟨by decide, by decide, by decide⟩ (ci := 8) (T := TX10) rfl rfl (Nat.le_of_ble_eq_true rfl) iw_X10 qw_616 gr_11_0 (fun _ _ => by simp) (fun w i => List.mem_of_getElem? (i := 0) rfl) dX10_reaches_1 rfl rfl) <| z_cons (ok_sipush (by decide) dX10_reaches_4 rfl rfl) <| z_cons (ok_iload_n dX10_reaches_7 rfl rfl) <| z_cons (ok_iadd dX10_reaches_8 rfl rfl) <| z_cons (ok_iald dX10_reaches_9 rfl rfl) <| z_cons (ok_iload_n dX10_reaches_10 rfl rfl) <| z_cons (ok_callS (k := 163) (n := 2) qw_623 qw_618 ⟨by decide +kernel, by decide +kernel, by decide +kernel⟩ (Nat.le_of_ble_eq_true rfl) qw_625 qw_624 dX10_reaches_11 rfl rfl) <| z_cons (ok_zret rfl dX10_reaches_14 rfl) <| z_nil
theorem dX10_hasPower_0 : decode cX10_hasPower 0 = .ok (.iconst 0, 1) := by decide +kernel
theorem dX10_hasPower_1 : decode cX10_hasPower 1 = .ok (.istore_n 2, 1) := by decide +kernel
theorem dX10_hasPower_2 : decode cX10_hasPower 2 = .ok (.iload_n 2, 1) := by decide +kernel
theorem dX10_hasPower_3 : decode cX10_hasPower 3 = .ok (.iconst 4, 1) := by decide +kernel
theorem dX10_hasPower_4 : decode cX10_hasPower 4 = .ok (.if_icmp .ge 34, 3) := by decide +kernel
theorem dX10_hasPower_7 : decode cX10_hasPower 7 = .ok (.aload_n 0, 1) := by decide +kernel
theorem dX10_hasPower_8 : decode cX10_hasPower 8 = .ok (.getfield 10, 3) := by decide +kernel
theorem dX10_hasPower_11 : decode cX10_hasPower 11 = .ok (.sipush 262, 3) := by decide +kernel
theorem dX10_hasPower_14 : decode cX10_hasPower 14 = .ok (.iload_n 2, 1) := by decide +kernel
theorem dX10_hasPower_15 : decode cX10_hasPower 15 = .ok (.iadd, 1) := by decide +kernel
theorem dX10_hasPower_16 : decode cX10_hasPower 16 = .ok (.iaload, 1) := by decide +kernel
theorem dX10_hasPower_17 : decode cX10_hasPower 17 = .ok (.iconst 1, 1) := by decide +kernel
theorem dX10_hasPower_18 : decode cX10_hasPower 18 = .ok (.if_icmp .ne 14, 3) := by decide +kernel
theorem dX10_hasPower_21 : decode cX10_hasPower 21 = .ok (.aload_n 0, 1) := by decide +kernel
theorem dX10_hasPower_22 : decode cX10_hasPower 22 = .ok (.iload_n 2, 1) := by decide +kernel
theorem dX10_hasPower_23 : decode cX10_hasPower 23 = .ok (.iload_n 1, 1) := by decide +kernel
theorem dX10_hasPower_24 : decode cX10_hasPower 24 = .ok (.invokevirtual 42, 3) := by decide +kernel
theorem dX10_hasPower_27 : decode cX10_hasPower 27 = .ok (.ifCond .eq 5, 3) := by decide +kernel
theorem dX10_hasPower_30 : decode cX10_hasPower 30 = .ok (.iconst 1, 1) := by decide +kernel
theorem dX10_hasPower_31 : decode cX10_hasPower 31 = .ok (.ireturn, 1) := by decide +kernel
theorem dX10_hasPower_32 : decode cX10_hasPower 32 = .ok (.iinc 2 1, 3) := by decide +kernel
theorem dX10_hasPower_35 : decode cX10_hasPower 35 = .ok (.goto (-33), 3) := by decide +kernel
theorem dX10_hasPower_38 : decode cX10_hasPower 38 = .ok (.iconst 0, 1) := by decide +kernel
theorem dX10_hasPower_39 : decode cX10_hasPower 39 = .ok (.ireturn, 1) := by decide +kernel
set_option maxRecDepth 20000 in
theorem zl_X10_hasPower_0 : z_All z_tab cX10_hasPower 3 (some .boolean) RX10 pc_X10_hasPower 0 (k_X10_hasPower.drop 0) := z_cons (ok_iconst (by decide) dX10_hasPower_0 rfl rfl) <| z_cons (ok_istore_n (Nat.le_of_ble_eq_true rfl) dX10_hasPower_1 rfl rfl) <| z_cons (ok_iload_n dX10_hasPower_2 rfl rfl) <| z_cons (ok_iconst (by decide) dX10_hasPower_3 rfl rfl) <| z_cons (ok_icmp_ge (tgt := 38) (by decide) rfl dX10_hasPower_4 rfl rfl) <| z_cons (ok_aload_n dX10_hasPower_7 rfl rfl) <| z_cons (ok_getr (k := 0) ⟨by decide, by decide, by decide⟩ (ci := 8) (T := TX10) rfl rfl (Nat.le_of_ble_eq_true rfl) iw_X10 qw_616 gr_11_0 (fun _ _ => by simp) (fun w i => List.mem_of_getElem? (i := 0) rfl) dX10_hasPower_8 rfl rfl) <| z_cons (ok_sipush (by decide) dX10_hasPower_11 rfl rfl) <| z_cons (ok_iload_n dX10_hasPower_14 rfl rfl) <| z_cons (ok_iadd dX10_hasPower_15 rfl rfl) <| z_cons (ok_iald dX10_hasPower_16 rfl rfl) <| z_cons (ok_iconst (by decide) dX10_hasPower_17 rfl rfl) <| z_cons (ok_icmp_ne (tgt := 32) (by decide) rfl dX10_hasPower_18 rfl rfl) <| z_cons (ok_aload_n dX10_hasPower_21 rfl rfl) <| z_cons (ok_iload_n dX10_hasPower_22 rfl rfl) <| z_cons (ok_iload_n dX10_hasPower_23 rfl rfl) <| z_cons (ok_callv ⟨by decide, by decide, by decide⟩ (ci := 8) (C := RX10) (T := TX10) rfl go_11 (k := 172) (n := 2) qw_626 qw_618 ⟨by decide +kernel, by decide +kernel, by decide +kernel⟩ (Nat.le_of_ble_eq_true rfl) qw_627 qw_628 qw_629 dX10_hasPower_24 rfl rfl) <| z_cons (ok_if_eq (tgt := 32) (by decide) rfl dX10_hasPower_27 rfl rfl) <| z_cons (ok_iconst (by decide) dX10_hasPower_30 rfl rfl) <| z_cons (ok_zret rfl dX10_hasPower_31 rfl) <| z_cons (ok_iinc (by decide) (Nat.le_of_ble_eq_true rfl) dX10_hasPower_32 rfl rfl) <| z_cons (ok_goto (tgt := 2) (by decide) rfl dX10_hasPower_35 rfl) <| z_cons (ok_iconst (by decide) dX10_hasPower_38 rfl rfl) <| z_cons (ok_zret rfl dX10_hasPower_39 rfl) <| z_nil
theorem dX10_flag_0 : decode cX10_flag 0 = .ok (.iload_n 2, 1) := by decide +kernel
theorem dX10_flag_1 : decode cX10_flag 1 = .ok (.iconst 4, 1) := by decide +kernel
theorem dX10_flag_2 : decode cX10_flag 2 = .ok (.if_icmp .ne 16, 3) := by decide +kernel
theorem dX10_flag_5 : decode cX10_flag 5 = .ok (.aload_n 0, 1) := by decide +kernel
theorem dX10_flag_6 : decode cX10_flag 6 = .ok (.getfield 10, 3) := by decide +kernel
theorem dX10_flag_9 : decode cX10_flag 9 = .ok (.sipush 526, 3) := by decide +kernel
theorem dX10_flag_12 : decode cX10_flag 12 = .ok (.iload_n 1, 1) := by decide +kernel
theorem dX10_flag_13 : decode cX10_flag 13 = .ok (.iadd, 1) := by decide +kernel
theorem dX10_flag_14 : decode cX10_flag 14 = .ok (.iaload, 1) := by decide +kernel
theorem dX10_flag_15 : decode cX10_flag 15 = .ok (.goto 17, 3) := by decide +kernel
theorem dX10_flag_18 : decode cX10_flag 18 = .ok (.aload_n 0, 1) := by decide +kernel
theorem dX10_flag_19 : decode cX10_flag 19 = .ok (.getfield 10, 3) := by decide +kernel
theorem dX10_flag_22 : decode cX10_flag 22 = .ok (.sipush 718, 3) := by decide +kernel
theorem dX10_flag_25 : decode cX10_flag 25 = .ok (.iconst 4, 1) := by decide +kernel
theorem dX10_flag_26 : decode cX10_flag 26 = .ok (.iload_n 1, 1) := by decide +kernel
theorem dX10_flag_27 : decode cX10_flag 27 = .ok (.imul, 1) := by decide +kernel
theorem dX10_flag_28 : decode cX10_flag 28 = .ok (.iadd, 1) := by decide +kernel
theorem dX10_flag_29 : decode cX10_flag 29 = .ok (.iload_n 2, 1) := by decide +kernel
theorem dX10_flag_30 : decode cX10_flag 30 = .ok (.iadd, 1) := by decide +kernel
theorem dX10_flag_31 : decode cX10_flag 31 = .ok (.iaload, 1) := by decide +kernel
theorem dX10_flag_32 : decode cX10_flag 32 = .ok (.ireturn, 1) := by decide +kernel
set_option maxRecDepth 20000 in
theorem zl_X10_flag_0 : z_All z_tab cX10_flag 3 (some .int) RX10 pc_X10_flag 0 (k_X10_flag.drop 0) := z_cons (ok_iload_n dX10_flag_0 rfl rfl) <| z_cons (ok_iconst (by decide) dX10_flag_1 rfl rfl) <| z_cons (ok_icmp_ne (tgt := 18) (by decide) rfl dX10_flag_2 rfl rfl) <| z_cons (ok_aload_n dX10_flag_5 rfl rfl) <| z_cons (ok_getr (k := 0) ⟨by decide, by decide, by decide⟩ (ci := 8) (T := TX10) rfl rfl (Nat.le_of_ble_eq_true rfl) iw_X10 qw_616 gr_11_0 (fun _ _ => by simp) (fun w i => List.mem_of_getElem? (i := 0) rfl) dX10_flag_6 rfl rfl) <| z_cons (ok_sipush (by decide) dX10_flag_9 rfl rfl) <| z_cons (ok_iload_n dX10_flag_12 rfl rfl) <| z_cons (ok_iadd dX10_flag_13 rfl rfl) <| z_cons (ok_iald dX10_flag_14 rfl rfl) <| z_cons (ok_goto (tgt := 32) (by decide) rfl dX10_flag_15 rfl) <| z_cons (ok_aload_n dX10_flag_18 rfl rfl) <| z_cons (ok_getr (k := 0) ⟨by decide, by decide, by decide⟩ (ci := 8) (T := TX10) rfl rfl (Nat.le_of_ble_eq_true rfl) iw_X10 qw_616 gr_11_0 (fun _ _ => by simp) (fun w i => List.mem_of_getElem? (i := 0) rfl) dX10_flag_19 rfl rfl) <| z_cons (ok_sipush (by decide) dX10_flag_22 rfl rfl) <| z_cons (ok_iconst (by decide) dX10_flag_25 rfl rfl) <| z_cons (ok_iload_n dX10_flag_26 rfl rfl) <| z_cons (ok_imul dX10_flag_27 rfl rfl) <| z_cons (ok_iadd dX10_flag_28 rfl rfl) <| z_cons (ok_iload_n dX10_flag_29 rfl rfl) <| z_cons (ok_iadd dX10_flag_30 rfl rfl) <| z_cons (ok_iald dX10_flag_31 rfl rfl) <| z_cons (ok_iret rfl dX10_flag_32 rfl) <| z_nil
theorem dX10_turns_0 : decode cX10_turns 0 = .ok (.iload_n 2, 1) := by decide +kernel
theorem dX10_turns_1 : decode cX10_turns 1 = .ok (.iconst 4, 1) := by decide +kernel
theorem dX10_turns_2 : decode cX10_turns 2 = .ok (.if_icmp .ne 17, 3) := by decide +kernel
theorem dX10_turns_5 : decode cX10_turns 5 = .ok (.aload_n 0, 1) := by decide +kernel
theorem dX10_turns_6 : decode cX10_turns 6 = .ok (.getfield 10, 3) := by decide +kernel
theorem dX10_turns_9 : decode cX10_turns 9 = .ok (.sipush 526, 3) := by decide +kernel
theorem dX10_turns_12 : decode cX10_turns 12 = .ok (.iload_n 1, 1) := by decide +kernel
theorem dX10_turns_13 : decode cX10_turns 13 = .ok (.iadd, 1) := by decide +kernel
theorem dX10_turns_14 : decode cX10_turns 14 = .ok (.iload_n 3, 1) := by decide +kernel
theorem dX10_turns_15 : decode cX10_turns 15 = .ok (.iastore, 1) := by decide +kernel
theorem dX10_turns_16 : decode cX10_turns 16 = .ok (.goto 18, 3) := by decide +kernel
theorem dX10_turns_19 : decode cX10_turns 19 = .ok (.aload_n 0, 1) := by decide +kernel
theorem dX10_turns_20 : decode cX10_turns 20 = .ok (.getfield 10, 3) := by decide +kernel
theorem dX10_turns_23 : decode cX10_turns 23 = .ok (.sipush 718, 3) := by decide +kernel
theorem dX10_turns_26 : decode cX10_turns 26 = .ok (.iconst 4, 1) := by decide +kernel
theorem dX10_turns_27 : decode cX10_turns 27 = .ok (.iload_n 1, 1) := by decide +kernel
theorem dX10_turns_28 : decode cX10_turns 28 = .ok (.imul, 1) := by decide +kernel
theorem dX10_turns_29 : decode cX10_turns 29 = .ok (.iadd, 1) := by decide +kernel
theorem dX10_turns_30 : decode cX10_turns 30 = .ok (.iload_n 2, 1) := by decide +kernel
theorem dX10_turns_31 : decode cX10_turns 31 = .ok (.iadd, 1) := by decide +kernel
theorem dX10_turns_32 : decode cX10_turns 32 = .ok (.iload_n 3, 1) := by decide +kernel
theorem dX10_turns_33 : decode cX10_turns 33 = .ok (.iastore, 1) := by decide +kernel
theorem dX10_turns_34 : decode cX10_turns 34 = .ok (.iload_n 2, 1) := by decide +kernel
theorem dX10_turns_35 : decode cX10_turns 35 = .ok (.iconst 1, 1) := by decide +kernel
theorem dX10_turns_36 : decode cX10_turns 36 = .ok (.if_icmp .ne 24, 3) := by decide +kernel
theorem dX10_turns_39 : decode cX10_turns 39 = .ok (.iload_n 3, 1) := by decide +kernel
theorem dX10_turns_40 : decode cX10_turns 40 = .ok (.iconst 1, 1) := by decide +kernel
theorem dX10_turns_41 : decode cX10_turns 41 = .ok (.if_icmp .ne 19, 3) := by decide +kernel
theorem dX10_turns_44 : decode cX10_turns 44 = .ok (.aload_n 0, 1) := by decide +kernel
theorem dX10_turns_45 : decode cX10_turns 45 = .ok (.getfield 10, 3) := by decide +kernel
theorem dX10_turns_48 : decode cX10_turns 48 = .ok (.sipush 646, 3) := by decide +kernel
theorem dX10_turns_51 : decode cX10_turns 51 = .ok (.iload_n 1, 1) := by decide +kernel
theorem dX10_turns_52 : decode cX10_turns 52 = .ok (.iadd, 1) := by decide +kernel
theorem dX10_turns_53 : decode cX10_turns 53 = .ok (.aload_n 0, 1) := by decide +kernel
theorem dX10_turns_54 : decode cX10_turns 54 = .ok (.getfield 10, 3) := by decide +kernel
theorem dX10_turns_57 : decode cX10_turns 57 = .ok (.iconst 0, 1) := by decide +kernel
theorem dX10_turns_58 : decode cX10_turns 58 = .ok (.iaload, 1) := by decide +kernel
theorem dX10_turns_59 : decode cX10_turns 59 = .ok (.iastore, 1) := by decide +kernel
theorem dX10_turns_60 : decode cX10_turns 60 = .ok (.return_, 1) := by decide +kernel
set_option maxRecDepth 20000 in
theorem zl_X10_turns_0 : z_All z_tab cX10_turns 4 none RX10 pc_X10_turns 0 (k_X10_turns.drop 0) := z_cons (ok_iload_n dX10_turns_0 rfl rfl) <| z_cons (ok_iconst (by decide) dX10_turns_1 rfl rfl) <| z_cons (ok_icmp_ne (tgt := 19) (by decide) rfl dX10_turns_2 rfl rfl) <| z_cons (ok_aload_n dX10_turns_5 rfl rfl) <| z_cons (ok_getr (k := 0) ⟨by decide, by decide, by decide⟩ (ci := 8) (T := TX10) rfl rfl (Nat.le_of_ble_eq_true rfl) iw_X10 qw_616 gr_11_0 (fun _ _ => by simp) (fun w i => List.mem_of_getElem? (i := 0) rfl) dX10_turns_6 rfl rfl) <| z_cons (ok_sipush (by decide) dX10_turns_9 rfl rfl) <| z_cons (ok_iload_n dX10_turns_12 rfl rfl) <| z_cons (ok_iadd dX10_turns_13 rfl rfl) <| z_cons (ok_iload_n dX10_turns_14 rfl rfl) <| z_cons (ok_iast dX10_turns_15 rfl rfl) <| z_cons (ok_goto (tgt := 34) (by decide) rfl dX10_turns_16 rfl) <| z_cons (ok_aload_n dX10_turns_19 rfl rfl) <| z_cons (ok_getr (k := 0) ⟨by decide, by decide, by decide⟩ (ci := 8) (T := TX10) rfl rfl (Nat.le_of_ble_eq_true rfl) iw_X10 qw_616 gr_11_0 (fun _ _ => by simp) (fun w i => List.mem_of_getElem? (i := 0) rfl) dX10_turns_20 rfl rfl) <| z_cons (ok_sipush (by decide) dX10_turns_23 rfl rfl) <| z_cons (ok_iconst (by decide) dX10_turns_26 rfl rfl) <| z_cons (ok_iload_n dX10_turns_27 rfl rfl) <| z_cons (ok_imul dX10_turns_28 rfl rfl) <| z_cons (ok_iadd dX10_turns_29 rfl rfl) <| z_cons (ok_iload_n dX10_turns_30 rfl rfl) <| z_cons (ok_iadd dX10_turns_31 rfl rfl) <| z_cons (ok_iload_n dX10_turns_32 rfl rfl) <| z_cons (ok_iast dX10_turns_33 rfl rfl) <| z_cons (ok_iload_n dX10_turns_34 rfl rfl) <| z_cons (ok_iconst (by decide) dX10_turns_35 rfl rfl) <| z_cons (ok_icmp_ne (tgt := 60) (by decide) rfl dX10_turns_36 rfl rfl) <| z_cons (ok_iload_n dX10_turns_39 rfl rfl) <| z_cons (ok_iconst (by decide) dX10_turns_40 rfl rfl) <| z_cons (ok_icmp_ne (tgt := 60) (by decide) rfl dX10_turns_41 rfl rfl) <| z_cons (ok_aload_n dX10_turns_44 rfl rfl) <| z_cons (ok_getr (k := 0) ⟨by decide, by decide, by decide⟩ (ci := 8) (T := TX10) rfl rfl (Nat.le_of_ble_eq_true rfl) iw_X10 qw_616 gr_11_0 (fun _ _ => by simp) (fun w i => List.mem_of_getElem? (i := 0) rfl) dX10_turns_45 rfl rfl) <| z_cons (ok_sipush (by decide) dX10_turns_48 rfl rfl) <| z_cons (ok_iload_n dX10_turns_51 rfl rfl) <| z_cons (ok_iadd dX10_turns_52 rfl rfl) <| z_cons (ok_aload_n dX10_turns_53 rfl rfl) <| z_cons (ok_getr (k := 0) ⟨by decide, by decide, by decide⟩ (ci := 8) (T := TX10) rfl rfl (Nat.le_of_ble_eq_true rfl) iw_X10 qw_616 gr_11_0 (fun _ _ => by simp) (fun w i => List.mem_of_getElem? (i := 0) rfl) dX10_turns_54 rfl rfl) <| z_cons (ok_iconst (by decide) dX10_turns_57 rfl rfl) <| z_cons (ok_iald dX10_turns_58 rfl rfl) <| z_cons (ok_iast dX10_turns_59 rfl rfl) <| z_cons (ok_ret rfl dX10_turns_60 rfl) <| z_nil
theorem dX10_fades_0 : decode cX10_fades 0 = .ok (.aload_n 0, 1) := by decide +kernel
theorem dX10_fades_1 : decode cX10_fades 1 = .ok (.iload_n 1, 1) := by decide +kernel
theorem dX10_fades_2 : decode cX10_fades 2 = .ok (.iload_n 2, 1) := by decide +kernel
theorem dX10_fades_3 : decode cX10_fades 3 = .ok (.invokevirtual 45, 3) := by decide +kernel
theorem dX10_fades_6 : decode cX10_fades 6 = .ok (.ifCond .ne 4, 3) := by decide +kernel
theorem dX10_fades_9 : decode cX10_fades 9 = .ok (.return_, 1) := by decide +kernel
theorem dX10_fades_10 : decode cX10_fades 10 = .ok (.aload_n 0, 1) := by decide +kernel
theorem dX10_fades_11 : decode cX10_fades 11 = .ok (.iload_n 1, 1) := by decide +kernel
theorem dX10_fades_12 : decode cX10_fades 12 = .ok (.iload_n 2, 1) := by decide +kernel
theorem dX10_fades_13 : decode cX10_fades 13 = .ok (.iconst 0, 1) := by decide +kernel
theorem dX10_fades_14 : decode cX10_fades 14 = .ok (.invokevirtual 49, 3) := by decide +kernel
theorem dX10_fades_17 : decode cX10_fades 17 = .ok (.aload_n 0, 1) := by decide +kernel
theorem dX10_fades_18 : decode cX10_fades 18 = .ok (.bipush 9, 2) := by decide +kernel
theorem dX10_fades_20 : decode cX10_fades 20 = .ok (.iconst 1, 1) := by decide +kernel
theorem dX10_fades_21 : decode cX10_fades 21 = .ok (.invokevirtual 53, 3) := by decide +kernel
theorem dX10_fades_24 : decode cX10_fades 24 = .ok (.return_, 1) := by decide +kernel
set_option maxRecDepth 20000 in
theorem zl_X10_fades_0 : z_All z_tab cX10_fades 3 none RX10 pc_X10_fades 0 (k_X10_fades.drop 0) := z_cons (ok_aload_n dX10_fades_0 rfl rfl) <| z_cons (ok_iload_n dX10_fades_1 rfl rfl) <| z_cons (ok_iload_n dX10_fades_2 rfl rfl) <| z_cons (ok_callv ⟨by decide, by decide, by decide⟩ (ci := 8) (C := RX10) (T := TX10) rfl go_11 (k := 174) (n := 2) qw_630 qw_618 ⟨by decide +kernel, by decide +kernel, by decide +kernel⟩ (Nat.le_of_ble_eq_true rfl) qw_631 qw_632 qw_633 dX10_fades_3 rfl rfl) <| z_cons (ok_if_ne (tgt := 10) (by decide) rfl dX10_fades_6 rfl rfl) <| z_cons (ok_ret rfl dX10_fades_9 rfl) <| z_cons (ok_aload_n dX10_fades_10 rfl rfl) <| z_cons (ok_iload_n dX10_fades_11 rfl rfl) <| z_cons (ok_iload_n dX10_fades_12 rfl rfl) <| z_cons (ok_iconst (by decide) dX10_fades_13 rfl rfl) <| z_cons (ok_callv ⟨by decide, by decide, by decide⟩ (ci := 8) (C := RX10) (T := TX10) rfl go_11 (k := 175) (n := 3) qw_634 qw_618 ⟨by decide +kernel, by decide +kernel, by decide +kernel⟩ (Nat.le_of_ble_eq_true rfl) qw_635 qw_636 qw_637 dX10_fades_14 rfl rfl) <| z_cons (ok_aload_n dX10_fades_17 rfl rfl) <| z_cons (ok_bipush (by decide) dX10_fades_18 rfl rfl) <| z_cons (ok_iconst (by decide) dX10_fades_20 rfl rfl) <| z_cons (ok_callv ⟨by decide, by decide, by decide⟩ (ci := 8) (C := RX10) (T := TX10) rfl go_11 (k := 168) (n := 2) qw_638 qw_618 ⟨by decide +kernel, by decide +kernel, by decide +kernel⟩ (Nat.le_of_ble_eq_true rfl) qw_639 qw_640 qw_641 dX10_fades_21 rfl rfl) <| z_cons (ok_ret rfl dX10_fades_24 rfl) <| z_nil
theorem dX10_looksAtPower_0 : decode cX10_looksAtPower 0 = .ok (.iconst 0, 1) := by decide +kernel
theorem dX10_looksAtPower_1 : decode cX10_looksAtPower 1 = .ok (.istore_n 1, 1) := by decide +kernel
theorem dX10_looksAtPower_2 : decode cX10_looksAtPower 2 = .ok (.iload_n 1, 1) := by decide +kernel
theorem dX10_looksAtPower_3 : decode cX10_looksAtPower 3 = .ok (.bipush 24, 2) := by decide +kernel
theorem dX10_looksAtPower_5 : decode cX10_looksAtPower 5 = .ok (.if_icmp .ge 83, 3) := by decide +kernel
theorem dX10_looksAtPower_8 : decode cX10_looksAtPower 8 = .ok (.aload_n 0, 1) := by decide +kernel
theorem dX10_looksAtPower_9 : decode cX10_looksAtPower 9 = .ok (.getfield 10, 3) := by decide +kernel
theorem dX10_looksAtPower_12 : decode cX10_looksAtPower 12 = .ok (.sipush 454, 3) := by decide +kernel
theorem dX10_looksAtPower_15 : decode cX10_looksAtPower 15 = .ok (.iload_n 1, 1) := by decide +kernel
theorem dX10_looksAtPower_16 : decode cX10_looksAtPower 16 = .ok (.iadd, 1) := by decide +kernel
theorem dX10_looksAtPower_17 : decode cX10_looksAtPower 17 = .ok (.iaload, 1) := by decide +kernel
theorem dX10_looksAtPower_18 : decode cX10_looksAtPower 18 = .ok (.ifCond .ne 6, 3) := by decide +kernel
theorem dX10_looksAtPower_21 : decode cX10_looksAtPower 21 = .ok (.goto 61, 3) := by decide +kernel
theorem dX10_looksAtPower_24 : decode cX10_looksAtPower 24 = .ok (.aload_n 0, 1) := by decide +kernel
theorem dX10_looksAtPower_25 : decode cX10_looksAtPower 25 = .ok (.iload_n 1, 1) := by decide +kernel
theorem dX10_looksAtPower_26 : decode cX10_looksAtPower 26 = .ok (.invokevirtual 57, 3) := by decide +kernel
theorem dX10_looksAtPower_29 : decode cX10_looksAtPower 29 = .ok (.ifCond .eq 17, 3) := by decide +kernel
theorem dX10_looksAtPower_32 : decode cX10_looksAtPower 32 = .ok (.aload_n 0, 1) := by decide +kernel
theorem dX10_looksAtPower_33 : decode cX10_looksAtPower 33 = .ok (.getfield 10, 3) := by decide +kernel
theorem dX10_looksAtPower_36 : decode cX10_looksAtPower 36 = .ok (.sipush 670, 3) := by decide +kernel
theorem dX10_looksAtPower_39 : decode cX10_looksAtPower 39 = .ok (.iload_n 1, 1) := by decide +kernel
theorem dX10_looksAtPower_40 : decode cX10_looksAtPower 40 = .ok (.iadd, 1) := by decide +kernel
theorem dX10_looksAtPower_41 : decode cX10_looksAtPower 41 = .ok (.iconst (-1), 1) := by decide +kernel
theorem dX10_looksAtPower_42 : decode cX10_looksAtPower 42 = .ok (.iastore, 1) := by decide +kernel
theorem dX10_looksAtPower_43 : decode cX10_looksAtPower 43 = .ok (.goto 39, 3) := by decide +kernel
theorem dX10_looksAtPower_46 : decode cX10_looksAtPower 46 = .ok (.aload_n 0, 1) := by decide +kernel
theorem dX10_looksAtPower_47 : decode cX10_looksAtPower 47 = .ok (.getfield 10, 3) := by decide +kernel
theorem dX10_looksAtPower_50 : decode cX10_looksAtPower 50 = .ok (.sipush 670, 3) := by decide +kernel
theorem dX10_looksAtPower_53 : decode cX10_looksAtPower 53 = .ok (.iload_n 1, 1) := by decide +kernel
theorem dX10_looksAtPower_54 : decode cX10_looksAtPower 54 = .ok (.iadd, 1) := by decide +kernel
theorem dX10_looksAtPower_55 : decode cX10_looksAtPower 55 = .ok (.iaload, 1) := by decide +kernel
theorem dX10_looksAtPower_56 : decode cX10_looksAtPower 56 = .ok (.iconst (-1), 1) := by decide +kernel
theorem dX10_looksAtPower_57 : decode cX10_looksAtPower 57 = .ok (.if_icmp .ne 19, 3) := by decide +kernel
theorem dX10_looksAtPower_60 : decode cX10_looksAtPower 60 = .ok (.aload_n 0, 1) := by decide +kernel
theorem dX10_looksAtPower_61 : decode cX10_looksAtPower 61 = .ok (.getfield 10, 3) := by decide +kernel
theorem dX10_looksAtPower_64 : decode cX10_looksAtPower 64 = .ok (.sipush 670, 3) := by decide +kernel
theorem dX10_looksAtPower_67 : decode cX10_looksAtPower 67 = .ok (.iload_n 1, 1) := by decide +kernel
theorem dX10_looksAtPower_68 : decode cX10_looksAtPower 68 = .ok (.iadd, 1) := by decide +kernel
theorem dX10_looksAtPower_69 : decode cX10_looksAtPower 69 = .ok (.aload_n 0, 1) := by decide +kernel
theorem dX10_looksAtPower_70 : decode cX10_looksAtPower 70 = .ok (.getfield 10, 3) := by decide +kernel
theorem dX10_looksAtPower_73 : decode cX10_looksAtPower 73 = .ok (.iconst 0, 1) := by decide +kernel
theorem dX10_looksAtPower_74 : decode cX10_looksAtPower 74 = .ok (.iaload, 1) := by decide +kernel
theorem dX10_looksAtPower_75 : decode cX10_looksAtPower 75 = .ok (.iastore, 1) := by decide +kernel
theorem dX10_looksAtPower_76 : decode cX10_looksAtPower 76 = .ok (.aload_n 0, 1) := by decide +kernel
theorem dX10_looksAtPower_77 : decode cX10_looksAtPower 77 = .ok (.iload_n 1, 1) := by decide +kernel
theorem dX10_looksAtPower_78 : decode cX10_looksAtPower 78 = .ok (.iconst 0, 1) := by decide +kernel
theorem dX10_looksAtPower_79 : decode cX10_looksAtPower 79 = .ok (.invokevirtual 61, 3) := by decide +kernel
theorem dX10_looksAtPower_82 : decode cX10_looksAtPower 82 = .ok (.iinc 1 1, 3) := by decide +kernel
theorem dX10_looksAtPower_85 : decode cX10_looksAtPower 85 = .ok (.goto (-83), 3) := by decide +kernel
theorem dX10_looksAtPower_88 : decode cX10_looksAtPower 88 = .ok (.return_, 1) := by decide +kernel
set_option maxRecDepth 20000 in
theorem zl_X10_looksAtPower_1 : z_All z_tab cX10_looksAtPower 2 none RX10 pc_X10_looksAtPower 40 (k_X10_looksAtPower.drop 40) := z_cons (ok_iconst (by decide) dX10_looksAtPower_73 rfl rfl) <| z_cons (ok_iald dX10_looksAtPower_74 rfl rfl) <| z_cons (ok_iast dX10_looksAtPower_75 rfl rfl) <| z_cons (ok_aload_n dX10_looksAtPower_76 rfl rfl) <| z_cons (ok_iload_n dX10_looksAtPower_77 rfl rfl) <| z_cons (ok_iconst (by decide) dX10_looksAtPower_78 rfl rfl) <| z_cons (ok_callv ⟨by decide, by decide, by decide⟩ (ci := 8) (C := RX10) (T := TX10) rfl go_11 (k := 176) (n := 2) qw_646 qw_618 ⟨by decide +kernel, by decide +kernel, by decide +kernel⟩ (Nat.le_of_ble_eq_true rfl) qw_647 qw_648 qw_649 dX10_looksAtPower_79 rfl rfl) <| z_cons (ok_iinc (by decide) (Nat.le_of_ble_eq_true rfl) dX10_looksAtPower_82 rfl rfl) <| z_cons (ok_goto (tgt := 2) (by decide) rfl dX10_looksAtPower_85 rfl) <| z_cons (ok_ret rfl dX10_looksAtPower_88 rfl) <| z_nil
set_option maxRecDepth 20000 in
theorem zl_X10_looksAtPower_0 : z_All z_tab cX10_looksAtPower 2 none RX10 pc_X10_looksAtPower 0 (k_X10_looksAtPower.drop 0) := z_cons (ok_iconst (by decide) dX10_looksAtPower_0 rfl rfl) <| z_cons (ok_istore_n (Nat.le_of_ble_eq_true rfl) dX10_looksAtPower_1 rfl rfl) <| z_cons (ok_iload_n dX10_looksAtPower_2 rfl rfl) <| z_cons (ok_bipush (by decide) dX10_looksAtPower_3 rfl rfl) <| z_cons (ok_icmp_ge (tgt := 88) (by decide) rfl dX10_looksAtPower_5 rfl rfl) <| z_cons (ok_aload_n dX10_looksAtPower_8 rfl rfl) <| z_cons (ok_getr (k := 0) ⟨by decide, by decide, by decide⟩ (ci := 8) (T := TX10) rfl rfl (Nat.le_of_ble_eq_true rfl) iw_X10 qw_616 gr_11_0 (fun _ _ => by simp) (fun w i => List.mem_of_getElem? (i := 0) rfl) dX10_looksAtPower_9 rfl rfl) <| z_cons (ok_sipush (by decide) dX10_looksAtPower_12 rfl rfl) <| z_cons (ok_iload_n dX10_looksAtPower_15 rfl rfl) <| z_cons (ok_iadd dX10_looksAtPower_16 rfl rfl) <| z_cons (ok_iald dX10_looksAtPower_17 rfl rfl) <| z_cons (ok_if_ne (tgt := 24) (by decide) rfl dX10_looksAtPower_18 rfl rfl) <| z_cons (ok_goto (tgt := 82) (by decide) rfl dX10_looksAtPower_21 rfl) <| z_cons (ok_aload_n dX10_looksAtPower_24 rfl rfl) <| z_cons (ok_iload_n dX10_looksAtPower_25 rfl rfl) <| z_cons (ok_callv ⟨by decide, by decide, by decide⟩ (ci := 8) (C := RX10) (T := TX10) rfl go_11 (k := 173) (n := 1) qw_642 qw_618 ⟨by decide +kernel, by decide +kernel, by decide +kernel⟩ (Nat.le_of_ble_eq_true rfl) qw_643 qw_644 qw_645 dX10_looksAtPower_26 rfl rfl) <| z_cons (ok_if_eq (tgt := 46) (by decide) rfl dX10_looksAtPower_29 rfl rfl) <| z_cons (ok_aload_n dX10_looksAtPower_32 rfl rfl) <| z_cons (ok_getr (k := 0) ⟨by decide, by decide, by decide⟩ (ci := 8) (T := TX10) rfl rfl (Nat.le_of_ble_eq_true rfl) iw_X10 qw_616 gr_11_0 (fun _ _ => by simp) (fun w i => List.mem_of_getElem? (i := 0) rfl) dX10_looksAtPower_33 rfl rfl) <| z_cons (ok_sipush (by decide) dX10_looksAtPower_36 rfl rfl) <| z_cons (ok_iload_n dX10_looksAtPower_39 rfl rfl) <| z_cons (ok_iadd dX10_looksAtPower_40 rfl rfl) <| z_cons (ok_iconst (by decide) dX10_looksAtPower_41 rfl rfl) <| z_cons (ok_iast dX10_looksAtPower_42 rfl rfl) <| z_cons (ok_goto (tgt := 82) (by decide) rfl dX10_looksAtPower_43 rfl) <| z_cons (ok_aload_n dX10_looksAtPower_46 rfl rfl) <| z_cons (ok_getr (k := 0) ⟨by decide, by decide, by decide⟩ (ci := 8) (T := TX10) rfl rfl (Nat.le_of_ble_eq_true rfl) iw_X10 qw_616 gr_11_0 (fun _ _ => by simp) (fun w i => List.mem_of_getElem? (i := 0) rfl) dX10_looksAtPower_47 rfl rfl) <| z_cons (ok_sipush (by decide) dX10_looksAtPower_50 rfl rfl) <| z_cons (ok_iload_n dX10_looksAtPower_53 rfl rfl) <| z_cons (ok_iadd dX10_looksAtPower_54 rfl rfl) <| z_cons (ok_iald dX10_looksAtPower_55 rfl rfl) <| z_cons (ok_iconst (by decide) dX10_looksAtPower_56 rfl rfl) <| z_cons (ok_icmp_ne (tgt := 76) (by decide) rfl dX10_looksAtPower_57 rfl rfl) <| z_cons (ok_aload_n dX10_looksAtPower_60 rfl rfl) <| z_cons (ok_getr (k := 0) ⟨by decide, by decide, by decide⟩ (ci := 8) (T := TX10) rfl rfl (Nat.le_of_ble_eq_true rfl) iw_X10 qw_616 gr_11_0 (fun _ _ => by simp) (fun w i => List.mem_of_getElem? (i := 0) rfl) dX10_looksAtPower_61 rfl rfl) <| z_cons (ok_sipush (by decide) dX10_looksAtPower_64 rfl rfl) <| z_cons (ok_iload_n dX10_looksAtPower_67 rfl rfl) <| z_cons (ok_iadd dX10_looksAtPower_68 rfl rfl) <| z_cons (ok_aload_n dX10_looksAtPower_69 rfl rfl) <| z_cons (ok_getr (k := 0) ⟨by decide, by decide, by decide⟩ (ci := 8) (T := TX10) rfl rfl (Nat.le_of_ble_eq_true rfl) iw_X10 qw_616 gr_11_0 (fun _ _ => by simp) (fun w i => List.mem_of_getElem? (i := 0) rfl) dX10_looksAtPower_70 rfl rfl) <| zl_X10_looksAtPower_1
theorem dX10_fade_0 : decode cX10_fade 0 = .ok (.aload_n 0, 1) := by decide +kernel
theorem dX10_fade_1 : decode cX10_fade 1 = .ok (.iload_n 1, 1) := by decide +kernel
theorem dX10_fade_2 : decode cX10_fade 2 = .ok (.iconst 1, 1) := by decide +kernel
theorem dX10_fade_3 : decode cX10_fade 3 = .ok (.invokevirtual 45, 3) := by decide +kernel
theorem dX10_fade_6 : decode cX10_fade 6 = .ok (.iconst 1, 1) := by decide +kernel
theorem dX10_fade_7 : decode cX10_fade 7 = .ok (.if_icmp .ne 35, 3) := by decide +kernel
theorem dX10_fade_10 : decode cX10_fade 10 = .ok (.aload_n 0, 1) := by decide +kernel
theorem dX10_fade_11 : decode cX10_fade 11 = .ok (.getfield 10, 3) := by decide +kernel
theorem dX10_fade_14 : decode cX10_fade 14 = .ok (.iconst 0, 1) := by decide +kernel
theorem dX10_fade_15 : decode cX10_fade 15 = .ok (.iaload, 1) := by decide +kernel
theorem dX10_fade_16 : decode cX10_fade 16 = .ok (.aload_n 0, 1) := by decide +kernel
theorem dX10_fade_17 : decode cX10_fade 17 = .ok (.getfield 10, 3) := by decide +kernel
theorem dX10_fade_20 : decode cX10_fade 20 = .ok (.sipush 646, 3) := by decide +kernel
theorem dX10_fade_23 : decode cX10_fade 23 = .ok (.iload_n 1, 1) := by decide +kernel
theorem dX10_fade_24 : decode cX10_fade 24 = .ok (.iadd, 1) := by decide +kernel
theorem dX10_fade_25 : decode cX10_fade 25 = .ok (.iaload, 1) := by decide +kernel
theorem dX10_fade_26 : decode cX10_fade 26 = .ok (.isub, 1) := by decide +kernel
theorem dX10_fade_27 : decode cX10_fade 27 = .ok (.aload_n 0, 1) := by decide +kernel
theorem dX10_fade_28 : decode cX10_fade 28 = .ok (.getfield 10, 3) := by decide +kernel
theorem dX10_fade_31 : decode cX10_fade 31 = .ok (.iconst 2, 1) := by decide +kernel
theorem dX10_fade_32 : decode cX10_fade 32 = .ok (.iaload, 1) := by decide +kernel
theorem dX10_fade_33 : decode cX10_fade 33 = .ok (.if_icmp .lt 9, 3) := by decide +kernel
theorem dX10_fade_36 : decode cX10_fade 36 = .ok (.aload_n 0, 1) := by decide +kernel
theorem dX10_fade_37 : decode cX10_fade 37 = .ok (.iload_n 1, 1) := by decide +kernel
theorem dX10_fade_38 : decode cX10_fade 38 = .ok (.iconst 1, 1) := by decide +kernel
theorem dX10_fade_39 : decode cX10_fade 39 = .ok (.invokevirtual 61, 3) := by decide +kernel
theorem dX10_fade_42 : decode cX10_fade 42 = .ok (.aload_n 0, 1) := by decide +kernel
theorem dX10_fade_43 : decode cX10_fade 43 = .ok (.getfield 10, 3) := by decide +kernel
theorem dX10_fade_46 : decode cX10_fade 46 = .ok (.sipush 670, 3) := by decide +kernel
theorem dX10_fade_49 : decode cX10_fade 49 = .ok (.iload_n 1, 1) := by decide +kernel
theorem dX10_fade_50 : decode cX10_fade 50 = .ok (.iadd, 1) := by decide +kernel
theorem dX10_fade_51 : decode cX10_fade 51 = .ok (.iaload, 1) := by decide +kernel
theorem dX10_fade_52 : decode cX10_fade 52 = .ok (.iconst (-1), 1) := by decide +kernel
theorem dX10_fade_53 : decode cX10_fade 53 = .ok (.if_icmp .eq 29, 3) := by decide +kernel
theorem dX10_fade_56 : decode cX10_fade 56 = .ok (.aload_n 0, 1) := by decide +kernel
theorem dX10_fade_57 : decode cX10_fade 57 = .ok (.getfield 10, 3) := by decide +kernel
theorem dX10_fade_60 : decode cX10_fade 60 = .ok (.iconst 0, 1) := by decide +kernel
theorem dX10_fade_61 : decode cX10_fade 61 = .ok (.iaload, 1) := by decide +kernel
theorem dX10_fade_62 : decode cX10_fade 62 = .ok (.aload_n 0, 1) := by decide +kernel
theorem dX10_fade_63 : decode cX10_fade 63 = .ok (.getfield 10, 3) := by decide +kernel
theorem dX10_fade_66 : decode cX10_fade 66 = .ok (.sipush 670, 3) := by decide +kernel
theorem dX10_fade_69 : decode cX10_fade 69 = .ok (.iload_n 1, 1) := by decide +kernel
theorem dX10_fade_70 : decode cX10_fade 70 = .ok (.iadd, 1) := by decide +kernel
theorem dX10_fade_71 : decode cX10_fade 71 = .ok (.iaload, 1) := by decide +kernel
theorem dX10_fade_72 : decode cX10_fade 72 = .ok (.isub, 1) := by decide +kernel
theorem dX10_fade_73 : decode cX10_fade 73 = .ok (.aload_n 0, 1) := by decide +kernel
theorem dX10_fade_74 : decode cX10_fade 74 = .ok (.getfield 10, 3) := by decide +kernel
theorem dX10_fade_77 : decode cX10_fade 77 = .ok (.iconst 3, 1) := by decide +kernel
theorem dX10_fade_78 : decode cX10_fade 78 = .ok (.iaload, 1) := by decide +kernel
theorem dX10_fade_79 : decode cX10_fade 79 = .ok (.if_icmp .ge 4, 3) := by decide +kernel
theorem dX10_fade_82 : decode cX10_fade 82 = .ok (.return_, 1) := by decide +kernel
theorem dX10_fade_83 : decode cX10_fade 83 = .ok (.iconst 2, 1) := by decide +kernel
theorem dX10_fade_84 : decode cX10_fade 84 = .ok (.istore_n 2, 1) := by decide +kernel
theorem dX10_fade_85 : decode cX10_fade 85 = .ok (.iload_n 2, 1) := by decide +kernel
theorem dX10_fade_86 : decode cX10_fade 86 = .ok (.iconst 5, 1) := by decide +kernel
theorem dX10_fade_87 : decode cX10_fade 87 = .ok (.if_icmp .ge 15, 3) := by decide +kernel
theorem dX10_fade_90 : decode cX10_fade 90 = .ok (.aload_n 0, 1) := by decide +kernel
theorem dX10_fade_91 : decode cX10_fade 91 = .ok (.iload_n 1, 1) := by decide +kernel
theorem dX10_fade_92 : decode cX10_fade 92 = .ok (.iload_n 2, 1) := by decide +kernel
theorem dX10_fade_93 : decode cX10_fade 93 = .ok (.invokevirtual 61, 3) := by decide +kernel
theorem dX10_fade_96 : decode cX10_fade 96 = .ok (.iinc 2 1, 3) := by decide +kernel
theorem dX10_fade_99 : decode cX10_fade 99 = .ok (.goto (-14), 3) := by decide +kernel
theorem dX10_fade_102 : decode cX10_fade 102 = .ok (.return_, 1) := by decide +kernel
set_option maxRecDepth 20000 in
theorem zl_X10_fade_1 : z_All z_tab cX10_fade 3 none RX10 pc_X10_fade 40 (k_X10_fade.drop 40) := z_cons (ok_sipush (by decide) dX10_fade_66 rfl rfl) <| z_cons (ok_iload_n dX10_fade_69 rfl rfl) <| z_cons (ok_iadd dX10_fade_70 rfl rfl) <| z_cons (ok_iald dX10_fade_71 rfl rfl) <| z_cons (ok_isub dX10_fade_72 rfl rfl) <| z_cons (ok_aload_n dX10_fade_73 rfl rfl) <| z_cons (ok_getr (k := 0) ⟨by decide, by decide, by decide⟩ (ci := 8) (T := TX10) rfl rfl (Nat.le_of_ble_eq_true rfl) iw_X10 qw_616 gr_11_0 (fun _ _ => by simp) (fun w i => List.mem_of_getElem? (i := 0) rfl) dX10_fade_74 rfl rfl) <| z_cons (ok_iconst (by decide) dX10_fade_77 rfl rfl) <| z_cons (ok_iald dX10_fade_78 rfl rfl) <| z_cons (ok_icmp_ge (tgt := 83) (by decide) rfl dX10_fade_79 rfl rfl) <| z_cons (ok_ret rfl dX10_fade_82 rfl) <| z_cons (ok_iconst (by decide) dX10_fade_83 rfl rfl) <| z_cons (ok_istore_n (Nat.le_of_ble_eq_true rfl) dX10_fade_84 rfl rfl) <| z_cons (ok_iload_n dX10_fade_85 rfl rfl) <| z_cons (ok_iconst (by decide) dX10_fade_86 rfl rfl) <| z_cons (ok_icmp_ge (tgt := 102) (by decide) rfl dX10_fade_87 rfl rfl) <| z_cons (ok_aload_n dX10_fade_90 rfl rfl) <| z_cons (ok_iload_n dX10_fade_91 rfl rfl) <| z_cons (ok_iload_n dX10_fade_92 rfl rfl) <| z_cons (ok_callv ⟨by decide, by decide, by decide⟩ (ci := 8) (C := RX10) (T := TX10) rfl go_11 (k := 176) (n := 2) qw_646 qw_618 ⟨by decide +kernel, by decide +kernel, by decide +kernel⟩ (Nat.le_of_ble_eq_true rfl) qw_647 qw_648 qw_649 dX10_fade_93 rfl rfl) <| z_cons (ok_iinc (by decide) (Nat.le_of_ble_eq_true rfl) dX10_fade_96 rfl rfl) <| z_cons (ok_goto (tgt := 85) (by decide) rfl dX10_fade_99 rfl) <| z_cons (ok_ret rfl dX10_fade_102 rfl) <| z_nil
set_option maxRecDepth 20000 in
theorem zl_X10_fade_0 : z_All z_tab cX10_fade 3 none RX10 pc_X10_fade 0 (k_X10_fade.drop 0) := z_cons (ok_aload_n dX10_fade_0 rfl rfl) <| z_cons (ok_iload_n dX10_fade_1 rfl rfl) <| z_cons (ok_iconst (by decide) dX10_fade_2 rfl rfl) <| z_cons (ok_callv ⟨by decide, by decide, by decide⟩ (ci := 8) (C := RX10) (T := TX10) rfl go_11 (k := 174) (n := 2) qw_630 qw_618 ⟨by decide +kernel, by decide +kernel, by decide +kernel⟩ (Nat.le_of_ble_eq_true rfl) qw_631 qw_632 qw_633 dX10_fade_3 rfl rfl) <| z_cons (ok_iconst (by decide) dX10_fade_6 rfl rfl) <| z_cons (ok_icmp_ne (tgt := 42) (by decide) rfl dX10_fade_7 rfl rfl) <| z_cons (ok_aload_n dX10_fade_10 rfl rfl) <| z_cons (ok_getr (k := 0) ⟨by decide, by decide, by decide⟩ (ci := 8) (T := TX10) rfl rfl (Nat.le_of_ble_eq_true rfl) iw_X10 qw_616 gr_11_0 (fun _ _ => by simp) (fun w i => List.mem_of_getElem? (i := 0) rfl) dX10_fade_11 rfl rfl) <| z_cons (ok_iconst (by decide) dX10_fade_14 rfl rfl) <| z_cons (ok_iald dX10_fade_15 rfl rfl) <| z_cons (ok_aload_n dX10_fade_16 rfl rfl) <| z_cons (ok_getr (k := 0) ⟨by decide, by decide, by decide⟩ (ci := 8) (T := TX10) rfl rfl (Nat.le_of_ble_eq_true rfl) iw_X10 qw_616 gr_11_0 (fun _ _ => by simp) (fun w i => List.mem_of_getElem? (i := 0) rfl) dX10_fade_17 rfl rfl) <| z_cons (ok_sipush (by decide) dX10_fade_20 rfl rfl) <| z_cons (ok_iload_n dX10_fade_23 rfl rfl) <| z_cons (ok_iadd dX10_fade_24 rfl rfl) <| z_cons (ok_iald dX10_fade_25 rfl rfl) <| z_cons (ok_isub dX10_fade_26 rfl rfl) <| z_cons (ok_aload_n dX10_fade_27 rfl rfl) <| z_cons (ok_getr (k := 0) ⟨by decide, by decide, by decide⟩ (ci := 8) (T := TX10) rfl rfl (Nat.le_of_ble_eq_true rfl) iw_X10 qw_616 gr_11_0 (fun _ _ => by simp) (fun w i => List.mem_of_getElem? (i := 0) rfl) dX10_fade_28 rfl rfl) <| z_cons (ok_iconst (by decide) dX10_fade_31 rfl rfl) <| z_cons (ok_iald dX10_fade_32 rfl rfl) <| z_cons (ok_icmp_lt (tgt := 42) (by decide) rfl dX10_fade_33 rfl rfl) <| z_cons (ok_aload_n dX10_fade_36 rfl rfl) <| z_cons (ok_iload_n dX10_fade_37 rfl rfl) <| z_cons (ok_iconst (by decide) dX10_fade_38 rfl rfl) <| z_cons (ok_callv ⟨by decide, by decide, by decide⟩ (ci := 8) (C := RX10) (T := TX10) rfl go_11 (k := 176) (n := 2) qw_646 qw_618 ⟨by decide +kernel, by decide +kernel, by decide +kernel⟩ (Nat.le_of_ble_eq_true rfl) qw_647 qw_648 qw_649 dX10_fade_39 rfl rfl) <| z_cons (ok_aload_n dX10_fade_42 rfl rfl) <| z_cons (ok_getr (k := 0) ⟨by decide, by decide, by decide⟩ (ci := 8) (T := TX10) rfl rfl (Nat.le_of_ble_eq_true rfl) iw_X10 qw_616 gr_11_0 (fun _ _ => by simp) (fun w i => List.mem_of_getElem? (i := 0) rfl) dX10_fade_43 rfl rfl) <| z_cons (ok_sipush (by decide) dX10_fade_46 rfl rfl) <| z_cons (ok_iload_n dX10_fade_49 rfl rfl) <| z_cons (ok_iadd dX10_fade_50 rfl rfl) <| z_cons (ok_iald dX10_fade_51 rfl rfl) <| z_cons (ok_iconst (by decide) dX10_fade_52 rfl rfl) <| z_cons (ok_icmp_eq (tgt := 82) (by decide) rfl dX10_fade_53 rfl rfl) <| z_cons (ok_aload_n dX10_fade_56 rfl rfl) <| z_cons (ok_getr (k := 0) ⟨by decide, by decide, by decide⟩ (ci := 8) (T := TX10) rfl rfl (Nat.le_of_ble_eq_true rfl) iw_X10 qw_616 gr_11_0 (fun _ _ => by simp) (fun w i => List.mem_of_getElem? (i := 0) rfl) dX10_fade_57 rfl rfl) <| z_cons (ok_iconst (by decide) dX10_fade_60 rfl rfl) <| z_cons (ok_iald dX10_fade_61 rfl rfl) <| z_cons (ok_aload_n dX10_fade_62 rfl rfl) <| z_cons (ok_getr (k := 0) ⟨by decide, by decide, by decide⟩ (ci := 8) (T := TX10) rfl rfl (Nat.le_of_ble_eq_true rfl) iw_X10 qw_616 gr_11_0 (fun _ _ => by simp) (fun w i => List.mem_of_getElem? (i := 0) rfl) dX10_fade_63 rfl rfl) <| zl_X10_fade_1
theorem dX10_set_0 : decode cX10_set 0 = .ok (.iload_n 1, 1) := by decide +kernel
theorem dX10_set_1 : decode cX10_set 1 = .ok (.iconst 0, 1) := by decide +kernel
theorem dX10_set_2 : decode cX10_set 2 = .ok (.iconst 1, 1) := by decide +kernel
theorem dX10_set_3 : decode cX10_set 3 = .ok (.invokestatic 32, 3) := by decide +kernel
theorem dX10_set_6 : decode cX10_set 6 = .ok (.ifCond .eq 24, 3) := by decide +kernel
theorem dX10_set_9 : decode cX10_set 9 = .ok (.iload_n 2, 1) := by decide +kernel
theorem dX10_set_10 : decode cX10_set 10 = .ok (.iconst 1, 1) := by decide +kernel
theorem dX10_set_11 : decode cX10_set 11 = .ok (.iload_n 1, 1) := by decide +kernel
theorem dX10_set_12 : decode cX10_set 12 = .ok (.ifCond .ne 9, 3) := by decide +kernel
theorem dX10_set_15 : decode cX10_set 15 = .ok (.sipush 200, 3) := by decide +kernel
theorem dX10_set_18 : decode cX10_set 18 = .ok (.goto 6, 3) := by decide +kernel
theorem dX10_set_21 : decode cX10_set 21 = .ok (.sipush 400, 3) := by decide +kernel
theorem dX10_set_24 : decode cX10_set 24 = .ok (.invokestatic 32, 3) := by decide +kernel
theorem dX10_set_27 : decode cX10_set 27 = .ok (.ifCond .ne 5, 3) := by decide +kernel
theorem dX10_set_30 : decode cX10_set 30 = .ok (.iconst 0, 1) := by decide +kernel
theorem dX10_set_31 : decode cX10_set 31 = .ok (.ireturn, 1) := by decide +kernel
theorem dX10_set_32 : decode cX10_set 32 = .ok (.aload_n 0, 1) := by decide +kernel
theorem dX10_set_33 : decode cX10_set 33 = .ok (.getfield 10, 3) := by decide +kernel
theorem dX10_set_36 : decode cX10_set 36 = .ok (.iconst 2, 1) := by decide +kernel
theorem dX10_set_37 : decode cX10_set 37 = .ok (.iload_n 1, 1) := by decide +kernel
theorem dX10_set_38 : decode cX10_set 38 = .ok (.iadd, 1) := by decide +kernel
theorem dX10_set_39 : decode cX10_set 39 = .ok (.iload_n 2, 1) := by decide +kernel
theorem dX10_set_40 : decode cX10_set 40 = .ok (.iastore, 1) := by decide +kernel
theorem dX10_set_41 : decode cX10_set 41 = .ok (.iconst 1, 1) := by decide +kernel
theorem dX10_set_42 : decode cX10_set 42 = .ok (.ireturn, 1) := by decide +kernel
set_option maxRecDepth 20000 in
theorem zl_X10_set_0 : z_All z_tab cX10_set 3 (some .boolean) RX10 pc_X10_set 0 (k_X10_set.drop 0) := z_cons (ok_iload_n dX10_set_0 rfl rfl) <| z_cons (ok_iconst (by decide) dX10_set_1 rfl rfl) <| z_cons (ok_iconst (by decide) dX10_set_2 rfl rfl) <| z_cons (ok_callS (k := 162) (n := 3) qw_617 qw_618 ⟨by decide +kernel, by decide +kernel, by decide +kernel⟩ (Nat.le_of_ble_eq_true rfl) qw_620 qw_619 dX10_set_3 rfl rfl) <| z_cons (ok_if_eq (tgt := 30) (by decide) rfl dX10_set_6 rfl rfl) <| z_cons (ok_iload_n dX10_set_9 rfl rfl) <| z_cons (ok_iconst (by decide) dX10_set_10 rfl rfl) <| z_cons (ok_iload_n dX10_set_11 rfl rfl) <| z_cons (ok_if_ne (tgt := 21) (by decide) rfl dX10_set_12 rfl rfl) <| z_cons (ok_sipush (by decide) dX10_set_15 rfl rfl) <| z_cons (ok_goto (tgt := 24) (by decide) rfl dX10_set_18 rfl) <| z_cons (ok_sipush (by decide) dX10_set_21 rfl rfl) <| z_cons (ok_callS (k := 162) (n := 3) qw_617 qw_618 ⟨by decide +kernel, by decide +kernel, by decide +kernel⟩ (Nat.le_of_ble_eq_true rfl) qw_620 qw_619 dX10_set_24 rfl rfl) <| z_cons (ok_if_ne (tgt := 32) (by decide) rfl dX10_set_27 rfl rfl) <| z_cons (ok_iconst (by decide) dX10_set_30 rfl rfl) <| z_cons (ok_zret rfl dX10_set_31 rfl) <| z_cons (ok_aload_n dX10_set_32 rfl rfl) <| z_cons (ok_getr (k := 0) ⟨by decide, by decide, by decide⟩ (ci := 8) (T := TX10) rfl rfl (Nat.le_of_ble_eq_true rfl) iw_X10 qw_616 gr_11_0 (fun _ _ => by simp) (fun w i => List.mem_of_getElem? (i := 0) rfl) dX10_set_33 rfl rfl) <| z_cons (ok_iconst (by decide) dX10_set_36 rfl rfl) <| z_cons (ok_iload_n dX10_set_37 rfl rfl) <| z_cons (ok_iadd dX10_set_38 rfl rfl) <| z_cons (ok_iload_n dX10_set_39 rfl rfl) <| z_cons (ok_iast dX10_set_40 rfl rfl) <| z_cons (ok_iconst (by decide) dX10_set_41 rfl rfl) <| z_cons (ok_zret rfl dX10_set_42 rfl) <| z_nil
theorem dX10_state_0 : decode cX10_state 0 = .ok (.aload_n 0, 1) := by decide +kernel
theorem dX10_state_1 : decode cX10_state 1 = .ok (.getfield 10, 3) := by decide +kernel
theorem dX10_state_4 : decode cX10_state 4 = .ok (.iconst 1, 1) := by decide +kernel
theorem dX10_state_5 : decode cX10_state 5 = .ok (.iaload, 1) := by decide +kernel
theorem dX10_state_6 : decode cX10_state 6 = .ok (.istore_n 2, 1) := by decide +kernel
theorem dX10_state_7 : decode cX10_state 7 = .ok (.aload_n 0, 1) := by decide +kernel
theorem dX10_state_8 : decode cX10_state 8 = .ok (.getfield 10, 3) := by decide +kernel
theorem dX10_state_11 : decode cX10_state 11 = .ok (.iconst 1, 1) := by decide +kernel
theorem dX10_state_12 : decode cX10_state 12 = .ok (.iload_n 1, 1) := by decide +kernel
theorem dX10_state_13 : decode cX10_state 13 = .ok (.iastore, 1) := by decide +kernel
theorem dX10_state_14 : decode cX10_state 14 = .ok (.iload_n 2, 1) := by decide +kernel
theorem dX10_state_15 : decode cX10_state 15 = .ok (.ireturn, 1) := by decide +kernel
set_option maxRecDepth 20000 in
theorem zl_X10_state_0 : z_All z_tab cX10_state 3 (some .int) RX10 pc_X10_state 0 (k_X10_state.drop 0) := z_cons (ok_aload_n dX10_state_0 rfl rfl) <| z_cons (ok_getr (k := 0) ⟨by decide, by decide, by decide⟩ (ci := 8) (T := TX10) rfl rfl (Nat.le_of_ble_eq_true rfl) iw_X10 qw_616 gr_11_0 (fun _ _ => by simp) (fun w i => List.mem_of_getElem? (i := 0) rfl) dX10_state_1 rfl rfl) <| z_cons (ok_iconst (by decide) dX10_state_4 rfl rfl) <| z_cons (ok_iald dX10_state_5 rfl rfl) <| z_cons (ok_istore_n (Nat.le_of_ble_eq_true rfl) dX10_state_6 rfl rfl) <| z_cons (ok_aload_n dX10_state_7 rfl rfl) <| z_cons (ok_getr (k := 0) ⟨by decide, by decide, by decide⟩ (ci := 8) (T := TX10) rfl rfl (Nat.le_of_ble_eq_true rfl) iw_X10 qw_616 gr_11_0 (fun _ _ => by simp) (fun w i => List.mem_of_getElem? (i := 0) rfl) dX10_state_8 rfl rfl) <| z_cons (ok_iconst (by decide) dX10_state_11 rfl rfl) <| z_cons (ok_iload_n dX10_state_12 rfl rfl) <| z_cons (ok_iast dX10_state_13 rfl rfl) <| z_cons (ok_iload_n dX10_state_14 rfl rfl) <| z_cons (ok_iret rfl dX10_state_15 rfl) <| z_nil
theorem dX10_tune_0 : decode cX10_tune 0 = .ok (.iload_n 1, 1) := by decide +kernel
theorem dX10_tune_1 : decode cX10_tune 1 = .ok (.invokestatic 64, 3) := by decide +kernel
theorem dX10_tune_4 : decode cX10_tune 4 = .ok (.ifCond .eq 49, 3) := by decide +kernel
theorem dX10_tune_7 : decode cX10_tune 7 = .ok (.iload_n 2, 1) := by decide +kernel
theorem dX10_tune_8 : decode cX10_tune 8 = .ok (.iconst 0, 1) := by decide +kernel
theorem dX10_tune_9 : decode cX10_tune 9 = .ok (.iconst 2, 1) := by decide +kernel
theorem dX10_tune_10 : decode cX10_tune 10 = .ok (.invokestatic 32, 3) := by decide +kernel
theorem dX10_tune_13 : decode cX10_tune 13 = .ok (.ifCond .eq 40, 3) := by decide +kernel
theorem dX10_tune_16 : decode cX10_tune 16 = .ok (.iload_n 3, 1) := by decide +kernel
theorem dX10_tune_17 : decode cX10_tune 17 = .ok (.iload_n 2, 1) := by decide +kernel
theorem dX10_tune_18 : decode cX10_tune 18 = .ok (.iconst 1, 1) := by decide +kernel
theorem dX10_tune_19 : decode cX10_tune 19 = .ok (.if_icmp .ne 7, 3) := by decide +kernel
theorem dX10_tune_22 : decode cX10_tune 22 = .ok (.iconst 1, 1) := by decide +kernel
theorem dX10_tune_23 : decode cX10_tune 23 = .ok (.goto 4, 3) := by decide +kernel
theorem dX10_tune_26 : decode cX10_tune 26 = .ok (.iconst 0, 1) := by decide +kernel
theorem dX10_tune_27 : decode cX10_tune 27 = .ok (.iload_n 2, 1) := by decide +kernel
theorem dX10_tune_28 : decode cX10_tune 28 = .ok (.ifCond .ne 8, 3) := by decide +kernel
theorem dX10_tune_31 : decode cX10_tune 31 = .ok (.bipush 64, 2) := by decide +kernel
theorem dX10_tune_33 : decode cX10_tune 33 = .ok (.goto 14, 3) := by decide +kernel
theorem dX10_tune_36 : decode cX10_tune 36 = .ok (.iload_n 2, 1) := by decide +kernel
theorem dX10_tune_37 : decode cX10_tune 37 = .ok (.iconst 1, 1) := by decide +kernel
theorem dX10_tune_38 : decode cX10_tune 38 = .ok (.if_icmp .ne 8, 3) := by decide +kernel
theorem dX10_tune_41 : decode cX10_tune 41 = .ok (.bipush 8, 2) := by decide +kernel
theorem dX10_tune_43 : decode cX10_tune 43 = .ok (.goto 4, 3) := by decide +kernel
theorem dX10_tune_46 : decode cX10_tune 46 = .ok (.iconst 3, 1) := by decide +kernel
theorem dX10_tune_47 : decode cX10_tune 47 = .ok (.invokestatic 32, 3) := by decide +kernel
theorem dX10_tune_50 : decode cX10_tune 50 = .ok (.ifCond .ne 5, 3) := by decide +kernel
theorem dX10_tune_53 : decode cX10_tune 53 = .ok (.iconst 0, 1) := by decide +kernel
theorem dX10_tune_54 : decode cX10_tune 54 = .ok (.ireturn, 1) := by decide +kernel
theorem dX10_tune_55 : decode cX10_tune 55 = .ok (.aload_n 0, 1) := by decide +kernel
theorem dX10_tune_56 : decode cX10_tune 56 = .ok (.getfield 10, 3) := by decide +kernel
theorem dX10_tune_59 : decode cX10_tune 59 = .ok (.sipush 266, 3) := by decide +kernel
theorem dX10_tune_62 : decode cX10_tune 62 = .ok (.iconst 4, 1) := by decide +kernel
theorem dX10_tune_63 : decode cX10_tune 63 = .ok (.iload_n 2, 1) := by decide +kernel
theorem dX10_tune_64 : decode cX10_tune 64 = .ok (.imul, 1) := by decide +kernel
theorem dX10_tune_65 : decode cX10_tune 65 = .ok (.iadd, 1) := by decide +kernel
theorem dX10_tune_66 : decode cX10_tune 66 = .ok (.iload_n 1, 1) := by decide +kernel
theorem dX10_tune_67 : decode cX10_tune 67 = .ok (.iadd, 1) := by decide +kernel
theorem dX10_tune_68 : decode cX10_tune 68 = .ok (.iload_n 3, 1) := by decide +kernel
theorem dX10_tune_69 : decode cX10_tune 69 = .ok (.iastore, 1) := by decide +kernel
theorem dX10_tune_70 : decode cX10_tune 70 = .ok (.iconst 1, 1) := by decide +kernel
theorem dX10_tune_71 : decode cX10_tune 71 = .ok (.ireturn, 1) := by decide +kernel
set_option maxRecDepth 20000 in
theorem zl_X10_tune_1 : z_All z_tab cX10_tune 4 (some .boolean) RX10 pc_X10_tune 40 (k_X10_tune.drop 40) := z_cons (ok_iconst (by decide) dX10_tune_70 rfl rfl) <| z_cons (ok_zret rfl dX10_tune_71 rfl) <| z_nil
set_option maxRecDepth 20000 in
theorem zl_X10_tune_0 : z_All z_tab cX10_tune 4 (some .boolean) RX10 pc_X10_tune 0 (k_X10_tune.drop 0) := z_cons (ok_iload_n dX10_tune_0 rfl rfl) <| z_cons (ok_callS (k := 166) (n := 1) qw_650 qw_618 ⟨by decide +kernel, by decide +kernel, by decide +kernel⟩ (Nat.le_of_ble_eq_true rfl) qw_652 qw_651 dX10_tune_1 rfl rfl) <| z_cons (ok_if_eq (tgt := 53) (by decide) rfl dX10_tune_4 rfl rfl) <| z_cons (ok_iload_n dX10_tune_7 rfl rfl) <| z_cons (ok_iconst (by decide) dX10_tune_8 rfl rfl) <| z_cons (ok_iconst (by decide) dX10_tune_9 rfl rfl) <| z_cons (ok_callS (k := 162) (n := 3) qw_617 qw_618 ⟨by decide +kernel, by decide +kernel, by decide +kernel⟩ (Nat.le_of_ble_eq_true rfl) qw_620 qw_619 dX10_tune_10 rfl rfl) <| z_cons (ok_if_eq (tgt := 53) (by decide) rfl dX10_tune_13 rfl rfl) <| z_cons (ok_iload_n dX10_tune_16 rfl rfl) <| z_cons (ok_iload_n dX10_tune_17 rfl rfl) <| z_cons (ok_iconst (by decide) dX10_tune_18 rfl rfl) <| z_cons (ok_icmp_ne (tgt := 26) (by decide) rfl dX10_tune_19 rfl rfl) <| z_cons (ok_iconst (by decide) dX10_tune_22 rfl rfl) <| z_cons (ok_goto (tgt := 27) (by decide) rfl dX10_tune_23 rfl) <| z_cons (ok_iconst (by decide) dX10_tune_26 rfl rfl) <| z_cons (ok_iload_n dX10_tune_27 rfl rfl) <| z_cons (ok_if_ne (tgt := 36) (by decide) rfl dX10_tune_28 rfl rfl) <| z_cons (ok_bipush (by decide) dX10_tune_31 rfl rfl) <| z_cons (ok_goto (tgt := 47) (by decide) rfl dX10_tune_33 rfl) <| z_cons (ok_iload_n dX10_tune_36 rfl rfl) <| z_cons (ok_iconst (by decide) dX10_tune_37 rfl rfl) <| z_cons (ok_icmp_ne (tgt := 46) (by decide) rfl dX10_tune_38 rfl rfl) <| z_cons (ok_bipush (by decide) dX10_tune_41 rfl rfl) <| z_cons (ok_goto (tgt := 47) (by decide) rfl dX10_tune_43 rfl) <| z_cons (ok_iconst (by decide) dX10_tune_46 rfl rfl) <| z_cons (ok_callS (k := 162) (n := 3) qw_617 qw_618 ⟨by decide +kernel, by decide +kernel, by decide +kernel⟩ (Nat.le_of_ble_eq_true rfl) qw_620 qw_619 dX10_tune_47 rfl rfl) <| z_cons (ok_if_ne (tgt := 55) (by decide) rfl dX10_tune_50 rfl rfl) <| z_cons (ok_iconst (by decide) dX10_tune_53 rfl rfl) <| z_cons (ok_zret rfl dX10_tune_54 rfl) <| z_cons (ok_aload_n dX10_tune_55 rfl rfl) <| z_cons (ok_getr (k := 0) ⟨by decide, by decide, by decide⟩ (ci := 8) (T := TX10) rfl rfl (Nat.le_of_ble_eq_true rfl) iw_X10 qw_616 gr_11_0 (fun _ _ => by simp) (fun w i => List.mem_of_getElem? (i := 0) rfl) dX10_tune_56 rfl rfl) <| z_cons (ok_sipush (by decide) dX10_tune_59 rfl rfl) <| z_cons (ok_iconst (by decide) dX10_tune_62 rfl rfl) <| z_cons (ok_iload_n dX10_tune_63 rfl rfl) <| z_cons (ok_imul dX10_tune_64 rfl rfl) <| z_cons (ok_iadd dX10_tune_65 rfl rfl) <| z_cons (ok_iload_n dX10_tune_66 rfl rfl) <| z_cons (ok_iadd dX10_tune_67 rfl rfl) <| z_cons (ok_iload_n dX10_tune_68 rfl rfl) <| z_cons (ok_iast dX10_tune_69 rfl rfl) <| zl_X10_tune_1
