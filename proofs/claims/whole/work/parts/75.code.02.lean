theorem dX4_readTag_0 : decode cX4_readTag 0 = .ok (.aload_n 0, 1) := by decide +kernel
theorem dX4_readTag_1 : decode cX4_readTag 1 = .ok (.iload_n 3, 1) := by decide +kernel
theorem dX4_readTag_2 : decode cX4_readTag 2 = .ok (.invokevirtual 156, 3) := by decide +kernel
theorem dX4_readTag_5 : decode cX4_readTag 5 = .ok (.astore 4, 2) := by decide +kernel
theorem dX4_readTag_7 : decode cX4_readTag 7 = .ok (.aload 4, 2) := by decide +kernel
theorem dX4_readTag_9 : decode cX4_readTag 9 = .ok (.ifnonnull 4, 3) := by decide +kernel
theorem dX4_readTag_12 : decode cX4_readTag 12 = .ok (.return_, 1) := by decide +kernel
theorem dX4_readTag_13 : decode cX4_readTag 13 = .ok (.aload 4, 2) := by decide +kernel
theorem dX4_readTag_15 : decode cX4_readTag 15 = .ok (.aload_n 2, 1) := by decide +kernel
theorem dX4_readTag_16 : decode cX4_readTag 16 = .ok (.getfield 160, 3) := by decide +kernel
theorem dX4_readTag_19 : decode cX4_readTag 19 = .ok (.iconst 1, 1) := by decide +kernel
theorem dX4_readTag_20 : decode cX4_readTag 20 = .ok (.aload 4, 2) := by decide +kernel
theorem dX4_readTag_22 : decode cX4_readTag 22 = .ok (.aload_n 2, 1) := by decide +kernel
theorem dX4_readTag_23 : decode cX4_readTag 23 = .ok (.getfield 160, 3) := by decide +kernel
theorem dX4_readTag_26 : decode cX4_readTag 26 = .ok (.invokevirtual 163, 3) := by decide +kernel
theorem dX4_readTag_29 : decode cX4_readTag 29 = .ok (.isub, 1) := by decide +kernel
theorem dX4_readTag_30 : decode cX4_readTag 30 = .ok (.aload_n 0, 1) := by decide +kernel
theorem dX4_readTag_31 : decode cX4_readTag 31 = .ok (.getfield 166, 3) := by decide +kernel
theorem dX4_readTag_34 : decode cX4_readTag 34 = .ok (.invokevirtual 169, 3) := by decide +kernel
theorem dX4_readTag_37 : decode cX4_readTag 37 = .ok (.aload_n 0, 1) := by decide +kernel
theorem dX4_readTag_38 : decode cX4_readTag 38 = .ok (.getfield 90, 3) := by decide +kernel
theorem dX4_readTag_41 : decode cX4_readTag 41 = .ok (.bipush 8, 2) := by decide +kernel
theorem dX4_readTag_43 : decode cX4_readTag 43 = .ok (.dup2, 1) := by decide +kernel
theorem dX4_readTag_44 : decode cX4_readTag 44 = .ok (.iaload, 1) := by decide +kernel
theorem dX4_readTag_45 : decode cX4_readTag 45 = .ok (.aload 4, 2) := by decide +kernel
theorem dX4_readTag_47 : decode cX4_readTag 47 = .ok (.aload_n 2, 1) := by decide +kernel
theorem dX4_readTag_48 : decode cX4_readTag 48 = .ok (.getfield 160, 3) := by decide +kernel
theorem dX4_readTag_51 : decode cX4_readTag 51 = .ok (.invokevirtual 163, 3) := by decide +kernel
theorem dX4_readTag_54 : decode cX4_readTag 54 = .ok (.iadd, 1) := by decide +kernel
theorem dX4_readTag_55 : decode cX4_readTag 55 = .ok (.iastore, 1) := by decide +kernel
theorem dX4_readTag_56 : decode cX4_readTag 56 = .ok (.aload 4, 2) := by decide +kernel
theorem dX4_readTag_58 : decode cX4_readTag 58 = .ok (.dup, 1) := by decide +kernel
theorem dX4_readTag_59 : decode cX4_readTag 59 = .ok (.getfield 172, 3) := by decide +kernel
theorem dX4_readTag_62 : decode cX4_readTag 62 = .ok (.iconst 1, 1) := by decide +kernel
theorem dX4_readTag_63 : decode cX4_readTag 63 = .ok (.iadd, 1) := by decide +kernel
theorem dX4_readTag_64 : decode cX4_readTag 64 = .ok (.putfield 172, 3) := by decide +kernel
theorem dX4_readTag_67 : decode cX4_readTag 67 = .ok (.aload 4, 2) := by decide +kernel
theorem dX4_readTag_69 : decode cX4_readTag 69 = .ok (.iload_n 1, 1) := by decide +kernel
theorem dX4_readTag_70 : decode cX4_readTag 70 = .ok (.putfield 175, 3) := by decide +kernel
theorem dX4_readTag_73 : decode cX4_readTag 73 = .ok (.aload 4, 2) := by decide +kernel
theorem dX4_readTag_75 : decode cX4_readTag 75 = .ok (.invokevirtual 178, 3) := by decide +kernel
theorem dX4_readTag_78 : decode cX4_readTag 78 = .ok (.aload_n 2, 1) := by decide +kernel
theorem dX4_readTag_79 : decode cX4_readTag 79 = .ok (.iload_n 3, 1) := by decide +kernel
theorem dX4_readTag_80 : decode cX4_readTag 80 = .ok (.invokevirtual 181, 3) := by decide +kernel
theorem dX4_readTag_83 : decode cX4_readTag 83 = .ok (.return_, 1) := by decide +kernel
set_option maxRecDepth 20000 in
theorem zl_X4_readTag_1 : z_All z_tab cX4_readTag 5 none RX4 pc_X4_readTag 40 (k_X4_readTag.drop 40) := z_cons (ok_callv ⟨by decide, by decide, by decide⟩ (ci := 4) (C := RX6) (T := TX6) rfl go_7 (k := 78) (n := 0) qw_236 qw_203 ⟨by decide +kernel, by decide +kernel, by decide +kernel⟩ (Nat.le_of_ble_eq_true rfl) qw_237 qw_238 qw_239 dX4_readTag_75 rfl rfl) <| z_cons (ok_aload_n dX4_readTag_78 rfl rfl) <| z_cons (ok_iload_n dX4_readTag_79 rfl rfl) <| z_cons (ok_callv ⟨by decide, by decide, by decide⟩ (ci := 3) (C := RX3) (T := TX3) rfl go_4 (k := 34) (n := 1) qw_240 qw_103 ⟨by decide +kernel, by decide +kernel, by decide +kernel⟩ (Nat.le_of_ble_eq_true rfl) qw_241 qw_242 qw_243 dX4_readTag_80 rfl rfl) <| z_cons (ok_ret rfl dX4_readTag_83 rfl) <| z_nil
set_option maxRecDepth 20000 in
theorem zl_X4_readTag_0 : z_All z_tab cX4_readTag 5 none RX4 pc_X4_readTag 0 (k_X4_readTag.drop 0) := z_cons (ok_aload_n dX4_readTag_0 rfl rfl) <| z_cons (ok_iload_n dX4_readTag_1 rfl rfl) <| z_cons (ok_callv ⟨by decide, by decide, by decide⟩ (ci := 6) (C := RX8) (T := TX8) rfl go_9 (k := 91) (n := 1) qw_220 qw_124 ⟨by decide +kernel, by decide +kernel, by decide +kernel⟩ (Nat.le_of_ble_eq_true rfl) qw_221 qw_222 qw_223 dX4_readTag_2 rfl rfl) <| z_cons (ok_astore (Nat.le_of_ble_eq_true rfl) dX4_readTag_5 rfl rfl) <| z_cons (ok_aload dX4_readTag_7 rfl rfl) <| z_cons (ok_ifnonnull (tgt := 13) (by decide) rfl dX4_readTag_9 rfl rfl) <| z_cons (ok_ret rfl dX4_readTag_12 rfl) <| z_cons (ok_aload dX4_readTag_13 rfl rfl) <| z_cons (ok_aload_n dX4_readTag_15 rfl rfl) <| z_cons (ok_get ⟨by decide, by decide, by decide⟩ (ci := 3) (T := TX3) rfl rfl (Nat.le_of_ble_eq_true rfl) iw_X3 qw_224 gv_4_5 dX4_readTag_16 rfl rfl) <| z_cons (ok_iconst (by decide) dX4_readTag_19 rfl rfl) <| z_cons (ok_aload dX4_readTag_20 rfl rfl) <| z_cons (ok_aload_n dX4_readTag_22 rfl rfl) <| z_cons (ok_get ⟨by decide, by decide, by decide⟩ (ci := 3) (T := TX3) rfl rfl (Nat.le_of_ble_eq_true rfl) iw_X3 qw_224 gv_4_5 dX4_readTag_23 rfl rfl) <| z_cons (ok_callv ⟨by decide, by decide, by decide⟩ (ci := 4) (C := RX6) (T := TX6) rfl go_7 (k := 81) (n := 1) qw_225 qw_203 ⟨by decide +kernel, by decide +kernel, by decide +kernel⟩ (Nat.le_of_ble_eq_true rfl) qw_226 qw_227 qw_228 dX4_readTag_26 rfl rfl) <| z_cons (ok_isub dX4_readTag_29 rfl rfl) <| z_cons (ok_aload_n dX4_readTag_30 rfl rfl) <| z_cons (ok_get ⟨by decide, by decide, by decide⟩ (ci := 6) (T := TX8) rfl rfl (Nat.le_of_ble_eq_true rfl) iw_X8 qw_229 gv_9_5 dX4_readTag_31 rfl rfl) <| z_cons (ok_callv ⟨by decide, by decide, by decide⟩ (ci := 4) (C := RX6) (T := TX6) rfl go_7 (k := 84) (n := 3) qw_230 qw_203 ⟨by decide +kernel, by decide +kernel, by decide +kernel⟩ (Nat.le_of_ble_eq_true rfl) qw_231 qw_232 qw_233 dX4_readTag_34 rfl rfl) <| z_cons (ok_aload_n dX4_readTag_37 rfl rfl) <| z_cons (ok_getr (k := 4) ⟨by decide, by decide, by decide⟩ (ci := 6) (T := TX8) rfl rfl (Nat.le_of_ble_eq_true rfl) iw_X8 qw_174 gr_9_4 (fun _ _ => by simp) (fun w i => List.mem_of_getElem? (i := 4) rfl) dX4_readTag_38 rfl rfl) <| z_cons (ok_bipush (by decide) dX4_readTag_41 rfl rfl) <| z_cons (ok_dup2 dX4_readTag_43 rfl rfl) <| z_cons (ok_iald dX4_readTag_44 rfl rfl) <| z_cons (ok_aload dX4_readTag_45 rfl rfl) <| z_cons (ok_aload_n dX4_readTag_47 rfl rfl) <| z_cons (ok_get ⟨by decide, by decide, by decide⟩ (ci := 3) (T := TX3) rfl rfl (Nat.le_of_ble_eq_true rfl) iw_X3 qw_224 gv_4_5 dX4_readTag_48 rfl rfl) <| z_cons (ok_callv ⟨by decide, by decide, by decide⟩ (ci := 4) (C := RX6) (T := TX6) rfl go_7 (k := 81) (n := 1) qw_225 qw_203 ⟨by decide +kernel, by decide +kernel, by decide +kernel⟩ (Nat.le_of_ble_eq_true rfl) qw_226 qw_227 qw_228 dX4_readTag_51 rfl rfl) <| z_cons (ok_iadd dX4_readTag_54 rfl rfl) <| z_cons (ok_iast dX4_readTag_55 rfl rfl) <| z_cons (ok_aload dX4_readTag_56 rfl rfl) <| z_cons (ok_dup dX4_readTag_58 rfl rfl) <| z_cons (ok_get ⟨by decide, by decide, by decide⟩ (ci := 4) (T := TX6) rfl rfl (Nat.le_of_ble_eq_true rfl) iw_X6 qw_234 gv_7_6 dX4_readTag_59 rfl rfl) <| z_cons (ok_iconst (by decide) dX4_readTag_62 rfl rfl) <| z_cons (ok_iadd dX4_readTag_63 rfl rfl) <| z_cons (ok_put ⟨by decide, by decide, by decide⟩ (ci := 4) (T := TX6) rfl rfl (Nat.le_of_ble_eq_true rfl) iw_X6 qw_234 tyX6_ok nmX6 rfl pv_7_6 rfl dX4_readTag_64 rfl rfl) <| z_cons (ok_aload dX4_readTag_67 rfl rfl) <| z_cons (ok_iload_n dX4_readTag_69 rfl rfl) <| z_cons (ok_put ⟨by decide, by decide, by decide⟩ (ci := 4) (T := TX6) rfl rfl (Nat.le_of_ble_eq_true rfl) iw_X6 qw_235 tyX6_ok nmX6 rfl pv_7_7 rfl dX4_readTag_70 rfl rfl) <| z_cons (ok_aload dX4_readTag_73 rfl rfl) <| zl_X4_readTag_1
theorem dX4_afterSlot_0 : decode cX4_afterSlot 0 = .ok (.iload_n 3, 1) := by decide +kernel
theorem dX4_afterSlot_1 : decode cX4_afterSlot 1 = .ok (.invokestatic 39, 3) := by decide +kernel
theorem dX4_afterSlot_4 : decode cX4_afterSlot 4 = .ok (.istore 5, 2) := by decide +kernel
theorem dX4_afterSlot_6 : decode cX4_afterSlot 6 = .ok (.aload_n 2, 1) := by decide +kernel
theorem dX4_afterSlot_7 : decode cX4_afterSlot 7 = .ok (.getfield 127, 3) := by decide +kernel
theorem dX4_afterSlot_10 : decode cX4_afterSlot 10 = .ok (.iload 5, 2) := by decide +kernel
theorem dX4_afterSlot_12 : decode cX4_afterSlot 12 = .ok (.invokevirtual 155, 3) := by decide +kernel
theorem dX4_afterSlot_15 : decode cX4_afterSlot 15 = .ok (.iload 5, 2) := by decide +kernel
theorem dX4_afterSlot_17 : decode cX4_afterSlot 17 = .ok (.iconst 1, 1) := by decide +kernel
theorem dX4_afterSlot_18 : decode cX4_afterSlot 18 = .ok (.if_icmp .le 8, 3) := by decide +kernel
theorem dX4_afterSlot_21 : decode cX4_afterSlot 21 = .ok (.aload_n 0, 1) := by decide +kernel
theorem dX4_afterSlot_22 : decode cX4_afterSlot 22 = .ok (.iload_n 3, 1) := by decide +kernel
theorem dX4_afterSlot_23 : decode cX4_afterSlot 23 = .ok (.invokestatic 184, 3) := by decide +kernel
theorem dX4_afterSlot_26 : decode cX4_afterSlot 26 = .ok (.aload_n 2, 1) := by decide +kernel
theorem dX4_afterSlot_27 : decode cX4_afterSlot 27 = .ok (.getfield 187, 3) := by decide +kernel
theorem dX4_afterSlot_30 : decode cX4_afterSlot 30 = .ok (.ifCond .ne 9, 3) := by decide +kernel
theorem dX4_afterSlot_33 : decode cX4_afterSlot 33 = .ok (.aload_n 2, 1) := by decide +kernel
theorem dX4_afterSlot_34 : decode cX4_afterSlot 34 = .ok (.iload 5, 2) := by decide +kernel
theorem dX4_afterSlot_36 : decode cX4_afterSlot 36 = .ok (.invokestatic 190, 3) := by decide +kernel
theorem dX4_afterSlot_39 : decode cX4_afterSlot 39 = .ok (.aload_n 2, 1) := by decide +kernel
theorem dX4_afterSlot_40 : decode cX4_afterSlot 40 = .ok (.getfield 187, 3) := by decide +kernel
theorem dX4_afterSlot_43 : decode cX4_afterSlot 43 = .ok (.ifCond .ne 18, 3) := by decide +kernel
theorem dX4_afterSlot_46 : decode cX4_afterSlot 46 = .ok (.aload_n 2, 1) := by decide +kernel
theorem dX4_afterSlot_47 : decode cX4_afterSlot 47 = .ok (.invokevirtual 52, 3) := by decide +kernel
theorem dX4_afterSlot_50 : decode cX4_afterSlot 50 = .ok (.aload_n 2, 1) := by decide +kernel
theorem dX4_afterSlot_51 : decode cX4_afterSlot 51 = .ok (.getfield 124, 3) := by decide +kernel
theorem dX4_afterSlot_54 : decode cX4_afterSlot 54 = .ok (.if_icmp .eq 7, 3) := by decide +kernel
theorem dX4_afterSlot_57 : decode cX4_afterSlot 57 = .ok (.iconst 1, 1) := by decide +kernel
theorem dX4_afterSlot_58 : decode cX4_afterSlot 58 = .ok (.goto 4, 3) := by decide +kernel
theorem dX4_afterSlot_61 : decode cX4_afterSlot 61 = .ok (.iconst 0, 1) := by decide +kernel
theorem dX4_afterSlot_62 : decode cX4_afterSlot 62 = .ok (.istore 6, 2) := by decide +kernel
theorem dX4_afterSlot_64 : decode cX4_afterSlot 64 = .ok (.iload 6, 2) := by decide +kernel
theorem dX4_afterSlot_66 : decode cX4_afterSlot 66 = .ok (.ifCond .eq 16, 3) := by decide +kernel
theorem dX4_afterSlot_69 : decode cX4_afterSlot 69 = .ok (.aload_n 0, 1) := by decide +kernel
theorem dX4_afterSlot_70 : decode cX4_afterSlot 70 = .ok (.iload_n 1, 1) := by decide +kernel
theorem dX4_afterSlot_71 : decode cX4_afterSlot 71 = .ok (.aload_n 2, 1) := by decide +kernel
theorem dX4_afterSlot_72 : decode cX4_afterSlot 72 = .ok (.aload_n 2, 1) := by decide +kernel
theorem dX4_afterSlot_73 : decode cX4_afterSlot 73 = .ok (.invokevirtual 52, 3) := by decide +kernel
theorem dX4_afterSlot_76 : decode cX4_afterSlot 76 = .ok (.invokestatic 58, 3) := by decide +kernel
theorem dX4_afterSlot_79 : decode cX4_afterSlot 79 = .ok (.goto 71, 3) := by decide +kernel
theorem dX4_afterSlot_82 : decode cX4_afterSlot 82 = .ok (.aload_n 2, 1) := by decide +kernel
theorem dX4_afterSlot_83 : decode cX4_afterSlot 83 = .ok (.getfield 127, 3) := by decide +kernel
theorem dX4_afterSlot_86 : decode cX4_afterSlot 86 = .ok (.invokevirtual 194, 3) := by decide +kernel
theorem dX4_afterSlot_89 : decode cX4_afterSlot 89 = .ok (.iconst 1, 1) := by decide +kernel
theorem dX4_afterSlot_90 : decode cX4_afterSlot 90 = .ok (.aload_n 2, 1) := by decide +kernel
theorem dX4_afterSlot_91 : decode cX4_afterSlot 91 = .ok (.getfield 124, 3) := by decide +kernel
theorem dX4_afterSlot_94 : decode cX4_afterSlot 94 = .ok (.ishl, 1) := by decide +kernel
theorem dX4_afterSlot_95 : decode cX4_afterSlot 95 = .ok (.if_icmp .ge 13, 3) := by decide +kernel
theorem dX4_afterSlot_98 : decode cX4_afterSlot 98 = .ok (.aload_n 0, 1) := by decide +kernel
theorem dX4_afterSlot_99 : decode cX4_afterSlot 99 = .ok (.iload_n 1, 1) := by decide +kernel
theorem dX4_afterSlot_100 : decode cX4_afterSlot 100 = .ok (.iload 4, 2) := by decide +kernel
theorem dX4_afterSlot_102 : decode cX4_afterSlot 102 = .ok (.invokestatic 197, 3) := by decide +kernel
theorem dX4_afterSlot_105 : decode cX4_afterSlot 105 = .ok (.goto 45, 3) := by decide +kernel
theorem dX4_afterSlot_108 : decode cX4_afterSlot 108 = .ok (.aload_n 0, 1) := by decide +kernel
theorem dX4_afterSlot_109 : decode cX4_afterSlot 109 = .ok (.iload_n 1, 1) := by decide +kernel
theorem dX4_afterSlot_110 : decode cX4_afterSlot 110 = .ok (.invokevirtual 201, 3) := by decide +kernel
theorem dX4_afterSlot_113 : decode cX4_afterSlot 113 = .ok (.ifCond .eq 31, 3) := by decide +kernel
theorem dX4_afterSlot_116 : decode cX4_afterSlot 116 = .ok (.aload_n 0, 1) := by decide +kernel
theorem dX4_afterSlot_117 : decode cX4_afterSlot 117 = .ok (.iload_n 1, 1) := by decide +kernel
theorem dX4_afterSlot_118 : decode cX4_afterSlot 118 = .ok (.aload_n 2, 1) := by decide +kernel
theorem dX4_afterSlot_119 : decode cX4_afterSlot 119 = .ok (.aload_n 2, 1) := by decide +kernel
theorem dX4_afterSlot_120 : decode cX4_afterSlot 120 = .ok (.getfield 187, 3) := by decide +kernel
theorem dX4_afterSlot_123 : decode cX4_afterSlot 123 = .ok (.ifCond .ne 10, 3) := by decide +kernel
theorem dX4_afterSlot_126 : decode cX4_afterSlot 126 = .ok (.aload_n 2, 1) := by decide +kernel
theorem dX4_afterSlot_127 : decode cX4_afterSlot 127 = .ok (.getfield 124, 3) := by decide +kernel
theorem dX4_afterSlot_130 : decode cX4_afterSlot 130 = .ok (.goto 8, 3) := by decide +kernel
theorem dX4_afterSlot_133 : decode cX4_afterSlot 133 = .ok (.aload_n 0, 1) := by decide +kernel
theorem dX4_afterSlot_134 : decode cX4_afterSlot 134 = .ok (.aload_n 2, 1) := by decide +kernel
theorem dX4_afterSlot_135 : decode cX4_afterSlot 135 = .ok (.invokestatic 204, 3) := by decide +kernel
theorem dX4_afterSlot_138 : decode cX4_afterSlot 138 = .ok (.invokestatic 58, 3) := by decide +kernel
theorem dX4_afterSlot_141 : decode cX4_afterSlot 141 = .ok (.goto 9, 3) := by decide +kernel
theorem dX4_afterSlot_144 : decode cX4_afterSlot 144 = .ok (.aload_n 0, 1) := by decide +kernel
theorem dX4_afterSlot_145 : decode cX4_afterSlot 145 = .ok (.iload_n 1, 1) := by decide +kernel
theorem dX4_afterSlot_146 : decode cX4_afterSlot 146 = .ok (.aload_n 2, 1) := by decide +kernel
theorem dX4_afterSlot_147 : decode cX4_afterSlot 147 = .ok (.invokestatic 208, 3) := by decide +kernel
theorem dX4_afterSlot_150 : decode cX4_afterSlot 150 = .ok (.return_, 1) := by decide +kernel
set_option maxRecDepth 20000 in
theorem zl_X4_afterSlot_1 : z_All z_tab cX4_afterSlot 7 none RX4 pc_X4_afterSlot 40 (k_X4_afterSlot.drop 40) := z_cons (ok_aload_n dX4_afterSlot_82 rfl rfl) <| z_cons (ok_getr (k := 13) ⟨by decide, by decide, by decide⟩ (ci := 3) (T := TX3) rfl rfl (Nat.le_of_ble_eq_true rfl) iw_X3 qw_194 gr_4_13 (fun _ _ => by simp) (fun w i => List.mem_of_getElem? (i := 1) rfl) dX4_afterSlot_83 rfl rfl) <| z_cons (ok_callv ⟨by decide, by decide, by decide⟩ (ci := 5) (C := RX7) (T := TX7) rfl go_8 (k := 89) (n := 0) qw_96 qw_86 ⟨by decide +kernel, by decide +kernel, by decide +kernel⟩ (Nat.le_of_ble_eq_true rfl) qw_251 qw_98 qw_99 dX4_afterSlot_86 rfl rfl) <| z_cons (ok_iconst (by decide) dX4_afterSlot_89 rfl rfl) <| z_cons (ok_aload_n dX4_afterSlot_90 rfl rfl) <| z_cons (ok_get ⟨by decide, by decide, by decide⟩ (ci := 3) (T := TX3) rfl rfl (Nat.le_of_ble_eq_true rfl) iw_X3 qw_193 gv_4_9 dX4_afterSlot_91 rfl rfl) <| z_cons (ok_ishl dX4_afterSlot_94 rfl rfl) <| z_cons (ok_icmp_ge (tgt := 108) (by decide) rfl dX4_afterSlot_95 rfl rfl) <| z_cons (ok_aload_n dX4_afterSlot_98 rfl rfl) <| z_cons (ok_iload_n dX4_afterSlot_99 rfl rfl) <| z_cons (ok_iload dX4_afterSlot_100 rfl rfl) <| z_cons (ok_callS (k := 52) (n := 3) qw_252 qw_156 ⟨by decide +kernel, by decide +kernel, by decide +kernel⟩ (Nat.le_of_ble_eq_true rfl) qw_254 qw_253 dX4_afterSlot_102 rfl rfl) <| z_cons (ok_goto (tgt := 150) (by decide) rfl dX4_afterSlot_105 rfl) <| z_cons (ok_aload_n dX4_afterSlot_108 rfl rfl) <| z_cons (ok_iload_n dX4_afterSlot_109 rfl rfl) <| z_cons (ok_callv ⟨by decide, by decide, by decide⟩ (ci := 6) (C := RX8) (T := TX8) rfl go_9 (k := 112) (n := 1) qw_255 qw_124 ⟨by decide +kernel, by decide +kernel, by decide +kernel⟩ (Nat.le_of_ble_eq_true rfl) qw_256 qw_257 qw_258 dX4_afterSlot_110 rfl rfl) <| z_cons (ok_if_eq (tgt := 144) (by decide) rfl dX4_afterSlot_113 rfl rfl) <| z_cons (ok_aload_n dX4_afterSlot_116 rfl rfl) <| z_cons (ok_iload_n dX4_afterSlot_117 rfl rfl) <| z_cons (ok_aload_n dX4_afterSlot_118 rfl rfl) <| z_cons (ok_aload_n dX4_afterSlot_119 rfl rfl) <| z_cons (ok_get ⟨by decide, by decide, by decide⟩ (ci := 3) (T := TX3) rfl rfl (Nat.le_of_ble_eq_true rfl) iw_X3 qw_247 gv_4_8 dX4_afterSlot_120 rfl rfl) <| z_cons (ok_if_ne (tgt := 133) (by decide) rfl dX4_afterSlot_123 rfl rfl) <| z_cons (ok_aload_n dX4_afterSlot_126 rfl rfl) <| z_cons (ok_get ⟨by decide, by decide, by decide⟩ (ci := 3) (T := TX3) rfl rfl (Nat.le_of_ble_eq_true rfl) iw_X3 qw_193 gv_4_9 dX4_afterSlot_127 rfl rfl) <| z_cons (ok_goto (tgt := 138) (by decide) rfl dX4_afterSlot_130 rfl) <| z_cons (ok_aload_n dX4_afterSlot_133 rfl rfl) <| z_cons (ok_aload_n dX4_afterSlot_134 rfl rfl) <| z_cons (ok_callS (k := 50) (n := 2) qw_259 qw_156 ⟨by decide +kernel, by decide +kernel, by decide +kernel⟩ (Nat.le_of_ble_eq_true rfl) qw_261 qw_260 dX4_afterSlot_135 rfl rfl) <| z_cons (ok_callS (k := 43) (n := 4) qw_155 qw_156 ⟨by decide +kernel, by decide +kernel, by decide +kernel⟩ (Nat.le_of_ble_eq_true rfl) qw_158 qw_157 dX4_afterSlot_138 rfl rfl) <| z_cons (ok_goto (tgt := 150) (by decide) rfl dX4_afterSlot_141 rfl) <| z_cons (ok_aload_n dX4_afterSlot_144 rfl rfl) <| z_cons (ok_iload_n dX4_afterSlot_145 rfl rfl) <| z_cons (ok_aload_n dX4_afterSlot_146 rfl rfl) <| z_cons (ok_callS (k := 54) (n := 3) qw_262 qw_156 ⟨by decide +kernel, by decide +kernel, by decide +kernel⟩ (Nat.le_of_ble_eq_true rfl) qw_264 qw_263 dX4_afterSlot_147 rfl rfl) <| z_cons (ok_ret rfl dX4_afterSlot_150 rfl) <| z_nil
set_option maxRecDepth 20000 in
theorem zl_X4_afterSlot_0 : z_All z_tab cX4_afterSlot 7 none RX4 pc_X4_afterSlot 0 (k_X4_afterSlot.drop 0) := z_cons (ok_iload_n dX4_afterSlot_0 rfl rfl) <| z_cons (ok_callS (k := 274) (n := 1) qw_25 qw_26 ⟨by decide +kernel, by decide +kernel, by decide +kernel⟩ (Nat.le_of_ble_eq_true rfl) qw_142 qw_27 dX4_afterSlot_1 rfl rfl) <| z_cons (ok_istore (Nat.le_of_ble_eq_true rfl) dX4_afterSlot_4 rfl rfl) <| z_cons (ok_aload_n dX4_afterSlot_6 rfl rfl) <| z_cons (ok_getr (k := 13) ⟨by decide, by decide, by decide⟩ (ci := 3) (T := TX3) rfl rfl (Nat.le_of_ble_eq_true rfl) iw_X3 qw_194 gr_4_13 (fun _ _ => by simp) (fun w i => List.mem_of_getElem? (i := 1) rfl) dX4_afterSlot_7 rfl rfl) <| z_cons (ok_iload dX4_afterSlot_10 rfl rfl) <| z_cons (ok_callv ⟨by decide, by decide, by decide⟩ (ci := 5) (C := RX7) (T := TX7) rfl go_8 (k := 88) (n := 1) qw_216 qw_86 ⟨by decide +kernel, by decide +kernel, by decide +kernel⟩ (Nat.le_of_ble_eq_true rfl) qw_217 qw_218 qw_219 dX4_afterSlot_12 rfl rfl) <| z_cons (ok_iload dX4_afterSlot_15 rfl rfl) <| z_cons (ok_iconst (by decide) dX4_afterSlot_17 rfl rfl) <| z_cons (ok_icmp_le (tgt := 26) (by decide) rfl dX4_afterSlot_18 rfl rfl) <| z_cons (ok_aload_n dX4_afterSlot_21 rfl rfl) <| z_cons (ok_iload_n dX4_afterSlot_22 rfl rfl) <| z_cons (ok_callS (k := 51) (n := 2) qw_244 qw_156 ⟨by decide +kernel, by decide +kernel, by decide +kernel⟩ (Nat.le_of_ble_eq_true rfl) qw_246 qw_245 dX4_afterSlot_23 rfl rfl) <| z_cons (ok_aload_n dX4_afterSlot_26 rfl rfl) <| z_cons (ok_get ⟨by decide, by decide, by decide⟩ (ci := 3) (T := TX3) rfl rfl (Nat.le_of_ble_eq_true rfl) iw_X3 qw_247 gv_4_8 dX4_afterSlot_27 rfl rfl) <| z_cons (ok_if_ne (tgt := 39) (by decide) rfl dX4_afterSlot_30 rfl rfl) <| z_cons (ok_aload_n dX4_afterSlot_33 rfl rfl) <| z_cons (ok_iload dX4_afterSlot_34 rfl rfl) <| z_cons (ok_callS (k := 49) (n := 2) qw_248 qw_156 ⟨by decide +kernel, by decide +kernel, by decide +kernel⟩ (Nat.le_of_ble_eq_true rfl) qw_250 qw_249 dX4_afterSlot_36 rfl rfl) <| z_cons (ok_aload_n dX4_afterSlot_39 rfl rfl) <| z_cons (ok_get ⟨by decide, by decide, by decide⟩ (ci := 3) (T := TX3) rfl rfl (Nat.le_of_ble_eq_true rfl) iw_X3 qw_247 gv_4_8 dX4_afterSlot_40 rfl rfl) <| z_cons (ok_if_ne (tgt := 61) (by decide) rfl dX4_afterSlot_43 rfl rfl) <| z_cons (ok_aload_n dX4_afterSlot_46 rfl rfl) <| z_cons (ok_callv ⟨by decide, by decide, by decide⟩ (ci := 3) (C := RX3) (T := TX3) rfl go_4 (k := 30) (n := 0) qw_151 qw_103 ⟨by decide +kernel, by decide +kernel, by decide +kernel⟩ (Nat.le_of_ble_eq_true rfl) qw_152 qw_153 qw_154 dX4_afterSlot_47 rfl rfl) <| z_cons (ok_aload_n dX4_afterSlot_50 rfl rfl) <| z_cons (ok_get ⟨by decide, by decide, by decide⟩ (ci := 3) (T := TX3) rfl rfl (Nat.le_of_ble_eq_true rfl) iw_X3 qw_193 gv_4_9 dX4_afterSlot_51 rfl rfl) <| z_cons (ok_icmp_eq (tgt := 61) (by decide) rfl dX4_afterSlot_54 rfl rfl) <| z_cons (ok_iconst (by decide) dX4_afterSlot_57 rfl rfl) <| z_cons (ok_goto (tgt := 62) (by decide) rfl dX4_afterSlot_58 rfl) <| z_cons (ok_iconst (by decide) dX4_afterSlot_61 rfl rfl) <| z_cons (ok_istore (Nat.le_of_ble_eq_true rfl) dX4_afterSlot_62 rfl rfl) <| z_cons (ok_iload dX4_afterSlot_64 rfl rfl) <| z_cons (ok_if_eq (tgt := 82) (by decide) rfl dX4_afterSlot_66 rfl rfl) <| z_cons (ok_aload_n dX4_afterSlot_69 rfl rfl) <| z_cons (ok_iload_n dX4_afterSlot_70 rfl rfl) <| z_cons (ok_aload_n dX4_afterSlot_71 rfl rfl) <| z_cons (ok_aload_n dX4_afterSlot_72 rfl rfl) <| z_cons (ok_callv ⟨by decide, by decide, by decide⟩ (ci := 3) (C := RX3) (T := TX3) rfl go_4 (k := 30) (n := 0) qw_151 qw_103 ⟨by decide +kernel, by decide +kernel, by decide +kernel⟩ (Nat.le_of_ble_eq_true rfl) qw_152 qw_153 qw_154 dX4_afterSlot_73 rfl rfl) <| z_cons (ok_callS (k := 43) (n := 4) qw_155 qw_156 ⟨by decide +kernel, by decide +kernel, by decide +kernel⟩ (Nat.le_of_ble_eq_true rfl) qw_158 qw_157 dX4_afterSlot_76 rfl rfl) <| z_cons (ok_goto (tgt := 150) (by decide) rfl dX4_afterSlot_79 rfl) <| zl_X4_afterSlot_1
theorem dX4_stepQf_0 : decode cX4_stepQf 0 = .ok (.iload_n 1, 1) := by decide +kernel
theorem dX4_stepQf_1 : decode cX4_stepQf 1 = .ok (.ifCond .ne 23, 3) := by decide +kernel
theorem dX4_stepQf_4 : decode cX4_stepQf 4 = .ok (.aload_n 0, 1) := by decide +kernel
theorem dX4_stepQf_5 : decode cX4_stepQf 5 = .ok (.iconst 0, 1) := by decide +kernel
theorem dX4_stepQf_6 : decode cX4_stepQf 6 = .ok (.aload_n 0, 1) := by decide +kernel
theorem dX4_stepQf_7 : decode cX4_stepQf 7 = .ok (.getfield 212, 3) := by decide +kernel
theorem dX4_stepQf_10 : decode cX4_stepQf 10 = .ok (.aload_n 0, 1) := by decide +kernel
theorem dX4_stepQf_11 : decode cX4_stepQf 11 = .ok (.getfield 215, 3) := by decide +kernel
theorem dX4_stepQf_14 : decode cX4_stepQf 14 = .ok (.isub, 1) := by decide +kernel
theorem dX4_stepQf_15 : decode cX4_stepQf 15 = .ok (.invokestatic 218, 3) := by decide +kernel
theorem dX4_stepQf_18 : decode cX4_stepQf 18 = .ok (.putfield 212, 3) := by decide +kernel
theorem dX4_stepQf_21 : decode cX4_stepQf 21 = .ok (.goto 26, 3) := by decide +kernel
theorem dX4_stepQf_24 : decode cX4_stepQf 24 = .ok (.iload_n 1, 1) := by decide +kernel
theorem dX4_stepQf_25 : decode cX4_stepQf 25 = .ok (.iconst 1, 1) := by decide +kernel
theorem dX4_stepQf_26 : decode cX4_stepQf 26 = .ok (.if_icmp .le 21, 3) := by decide +kernel
theorem dX4_stepQf_29 : decode cX4_stepQf 29 = .ok (.aload_n 0, 1) := by decide +kernel
theorem dX4_stepQf_30 : decode cX4_stepQf 30 = .ok (.bipush 64, 2) := by decide +kernel
theorem dX4_stepQf_32 : decode cX4_stepQf 32 = .ok (.aload_n 0, 1) := by decide +kernel
theorem dX4_stepQf_33 : decode cX4_stepQf 33 = .ok (.getfield 212, 3) := by decide +kernel
theorem dX4_stepQf_36 : decode cX4_stepQf 36 = .ok (.aload_n 0, 1) := by decide +kernel
theorem dX4_stepQf_37 : decode cX4_stepQf 37 = .ok (.getfield 215, 3) := by decide +kernel
theorem dX4_stepQf_40 : decode cX4_stepQf 40 = .ok (.iadd, 1) := by decide +kernel
theorem dX4_stepQf_41 : decode cX4_stepQf 41 = .ok (.invokestatic 224, 3) := by decide +kernel
theorem dX4_stepQf_44 : decode cX4_stepQf 44 = .ok (.putfield 212, 3) := by decide +kernel
theorem dX4_stepQf_47 : decode cX4_stepQf 47 = .ok (.return_, 1) := by decide +kernel
set_option maxRecDepth 20000 in
theorem zl_X4_stepQf_0 : z_All z_tab cX4_stepQf 2 none RX4 pc_X4_stepQf 0 (k_X4_stepQf.drop 0) := z_cons (ok_iload_n dX4_stepQf_0 rfl rfl) <| z_cons (ok_if_ne (tgt := 24) (by decide) rfl dX4_stepQf_1 rfl rfl) <| z_cons (ok_aload_n dX4_stepQf_4 rfl rfl) <| z_cons (ok_iconst (by decide) dX4_stepQf_5 rfl rfl) <| z_cons (ok_aload_n dX4_stepQf_6 rfl rfl) <| z_cons (ok_get ⟨by decide, by decide, by decide⟩ (ci := 3) (T := TX3) rfl rfl (Nat.le_of_ble_eq_true rfl) iw_X3 qw_265 gv_4_2 dX4_stepQf_7 rfl rfl) <| z_cons (ok_aload_n dX4_stepQf_10 rfl rfl) <| z_cons (ok_get ⟨by decide, by decide, by decide⟩ (ci := 3) (T := TX3) rfl rfl (Nat.le_of_ble_eq_true rfl) iw_X3 qw_266 gv_4_3 dX4_stepQf_11 rfl rfl) <| z_cons (ok_isub dX4_stepQf_14 rfl rfl) <| z_cons (ok_mmax qw_267 qw_268 qw_32 qw_269 dX4_stepQf_15 rfl rfl) <| z_cons (ok_put ⟨by decide, by decide, by decide⟩ (ci := 3) (T := TX3) rfl rfl (Nat.le_of_ble_eq_true rfl) iw_X3 qw_265 tyX3_ok nmX3 rfl pv_4_2 rfl dX4_stepQf_18 rfl rfl) <| z_cons (ok_goto (tgt := 47) (by decide) rfl dX4_stepQf_21 rfl) <| z_cons (ok_iload_n dX4_stepQf_24 rfl rfl) <| z_cons (ok_iconst (by decide) dX4_stepQf_25 rfl rfl) <| z_cons (ok_icmp_le (tgt := 47) (by decide) rfl dX4_stepQf_26 rfl rfl) <| z_cons (ok_aload_n dX4_stepQf_29 rfl rfl) <| z_cons (ok_bipush (by decide) dX4_stepQf_30 rfl rfl) <| z_cons (ok_aload_n dX4_stepQf_32 rfl rfl) <| z_cons (ok_get ⟨by decide, by decide, by decide⟩ (ci := 3) (T := TX3) rfl rfl (Nat.le_of_ble_eq_true rfl) iw_X3 qw_265 gv_4_2 dX4_stepQf_33 rfl rfl) <| z_cons (ok_aload_n dX4_stepQf_36 rfl rfl) <| z_cons (ok_get ⟨by decide, by decide, by decide⟩ (ci := 3) (T := TX3) rfl rfl (Nat.le_of_ble_eq_true rfl) iw_X3 qw_266 gv_4_3 dX4_stepQf_37 rfl rfl) <| z_cons (ok_iadd dX4_stepQf_40 rfl rfl) <| z_cons (ok_mmin qw_270 qw_271 qw_32 qw_272 dX4_stepQf_41 rfl rfl) <| z_cons (ok_put ⟨by decide, by decide, by decide⟩ (ci := 3) (T := TX3) rfl rfl (Nat.le_of_ble_eq_true rfl) iw_X3 qw_265 tyX3_ok nmX3 rfl pv_4_2 rfl dX4_stepQf_44 rfl rfl) <| z_cons (ok_ret rfl dX4_stepQf_47 rfl) <| z_nil
theorem dX4_qByGuess_0 : decode cX4_qByGuess 0 = .ok (.aload_n 1, 1) := by decide +kernel
theorem dX4_qByGuess_1 : decode cX4_qByGuess 1 = .ok (.getfield 127, 3) := by decide +kernel
theorem dX4_qByGuess_4 : decode cX4_qByGuess 4 = .ok (.astore_n 2, 1) := by decide +kernel
theorem dX4_qByGuess_5 : decode cX4_qByGuess 5 = .ok (.aload_n 0, 1) := by decide +kernel
theorem dX4_qByGuess_6 : decode cX4_qByGuess 6 = .ok (.getfield 227, 3) := by decide +kernel
theorem dX4_qByGuess_9 : decode cX4_qByGuess 9 = .ok (.aload_n 2, 1) := by decide +kernel
theorem dX4_qByGuess_10 : decode cX4_qByGuess 10 = .ok (.getfield 231, 3) := by decide +kernel
theorem dX4_qByGuess_13 : decode cX4_qByGuess 13 = .ok (.aload_n 2, 1) := by decide +kernel
theorem dX4_qByGuess_14 : decode cX4_qByGuess 14 = .ok (.getfield 98, 3) := by decide +kernel
theorem dX4_qByGuess_17 : decode cX4_qByGuess 17 = .ok (.aload_n 2, 1) := by decide +kernel
theorem dX4_qByGuess_18 : decode cX4_qByGuess 18 = .ok (.getfield 234, 3) := by decide +kernel
theorem dX4_qByGuess_21 : decode cX4_qByGuess 21 = .ok (.invokevirtual 237, 3) := by decide +kernel
theorem dX4_qByGuess_24 : decode cX4_qByGuess 24 = .ok (.istore_n 3, 1) := by decide +kernel
theorem dX4_qByGuess_25 : decode cX4_qByGuess 25 = .ok (.iload_n 3, 1) := by decide +kernel
theorem dX4_qByGuess_26 : decode cX4_qByGuess 26 = .ok (.iconst (-1), 1) := by decide +kernel
theorem dX4_qByGuess_27 : decode cX4_qByGuess 27 = .ok (.if_icmp .ne 14, 3) := by decide +kernel
theorem dX4_qByGuess_30 : decode cX4_qByGuess 30 = .ok (.iconst 4, 1) := by decide +kernel
theorem dX4_qByGuess_31 : decode cX4_qByGuess 31 = .ok (.aload_n 1, 1) := by decide +kernel
theorem dX4_qByGuess_32 : decode cX4_qByGuess 32 = .ok (.getfield 124, 3) := by decide +kernel
theorem dX4_qByGuess_35 : decode cX4_qByGuess 35 = .ok (.iconst 1, 1) := by decide +kernel
theorem dX4_qByGuess_36 : decode cX4_qByGuess 36 = .ok (.iadd, 1) := by decide +kernel
theorem dX4_qByGuess_37 : decode cX4_qByGuess 37 = .ok (.invokestatic 224, 3) := by decide +kernel
theorem dX4_qByGuess_40 : decode cX4_qByGuess 40 = .ok (.ireturn, 1) := by decide +kernel
theorem dX4_qByGuess_41 : decode cX4_qByGuess 41 = .ok (.aload_n 0, 1) := by decide +kernel
theorem dX4_qByGuess_42 : decode cX4_qByGuess 42 = .ok (.getfield 227, 3) := by decide +kernel
theorem dX4_qByGuess_45 : decode cX4_qByGuess 45 = .ok (.iconst 1, 1) := by decide +kernel
theorem dX4_qByGuess_46 : decode cX4_qByGuess 46 = .ok (.iload_n 3, 1) := by decide +kernel
theorem dX4_qByGuess_47 : decode cX4_qByGuess 47 = .ok (.aload_n 2, 1) := by decide +kernel
theorem dX4_qByGuess_48 : decode cX4_qByGuess 48 = .ok (.getfield 98, 3) := by decide +kernel
theorem dX4_qByGuess_51 : decode cX4_qByGuess 51 = .ok (.isub, 1) := by decide +kernel
theorem dX4_qByGuess_52 : decode cX4_qByGuess 52 = .ok (.invokestatic 218, 3) := by decide +kernel
theorem dX4_qByGuess_55 : decode cX4_qByGuess 55 = .ok (.invokevirtual 243, 3) := by decide +kernel
theorem dX4_qByGuess_58 : decode cX4_qByGuess 58 = .ok (.ireturn, 1) := by decide +kernel
set_option maxRecDepth 20000 in
theorem zl_X4_qByGuess_0 : z_All z_tab cX4_qByGuess 4 (some .int) RX4 pc_X4_qByGuess 0 (k_X4_qByGuess.drop 0) := z_cons (ok_aload_n dX4_qByGuess_0 rfl rfl) <| z_cons (ok_getr (k := 13) ⟨by decide, by decide, by decide⟩ (ci := 3) (T := TX3) rfl rfl (Nat.le_of_ble_eq_true rfl) iw_X3 qw_194 gr_4_13 (fun _ _ => by simp) (fun w i => List.mem_of_getElem? (i := 1) rfl) dX4_qByGuess_1 rfl rfl) <| z_cons (ok_astore_n (Nat.le_of_ble_eq_true rfl) dX4_qByGuess_4 rfl rfl) <| z_cons (ok_aload_n dX4_qByGuess_5 rfl rfl) <| z_cons (ok_getr (k := 0) ⟨by decide, by decide, by decide⟩ (ci := 6) (T := TX8) rfl rfl (Nat.le_of_ble_eq_true rfl) iw_X8 qw_273 gr_9_0 (fun _ _ => by simp) (fun w i => List.mem_of_getElem? (i := 0) rfl) dX4_qByGuess_6 rfl rfl) <| z_cons (ok_aload_n dX4_qByGuess_9 rfl rfl) <| z_cons (ok_get ⟨by decide, by decide, by decide⟩ (ci := 5) (T := TX7) rfl rfl (Nat.le_of_ble_eq_true rfl) iw_X7 qw_274 gv_8_0 dX4_qByGuess_10 rfl rfl) <| z_cons (ok_aload_n dX4_qByGuess_13 rfl rfl) <| z_cons (ok_get ⟨by decide, by decide, by decide⟩ (ci := 5) (T := TX7) rfl rfl (Nat.le_of_ble_eq_true rfl) iw_X7 qw_176 gv_8_1 dX4_qByGuess_14 rfl rfl) <| z_cons (ok_aload_n dX4_qByGuess_17 rfl rfl) <| z_cons (ok_get ⟨by decide, by decide, by decide⟩ (ci := 5) (T := TX7) rfl rfl (Nat.le_of_ble_eq_true rfl) iw_X7 qw_275 gv_8_2 dX4_qByGuess_18 rfl rfl) <| z_cons (ok_callv ⟨by decide, by decide, by decide⟩ (ci := 0) (C := RX0) (T := TX0) rfl go_1 (k := 11) (n := 3) qw_276 qw_1 ⟨by decide +kernel, by decide +kernel, by decide +kernel⟩ (Nat.le_of_ble_eq_true rfl) qw_277 qw_278 qw_279 dX4_qByGuess_21 rfl rfl) <| z_cons (ok_istore_n (Nat.le_of_ble_eq_true rfl) dX4_qByGuess_24 rfl rfl) <| z_cons (ok_iload_n dX4_qByGuess_25 rfl rfl) <| z_cons (ok_iconst (by decide) dX4_qByGuess_26 rfl rfl) <| z_cons (ok_icmp_ne (tgt := 41) (by decide) rfl dX4_qByGuess_27 rfl rfl) <| z_cons (ok_iconst (by decide) dX4_qByGuess_30 rfl rfl) <| z_cons (ok_aload_n dX4_qByGuess_31 rfl rfl) <| z_cons (ok_get ⟨by decide, by decide, by decide⟩ (ci := 3) (T := TX3) rfl rfl (Nat.le_of_ble_eq_true rfl) iw_X3 qw_193 gv_4_9 dX4_qByGuess_32 rfl rfl) <| z_cons (ok_iconst (by decide) dX4_qByGuess_35 rfl rfl) <| z_cons (ok_iadd dX4_qByGuess_36 rfl rfl) <| z_cons (ok_mmin qw_270 qw_271 qw_32 qw_272 dX4_qByGuess_37 rfl rfl) <| z_cons (ok_iret rfl dX4_qByGuess_40 rfl) <| z_cons (ok_aload_n dX4_qByGuess_41 rfl rfl) <| z_cons (ok_getr (k := 0) ⟨by decide, by decide, by decide⟩ (ci := 6) (T := TX8) rfl rfl (Nat.le_of_ble_eq_true rfl) iw_X8 qw_273 gr_9_0 (fun _ _ => by simp) (fun w i => List.mem_of_getElem? (i := 0) rfl) dX4_qByGuess_42 rfl rfl) <| z_cons (ok_iconst (by decide) dX4_qByGuess_45 rfl rfl) <| z_cons (ok_iload_n dX4_qByGuess_46 rfl rfl) <| z_cons (ok_aload_n dX4_qByGuess_47 rfl rfl) <| z_cons (ok_get ⟨by decide, by decide, by decide⟩ (ci := 5) (T := TX7) rfl rfl (Nat.le_of_ble_eq_true rfl) iw_X7 qw_176 gv_8_1 dX4_qByGuess_48 rfl rfl) <| z_cons (ok_isub dX4_qByGuess_51 rfl rfl) <| z_cons (ok_mmax qw_267 qw_268 qw_32 qw_269 dX4_qByGuess_52 rfl rfl) <| z_cons (ok_callv ⟨by decide, by decide, by decide⟩ (ci := 0) (C := RX0) (T := TX0) rfl go_1 (k := 9) (n := 1) qw_280 qw_1 ⟨by decide +kernel, by decide +kernel, by decide +kernel⟩ (Nat.le_of_ble_eq_true rfl) qw_281 qw_282 qw_283 dX4_qByGuess_55 rfl rfl) <| z_cons (ok_iret rfl dX4_qByGuess_58 rfl) <| z_nil
theorem dX4_dropSlots_0 : decode cX4_dropSlots 0 = .ok (.iconst 0, 1) := by decide +kernel
theorem dX4_dropSlots_1 : decode cX4_dropSlots 1 = .ok (.istore_n 2, 1) := by decide +kernel
theorem dX4_dropSlots_2 : decode cX4_dropSlots 2 = .ok (.iload_n 2, 1) := by decide +kernel
theorem dX4_dropSlots_3 : decode cX4_dropSlots 3 = .ok (.bipush 24, 2) := by decide +kernel
theorem dX4_dropSlots_5 : decode cX4_dropSlots 5 = .ok (.if_icmp .ge 28, 3) := by decide +kernel
theorem dX4_dropSlots_8 : decode cX4_dropSlots 8 = .ok (.iload_n 1, 1) := by decide +kernel
theorem dX4_dropSlots_9 : decode cX4_dropSlots 9 = .ok (.iload_n 2, 1) := by decide +kernel
theorem dX4_dropSlots_10 : decode cX4_dropSlots 10 = .ok (.ishr, 1) := by decide +kernel
theorem dX4_dropSlots_11 : decode cX4_dropSlots 11 = .ok (.iconst 1, 1) := by decide +kernel
theorem dX4_dropSlots_12 : decode cX4_dropSlots 12 = .ok (.iand, 1) := by decide +kernel
theorem dX4_dropSlots_13 : decode cX4_dropSlots 13 = .ok (.iconst 1, 1) := by decide +kernel
theorem dX4_dropSlots_14 : decode cX4_dropSlots 14 = .ok (.if_icmp .ne 13, 3) := by decide +kernel
theorem dX4_dropSlots_17 : decode cX4_dropSlots 17 = .ok (.aload_n 0, 1) := by decide +kernel
theorem dX4_dropSlots_18 : decode cX4_dropSlots 18 = .ok (.getfield 29, 3) := by decide +kernel
theorem dX4_dropSlots_21 : decode cX4_dropSlots 21 = .ok (.iload_n 2, 1) := by decide +kernel
theorem dX4_dropSlots_22 : decode cX4_dropSlots 22 = .ok (.aaload, 1) := by decide +kernel
theorem dX4_dropSlots_23 : decode cX4_dropSlots 23 = .ok (.iconst (-1), 1) := by decide +kernel
theorem dX4_dropSlots_24 : decode cX4_dropSlots 24 = .ok (.putfield 139, 3) := by decide +kernel
theorem dX4_dropSlots_27 : decode cX4_dropSlots 27 = .ok (.iinc 2 1, 3) := by decide +kernel
theorem dX4_dropSlots_30 : decode cX4_dropSlots 30 = .ok (.goto (-28), 3) := by decide +kernel
theorem dX4_dropSlots_33 : decode cX4_dropSlots 33 = .ok (.return_, 1) := by decide +kernel
set_option maxRecDepth 20000 in
theorem zl_X4_dropSlots_0 : z_All z_tab cX4_dropSlots 3 none RX4 pc_X4_dropSlots 0 (k_X4_dropSlots.drop 0) := z_cons (ok_iconst (by decide) dX4_dropSlots_0 rfl rfl) <| z_cons (ok_istore_n (Nat.le_of_ble_eq_true rfl) dX4_dropSlots_1 rfl rfl) <| z_cons (ok_iload_n dX4_dropSlots_2 rfl rfl) <| z_cons (ok_bipush (by decide) dX4_dropSlots_3 rfl rfl) <| z_cons (ok_icmp_ge (tgt := 33) (by decide) rfl dX4_dropSlots_5 rfl rfl) <| z_cons (ok_iload_n dX4_dropSlots_8 rfl rfl) <| z_cons (ok_iload_n dX4_dropSlots_9 rfl rfl) <| z_cons (ok_ishr dX4_dropSlots_10 rfl rfl) <| z_cons (ok_iconst (by decide) dX4_dropSlots_11 rfl rfl) <| z_cons (ok_iand dX4_dropSlots_12 rfl rfl) <| z_cons (ok_iconst (by decide) dX4_dropSlots_13 rfl rfl) <| z_cons (ok_icmp_ne (tgt := 27) (by decide) rfl dX4_dropSlots_14 rfl rfl) <| z_cons (ok_aload_n dX4_dropSlots_17 rfl rfl) <| z_cons (ok_getr (k := 1) ⟨by decide, by decide, by decide⟩ (ci := 6) (T := TX8) rfl rfl (Nat.le_of_ble_eq_true rfl) iw_X8 qw_140 gr_9_1 (fun _ _ => by simp) (fun w i => List.mem_of_getElem? (i := 1) rfl) dX4_dropSlots_18 rfl rfl) <| z_cons (ok_iload_n dX4_dropSlots_21 rfl rfl) <| z_cons (ok_aald dX4_dropSlots_22 rfl rfl) <| z_cons (ok_iconst (by decide) dX4_dropSlots_23 rfl rfl) <| z_cons (ok_put ⟨by decide, by decide, by decide⟩ (ci := 4) (T := TX6) rfl rfl (Nat.le_of_ble_eq_true rfl) iw_X6 qw_201 tyX6_ok nmX6 rfl pv_7_5 rfl dX4_dropSlots_24 rfl rfl) <| z_cons (ok_iinc (by decide) (Nat.le_of_ble_eq_true rfl) dX4_dropSlots_27 rfl rfl) <| z_cons (ok_goto (tgt := 2) (by decide) rfl dX4_dropSlots_30 rfl) <| z_cons (ok_ret rfl dX4_dropSlots_33 rfl) <| z_nil
theorem dX4_countDown_0 : decode cX4_countDown 0 = .ok (.iconst 0, 1) := by decide +kernel
theorem dX4_countDown_1 : decode cX4_countDown 1 = .ok (.istore_n 3, 1) := by decide +kernel
theorem dX4_countDown_2 : decode cX4_countDown 2 = .ok (.iload_n 3, 1) := by decide +kernel
theorem dX4_countDown_3 : decode cX4_countDown 3 = .ok (.bipush 24, 2) := by decide +kernel
theorem dX4_countDown_5 : decode cX4_countDown 5 = .ok (.if_icmp .ge 57, 3) := by decide +kernel
theorem dX4_countDown_8 : decode cX4_countDown 8 = .ok (.aload_n 0, 1) := by decide +kernel
theorem dX4_countDown_9 : decode cX4_countDown 9 = .ok (.getfield 29, 3) := by decide +kernel
theorem dX4_countDown_12 : decode cX4_countDown 12 = .ok (.iload_n 3, 1) := by decide +kernel
theorem dX4_countDown_13 : decode cX4_countDown 13 = .ok (.aaload, 1) := by decide +kernel
theorem dX4_countDown_14 : decode cX4_countDown 14 = .ok (.getfield 33, 3) := by decide +kernel
theorem dX4_countDown_17 : decode cX4_countDown 17 = .ok (.iload_n 1, 1) := by decide +kernel
theorem dX4_countDown_18 : decode cX4_countDown 18 = .ok (.if_icmp .ne 38, 3) := by decide +kernel
theorem dX4_countDown_21 : decode cX4_countDown 21 = .ok (.aload_n 0, 1) := by decide +kernel
theorem dX4_countDown_22 : decode cX4_countDown 22 = .ok (.getfield 29, 3) := by decide +kernel
theorem dX4_countDown_25 : decode cX4_countDown 25 = .ok (.iload_n 3, 1) := by decide +kernel
theorem dX4_countDown_26 : decode cX4_countDown 26 = .ok (.aaload, 1) := by decide +kernel
theorem dX4_countDown_27 : decode cX4_countDown 27 = .ok (.getfield 139, 3) := by decide +kernel
theorem dX4_countDown_30 : decode cX4_countDown 30 = .ok (.ifCond .le 26, 3) := by decide +kernel
theorem dX4_countDown_33 : decode cX4_countDown 33 = .ok (.iload_n 2, 1) := by decide +kernel
theorem dX4_countDown_34 : decode cX4_countDown 34 = .ok (.iload_n 3, 1) := by decide +kernel
theorem dX4_countDown_35 : decode cX4_countDown 35 = .ok (.ishr, 1) := by decide +kernel
theorem dX4_countDown_36 : decode cX4_countDown 36 = .ok (.iconst 1, 1) := by decide +kernel
theorem dX4_countDown_37 : decode cX4_countDown 37 = .ok (.iand, 1) := by decide +kernel
theorem dX4_countDown_38 : decode cX4_countDown 38 = .ok (.ifCond .ne 18, 3) := by decide +kernel
theorem dX4_countDown_41 : decode cX4_countDown 41 = .ok (.aload_n 0, 1) := by decide +kernel
theorem dX4_countDown_42 : decode cX4_countDown 42 = .ok (.getfield 29, 3) := by decide +kernel
theorem dX4_countDown_45 : decode cX4_countDown 45 = .ok (.iload_n 3, 1) := by decide +kernel
theorem dX4_countDown_46 : decode cX4_countDown 46 = .ok (.aaload, 1) := by decide +kernel
theorem dX4_countDown_47 : decode cX4_countDown 47 = .ok (.dup, 1) := by decide +kernel
theorem dX4_countDown_48 : decode cX4_countDown 48 = .ok (.getfield 139, 3) := by decide +kernel
theorem dX4_countDown_51 : decode cX4_countDown 51 = .ok (.iconst 1, 1) := by decide +kernel
theorem dX4_countDown_52 : decode cX4_countDown 52 = .ok (.isub, 1) := by decide +kernel
theorem dX4_countDown_53 : decode cX4_countDown 53 = .ok (.putfield 139, 3) := by decide +kernel
theorem dX4_countDown_56 : decode cX4_countDown 56 = .ok (.iinc 3 1, 3) := by decide +kernel
theorem dX4_countDown_59 : decode cX4_countDown 59 = .ok (.goto (-57), 3) := by decide +kernel
theorem dX4_countDown_62 : decode cX4_countDown 62 = .ok (.return_, 1) := by decide +kernel
set_option maxRecDepth 20000 in
theorem zl_X4_countDown_0 : z_All z_tab cX4_countDown 4 none RX4 pc_X4_countDown 0 (k_X4_countDown.drop 0) := z_cons (ok_iconst (by decide) dX4_countDown_0 rfl rfl) <| z_cons (ok_istore_n (Nat.le_of_ble_eq_true rfl) dX4_countDown_1 rfl rfl) <| z_cons (ok_iload_n dX4_countDown_2 rfl rfl) <| z_cons (ok_bipush (by decide) dX4_countDown_3 rfl rfl) <| z_cons (ok_icmp_ge (tgt := 62) (by decide) rfl dX4_countDown_5 rfl rfl) <| z_cons (ok_aload_n dX4_countDown_8 rfl rfl) <| z_cons (ok_getr (k := 1) ⟨by decide, by decide, by decide⟩ (ci := 6) (T := TX8) rfl rfl (Nat.le_of_ble_eq_true rfl) iw_X8 qw_140 gr_9_1 (fun _ _ => by simp) (fun w i => List.mem_of_getElem? (i := 1) rfl) dX4_countDown_9 rfl rfl) <| z_cons (ok_iload_n dX4_countDown_12 rfl rfl) <| z_cons (ok_aald dX4_countDown_13 rfl rfl) <| z_cons (ok_get ⟨by decide, by decide, by decide⟩ (ci := 4) (T := TX6) rfl rfl (Nat.le_of_ble_eq_true rfl) iw_X6 qw_141 gv_7_4 dX4_countDown_14 rfl rfl) <| z_cons (ok_iload_n dX4_countDown_17 rfl rfl) <| z_cons (ok_icmp_ne (tgt := 56) (by decide) rfl dX4_countDown_18 rfl rfl) <| z_cons (ok_aload_n dX4_countDown_21 rfl rfl) <| z_cons (ok_getr (k := 1) ⟨by decide, by decide, by decide⟩ (ci := 6) (T := TX8) rfl rfl (Nat.le_of_ble_eq_true rfl) iw_X8 qw_140 gr_9_1 (fun _ _ => by simp) (fun w i => List.mem_of_getElem? (i := 1) rfl) dX4_countDown_22 rfl rfl) <| z_cons (ok_iload_n dX4_countDown_25 rfl rfl) <| z_cons (ok_aald dX4_countDown_26 rfl rfl) <| z_cons (ok_get ⟨by decide, by decide, by decide⟩ (ci := 4) (T := TX6) rfl rfl (Nat.le_of_ble_eq_true rfl) iw_X6 qw_201 gv_7_5 dX4_countDown_27 rfl rfl) <| z_cons (ok_if_le (tgt := 56) (by decide) rfl dX4_countDown_30 rfl rfl) <| z_cons (ok_iload_n dX4_countDown_33 rfl rfl) <| z_cons (ok_iload_n dX4_countDown_34 rfl rfl) <| z_cons (ok_ishr dX4_countDown_35 rfl rfl) <| z_cons (ok_iconst (by decide) dX4_countDown_36 rfl rfl) <| z_cons (ok_iand dX4_countDown_37 rfl rfl) <| z_cons (ok_if_ne (tgt := 56) (by decide) rfl dX4_countDown_38 rfl rfl) <| z_cons (ok_aload_n dX4_countDown_41 rfl rfl) <| z_cons (ok_getr (k := 1) ⟨by decide, by decide, by decide⟩ (ci := 6) (T := TX8) rfl rfl (Nat.le_of_ble_eq_true rfl) iw_X8 qw_140 gr_9_1 (fun _ _ => by simp) (fun w i => List.mem_of_getElem? (i := 1) rfl) dX4_countDown_42 rfl rfl) <| z_cons (ok_iload_n dX4_countDown_45 rfl rfl) <| z_cons (ok_aald dX4_countDown_46 rfl rfl) <| z_cons (ok_dup dX4_countDown_47 rfl rfl) <| z_cons (ok_get ⟨by decide, by decide, by decide⟩ (ci := 4) (T := TX6) rfl rfl (Nat.le_of_ble_eq_true rfl) iw_X6 qw_201 gv_7_5 dX4_countDown_48 rfl rfl) <| z_cons (ok_iconst (by decide) dX4_countDown_51 rfl rfl) <| z_cons (ok_isub dX4_countDown_52 rfl rfl) <| z_cons (ok_put ⟨by decide, by decide, by decide⟩ (ci := 4) (T := TX6) rfl rfl (Nat.le_of_ble_eq_true rfl) iw_X6 qw_201 tyX6_ok nmX6 rfl pv_7_5 rfl dX4_countDown_53 rfl rfl) <| z_cons (ok_iinc (by decide) (Nat.le_of_ble_eq_true rfl) dX4_countDown_56 rfl rfl) <| z_cons (ok_goto (tgt := 2) (by decide) rfl dX4_countDown_59 rfl) <| z_cons (ok_ret rfl dX4_countDown_62 rfl) <| z_nil
theorem dX4_afterQuery_0 : decode cX4_afterQuery 0 = .ok (.iload 4, 2) := by decide +kernel
theorem dX4_afterQuery_2 : decode cX4_afterQuery 2 = .ok (.iconst 1, 1) := by decide +kernel
theorem dX4_afterQuery_3 : decode cX4_afterQuery 3 = .ok (.if_icmp .le 39, 3) := by decide +kernel
theorem dX4_afterQuery_6 : decode cX4_afterQuery 6 = .ok (.iload_n 3, 1) := by decide +kernel
theorem dX4_afterQuery_7 : decode cX4_afterQuery 7 = .ok (.invokestatic 246, 3) := by decide +kernel
theorem dX4_afterQuery_10 : decode cX4_afterQuery 10 = .ok (.bipush 16, 2) := by decide +kernel
theorem dX4_afterQuery_12 : decode cX4_afterQuery 12 = .ok (.if_icmp .ge 30, 3) := by decide +kernel
theorem dX4_afterQuery_15 : decode cX4_afterQuery 15 = .ok (.aload_n 2, 1) := by decide +kernel
theorem dX4_afterQuery_16 : decode cX4_afterQuery 16 = .ok (.getfield 62, 3) := by decide +kernel
theorem dX4_afterQuery_19 : decode cX4_afterQuery 19 = .ok (.iload_n 3, 1) := by decide +kernel
theorem dX4_afterQuery_20 : decode cX4_afterQuery 20 = .ok (.iconst 1, 1) := by decide +kernel
theorem dX4_afterQuery_21 : decode cX4_afterQuery 21 = .ok (.invokestatic 249, 3) := by decide +kernel
theorem dX4_afterQuery_24 : decode cX4_afterQuery 24 = .ok (.invokevirtual 75, 3) := by decide +kernel
theorem dX4_afterQuery_27 : decode cX4_afterQuery 27 = .ok (.aload_n 2, 1) := by decide +kernel
theorem dX4_afterQuery_28 : decode cX4_afterQuery 28 = .ok (.getfield 62, 3) := by decide +kernel
theorem dX4_afterQuery_31 : decode cX4_afterQuery 31 = .ok (.iload_n 3, 1) := by decide +kernel
theorem dX4_afterQuery_32 : decode cX4_afterQuery 32 = .ok (.iconst 0, 1) := by decide +kernel
theorem dX4_afterQuery_33 : decode cX4_afterQuery 33 = .ok (.invokestatic 249, 3) := by decide +kernel
theorem dX4_afterQuery_36 : decode cX4_afterQuery 36 = .ok (.invokevirtual 75, 3) := by decide +kernel
theorem dX4_afterQuery_39 : decode cX4_afterQuery 39 = .ok (.goto 23, 3) := by decide +kernel
theorem dX4_afterQuery_42 : decode cX4_afterQuery 42 = .ok (.aload_n 2, 1) := by decide +kernel
theorem dX4_afterQuery_43 : decode cX4_afterQuery 43 = .ok (.getfield 252, 3) := by decide +kernel
theorem dX4_afterQuery_46 : decode cX4_afterQuery 46 = .ok (.iload 4, 2) := by decide +kernel
theorem dX4_afterQuery_48 : decode cX4_afterQuery 48 = .ok (.ifCond .ne 10, 3) := by decide +kernel
theorem dX4_afterQuery_51 : decode cX4_afterQuery 51 = .ok (.iload_n 3, 1) := by decide +kernel
theorem dX4_afterQuery_52 : decode cX4_afterQuery 52 = .ok (.ldc 255, 2) := by decide +kernel
theorem dX4_afterQuery_54 : decode cX4_afterQuery 54 = .ok (.ior, 1) := by decide +kernel
theorem dX4_afterQuery_55 : decode cX4_afterQuery 55 = .ok (.goto 4, 3) := by decide +kernel
theorem dX4_afterQuery_58 : decode cX4_afterQuery 58 = .ok (.iload_n 3, 1) := by decide +kernel
theorem dX4_afterQuery_59 : decode cX4_afterQuery 59 = .ok (.invokevirtual 75, 3) := by decide +kernel
theorem dX4_afterQuery_62 : decode cX4_afterQuery 62 = .ok (.aload_n 2, 1) := by decide +kernel
theorem dX4_afterQuery_63 : decode cX4_afterQuery 63 = .ok (.getfield 62, 3) := by decide +kernel
theorem dX4_afterQuery_66 : decode cX4_afterQuery 66 = .ok (.getfield 256, 3) := by decide +kernel
theorem dX4_afterQuery_69 : decode cX4_afterQuery 69 = .ok (.ifCond .ne 20, 3) := by decide +kernel
theorem dX4_afterQuery_72 : decode cX4_afterQuery 72 = .ok (.aload_n 2, 1) := by decide +kernel
theorem dX4_afterQuery_73 : decode cX4_afterQuery 73 = .ok (.getfield 66, 3) := by decide +kernel
theorem dX4_afterQuery_76 : decode cX4_afterQuery 76 = .ok (.aload_n 2, 1) := by decide +kernel
theorem dX4_afterQuery_77 : decode cX4_afterQuery 77 = .ok (.getfield 252, 3) := by decide +kernel
theorem dX4_afterQuery_80 : decode cX4_afterQuery 80 = .ok (.invokevirtual 259, 3) := by decide +kernel
theorem dX4_afterQuery_83 : decode cX4_afterQuery 83 = .ok (.aload_n 0, 1) := by decide +kernel
theorem dX4_afterQuery_84 : decode cX4_afterQuery 84 = .ok (.iload_n 1, 1) := by decide +kernel
theorem dX4_afterQuery_85 : decode cX4_afterQuery 85 = .ok (.aload_n 2, 1) := by decide +kernel
theorem dX4_afterQuery_86 : decode cX4_afterQuery 86 = .ok (.invokestatic 208, 3) := by decide +kernel
theorem dX4_afterQuery_89 : decode cX4_afterQuery 89 = .ok (.return_, 1) := by decide +kernel
set_option maxRecDepth 20000 in
theorem zl_X4_afterQuery_1 : z_All z_tab cX4_afterQuery 5 none RX4 pc_X4_afterQuery 40 (k_X4_afterQuery.drop 40) := z_cons (ok_iload_n dX4_afterQuery_84 rfl rfl) <| z_cons (ok_aload_n dX4_afterQuery_85 rfl rfl) <| z_cons (ok_callS (k := 54) (n := 3) qw_262 qw_156 ⟨by decide +kernel, by decide +kernel, by decide +kernel⟩ (Nat.le_of_ble_eq_true rfl) qw_264 qw_263 dX4_afterQuery_86 rfl rfl) <| z_cons (ok_ret rfl dX4_afterQuery_89 rfl) <| z_nil
set_option maxRecDepth 20000 in
theorem zl_X4_afterQuery_0 : z_All z_tab cX4_afterQuery 5 none RX4 pc_X4_afterQuery 0 (k_X4_afterQuery.drop 0) := z_cons (ok_iload dX4_afterQuery_0 rfl rfl) <| z_cons (ok_iconst (by decide) dX4_afterQuery_2 rfl rfl) <| z_cons (ok_icmp_le (tgt := 42) (by decide) rfl dX4_afterQuery_3 rfl rfl) <| z_cons (ok_iload_n dX4_afterQuery_6 rfl rfl) <| z_cons (ok_callS (k := 15) (n := 1) qw_41 qw_42 ⟨by decide +kernel, by decide +kernel, by decide +kernel⟩ (Nat.le_of_ble_eq_true rfl) qw_284 qw_43 dX4_afterQuery_7 rfl rfl) <| z_cons (ok_bipush (by decide) dX4_afterQuery_10 rfl rfl) <| z_cons (ok_icmp_ge (tgt := 42) (by decide) rfl dX4_afterQuery_12 rfl rfl) <| z_cons (ok_aload_n dX4_afterQuery_15 rfl rfl) <| z_cons (ok_getr (k := 15) ⟨by decide, by decide, by decide⟩ (ci := 3) (T := TX3) rfl rfl (Nat.le_of_ble_eq_true rfl) iw_X3 qw_159 gr_4_15 (fun _ _ => by simp) (fun w i => List.mem_of_getElem? (i := 3) rfl) dX4_afterQuery_16 rfl rfl) <| z_cons (ok_iload_n dX4_afterQuery_19 rfl rfl) <| z_cons (ok_iconst (by decide) dX4_afterQuery_20 rfl rfl) <| z_cons (ok_callS (k := 17) (n := 2) qw_285 qw_42 ⟨by decide +kernel, by decide +kernel, by decide +kernel⟩ (Nat.le_of_ble_eq_true rfl) qw_287 qw_286 dX4_afterQuery_21 rfl rfl) <| z_cons (ok_callv ⟨by decide, by decide, by decide⟩ (ci := 2) (C := RX2) (T := TX2) rfl go_3 (k := 20) (n := 1) qw_60 qw_42 ⟨by decide +kernel, by decide +kernel, by decide +kernel⟩ (Nat.le_of_ble_eq_true rfl) qw_165 qw_62 qw_63 dX4_afterQuery_24 rfl rfl) <| z_cons (ok_aload_n dX4_afterQuery_27 rfl rfl) <| z_cons (ok_getr (k := 15) ⟨by decide, by decide, by decide⟩ (ci := 3) (T := TX3) rfl rfl (Nat.le_of_ble_eq_true rfl) iw_X3 qw_159 gr_4_15 (fun _ _ => by simp) (fun w i => List.mem_of_getElem? (i := 3) rfl) dX4_afterQuery_28 rfl rfl) <| z_cons (ok_iload_n dX4_afterQuery_31 rfl rfl) <| z_cons (ok_iconst (by decide) dX4_afterQuery_32 rfl rfl) <| z_cons (ok_callS (k := 17) (n := 2) qw_285 qw_42 ⟨by decide +kernel, by decide +kernel, by decide +kernel⟩ (Nat.le_of_ble_eq_true rfl) qw_287 qw_286 dX4_afterQuery_33 rfl rfl) <| z_cons (ok_callv ⟨by decide, by decide, by decide⟩ (ci := 2) (C := RX2) (T := TX2) rfl go_3 (k := 20) (n := 1) qw_60 qw_42 ⟨by decide +kernel, by decide +kernel, by decide +kernel⟩ (Nat.le_of_ble_eq_true rfl) qw_165 qw_62 qw_63 dX4_afterQuery_36 rfl rfl) <| z_cons (ok_goto (tgt := 62) (by decide) rfl dX4_afterQuery_39 rfl) <| z_cons (ok_aload_n dX4_afterQuery_42 rfl rfl) <| z_cons (ok_getr (k := 16) ⟨by decide, by decide, by decide⟩ (ci := 3) (T := TX3) rfl rfl (Nat.le_of_ble_eq_true rfl) iw_X3 qw_288 gr_4_16 (fun _ _ => by simp) (fun w i => List.mem_of_getElem? (i := 4) rfl) dX4_afterQuery_43 rfl rfl) <| z_cons (ok_iload dX4_afterQuery_46 rfl rfl) <| z_cons (ok_if_ne (tgt := 58) (by decide) rfl dX4_afterQuery_48 rfl rfl) <| z_cons (ok_iload_n dX4_afterQuery_51 rfl rfl) <| z_cons (ok_ldc qw_289 dX4_afterQuery_52 rfl rfl) <| z_cons (ok_ior dX4_afterQuery_54 rfl rfl) <| z_cons (ok_goto (tgt := 59) (by decide) rfl dX4_afterQuery_55 rfl) <| z_cons (ok_iload_n dX4_afterQuery_58 rfl rfl) <| z_cons (ok_callv ⟨by decide, by decide, by decide⟩ (ci := 2) (C := RX2) (T := TX2) rfl go_3 (k := 20) (n := 1) qw_60 qw_42 ⟨by decide +kernel, by decide +kernel, by decide +kernel⟩ (Nat.le_of_ble_eq_true rfl) qw_165 qw_62 qw_63 dX4_afterQuery_59 rfl rfl) <| z_cons (ok_aload_n dX4_afterQuery_62 rfl rfl) <| z_cons (ok_getr (k := 15) ⟨by decide, by decide, by decide⟩ (ci := 3) (T := TX3) rfl rfl (Nat.le_of_ble_eq_true rfl) iw_X3 qw_159 gr_4_15 (fun _ _ => by simp) (fun w i => List.mem_of_getElem? (i := 3) rfl) dX4_afterQuery_63 rfl rfl) <| z_cons (ok_get ⟨by decide, by decide, by decide⟩ (ci := 2) (T := TX2) rfl rfl (Nat.le_of_ble_eq_true rfl) iw_X2 qw_290 gv_3_1 dX4_afterQuery_66 rfl rfl) <| z_cons (ok_if_ne (tgt := 89) (by decide) rfl dX4_afterQuery_69 rfl rfl) <| z_cons (ok_aload_n dX4_afterQuery_72 rfl rfl) <| z_cons (ok_getr (k := 17) ⟨by decide, by decide, by decide⟩ (ci := 3) (T := TX3) rfl rfl (Nat.le_of_ble_eq_true rfl) iw_X3 qw_160 gr_4_17 (fun _ _ => by simp) (fun w i => List.mem_of_getElem? (i := 5) rfl) dX4_afterQuery_73 rfl rfl) <| z_cons (ok_aload_n dX4_afterQuery_76 rfl rfl) <| z_cons (ok_getr (k := 16) ⟨by decide, by decide, by decide⟩ (ci := 3) (T := TX3) rfl rfl (Nat.le_of_ble_eq_true rfl) iw_X3 qw_288 gr_4_16 (fun _ _ => by simp) (fun w i => List.mem_of_getElem? (i := 4) rfl) dX4_afterQuery_77 rfl rfl) <| z_cons (ok_callv ⟨by decide, by decide, by decide⟩ (ci := 2) (C := RX2) (T := TX2) rfl go_3 (k := 25) (n := 1) qw_291 qw_42 ⟨by decide +kernel, by decide +kernel, by decide +kernel⟩ (Nat.le_of_ble_eq_true rfl) qw_292 qw_293 qw_294 dX4_afterQuery_80 rfl rfl) <| z_cons (ok_aload_n dX4_afterQuery_83 rfl rfl) <| zl_X4_afterQuery_1
theorem dX4_finish_0 : decode cX4_finish 0 = .ok (.aload_n 0, 1) := by decide +kernel
theorem dX4_finish_1 : decode cX4_finish 1 = .ok (.iload_n 1, 1) := by decide +kernel
theorem dX4_finish_2 : decode cX4_finish 2 = .ok (.invokevirtual 201, 3) := by decide +kernel
theorem dX4_finish_5 : decode cX4_finish 5 = .ok (.invokestatic 39, 3) := by decide +kernel
theorem dX4_finish_8 : decode cX4_finish 8 = .ok (.istore_n 3, 1) := by decide +kernel
theorem dX4_finish_9 : decode cX4_finish 9 = .ok (.aload_n 2, 1) := by decide +kernel
theorem dX4_finish_10 : decode cX4_finish 10 = .ok (.iload_n 3, 1) := by decide +kernel
theorem dX4_finish_11 : decode cX4_finish 11 = .ok (.putfield 262, 3) := by decide +kernel
theorem dX4_finish_14 : decode cX4_finish 14 = .ok (.aload_n 0, 1) := by decide +kernel
theorem dX4_finish_15 : decode cX4_finish 15 = .ok (.getfield 90, 3) := by decide +kernel
theorem dX4_finish_18 : decode cX4_finish 18 = .ok (.bipush 12, 2) := by decide +kernel
theorem dX4_finish_20 : decode cX4_finish 20 = .ok (.dup2, 1) := by decide +kernel
theorem dX4_finish_21 : decode cX4_finish 21 = .ok (.iaload, 1) := by decide +kernel
theorem dX4_finish_22 : decode cX4_finish 22 = .ok (.iload_n 3, 1) := by decide +kernel
theorem dX4_finish_23 : decode cX4_finish 23 = .ok (.iadd, 1) := by decide +kernel
theorem dX4_finish_24 : decode cX4_finish 24 = .ok (.iastore, 1) := by decide +kernel
theorem dX4_finish_25 : decode cX4_finish 25 = .ok (.aload_n 0, 1) := by decide +kernel
theorem dX4_finish_26 : decode cX4_finish 26 = .ok (.iload_n 1, 1) := by decide +kernel
theorem dX4_finish_27 : decode cX4_finish 27 = .ok (.invokestatic 83, 3) := by decide +kernel
theorem dX4_finish_30 : decode cX4_finish 30 = .ok (.aload_n 2, 1) := by decide +kernel
theorem dX4_finish_31 : decode cX4_finish 31 = .ok (.invokevirtual 87, 3) := by decide +kernel
theorem dX4_finish_34 : decode cX4_finish 34 = .ok (.aload_n 0, 1) := by decide +kernel
theorem dX4_finish_35 : decode cX4_finish 35 = .ok (.getfield 90, 3) := by decide +kernel
theorem dX4_finish_38 : decode cX4_finish 38 = .ok (.iconst 5, 1) := by decide +kernel
theorem dX4_finish_39 : decode cX4_finish 39 = .ok (.dup2, 1) := by decide +kernel
theorem dX4_finish_40 : decode cX4_finish 40 = .ok (.iaload, 1) := by decide +kernel
theorem dX4_finish_41 : decode cX4_finish 41 = .ok (.iconst 1, 1) := by decide +kernel
theorem dX4_finish_42 : decode cX4_finish 42 = .ok (.iadd, 1) := by decide +kernel
theorem dX4_finish_43 : decode cX4_finish 43 = .ok (.iastore, 1) := by decide +kernel
theorem dX4_finish_44 : decode cX4_finish 44 = .ok (.aload_n 0, 1) := by decide +kernel
theorem dX4_finish_45 : decode cX4_finish 45 = .ok (.iload_n 1, 1) := by decide +kernel
theorem dX4_finish_46 : decode cX4_finish 46 = .ok (.iconst 4, 1) := by decide +kernel
theorem dX4_finish_47 : decode cX4_finish 47 = .ok (.aload_n 2, 1) := by decide +kernel
theorem dX4_finish_48 : decode cX4_finish 48 = .ok (.getfield 94, 3) := by decide +kernel
theorem dX4_finish_51 : decode cX4_finish 51 = .ok (.getfield 98, 3) := by decide +kernel
theorem dX4_finish_54 : decode cX4_finish 54 = .ok (.invokevirtual 45, 3) := by decide +kernel
theorem dX4_finish_57 : decode cX4_finish 57 = .ok (.return_, 1) := by decide +kernel
set_option maxRecDepth 20000 in
theorem zl_X4_finish_0 : z_All z_tab cX4_finish 4 none RX4 pc_X4_finish 0 (k_X4_finish.drop 0) := z_cons (ok_aload_n dX4_finish_0 rfl rfl) <| z_cons (ok_iload_n dX4_finish_1 rfl rfl) <| z_cons (ok_callv ⟨by decide, by decide, by decide⟩ (ci := 6) (C := RX8) (T := TX8) rfl go_9 (k := 112) (n := 1) qw_255 qw_124 ⟨by decide +kernel, by decide +kernel, by decide +kernel⟩ (Nat.le_of_ble_eq_true rfl) qw_256 qw_257 qw_258 dX4_finish_2 rfl rfl) <| z_cons (ok_callS (k := 274) (n := 1) qw_25 qw_26 ⟨by decide +kernel, by decide +kernel, by decide +kernel⟩ (Nat.le_of_ble_eq_true rfl) qw_142 qw_27 dX4_finish_5 rfl rfl) <| z_cons (ok_istore_n (Nat.le_of_ble_eq_true rfl) dX4_finish_8 rfl rfl) <| z_cons (ok_aload_n dX4_finish_9 rfl rfl) <| z_cons (ok_iload_n dX4_finish_10 rfl rfl) <| z_cons (ok_put ⟨by decide, by decide, by decide⟩ (ci := 3) (T := TX3) rfl rfl (Nat.le_of_ble_eq_true rfl) iw_X3 qw_295 tyX3_ok nmX3 rfl pv_4_11 rfl dX4_finish_11 rfl rfl) <| z_cons (ok_aload_n dX4_finish_14 rfl rfl) <| z_cons (ok_getr (k := 4) ⟨by decide, by decide, by decide⟩ (ci := 6) (T := TX8) rfl rfl (Nat.le_of_ble_eq_true rfl) iw_X8 qw_174 gr_9_4 (fun _ _ => by simp) (fun w i => List.mem_of_getElem? (i := 4) rfl) dX4_finish_15 rfl rfl) <| z_cons (ok_bipush (by decide) dX4_finish_18 rfl rfl) <| z_cons (ok_dup2 dX4_finish_20 rfl rfl) <| z_cons (ok_iald dX4_finish_21 rfl rfl) <| z_cons (ok_iload_n dX4_finish_22 rfl rfl) <| z_cons (ok_iadd dX4_finish_23 rfl rfl) <| z_cons (ok_iast dX4_finish_24 rfl rfl) <| z_cons (ok_aload_n dX4_finish_25 rfl rfl) <| z_cons (ok_iload_n dX4_finish_26 rfl rfl) <| z_cons (ok_callS (k := 55) (n := 2) qw_167 qw_156 ⟨by decide +kernel, by decide +kernel, by decide +kernel⟩ (Nat.le_of_ble_eq_true rfl) qw_169 qw_168 dX4_finish_27 rfl rfl) <| z_cons (ok_aload_n dX4_finish_30 rfl rfl) <| z_cons (ok_callv ⟨by decide, by decide, by decide⟩ (ci := 3) (C := RX3) (T := TX3) rfl go_4 (k := 33) (n := 0) qw_170 qw_103 ⟨by decide +kernel, by decide +kernel, by decide +kernel⟩ (Nat.le_of_ble_eq_true rfl) qw_171 qw_172 qw_173 dX4_finish_31 rfl rfl) <| z_cons (ok_aload_n dX4_finish_34 rfl rfl) <| z_cons (ok_getr (k := 4) ⟨by decide, by decide, by decide⟩ (ci := 6) (T := TX8) rfl rfl (Nat.le_of_ble_eq_true rfl) iw_X8 qw_174 gr_9_4 (fun _ _ => by simp) (fun w i => List.mem_of_getElem? (i := 4) rfl) dX4_finish_35 rfl rfl) <| z_cons (ok_iconst (by decide) dX4_finish_38 rfl rfl) <| z_cons (ok_dup2 dX4_finish_39 rfl rfl) <| z_cons (ok_iald dX4_finish_40 rfl rfl) <| z_cons (ok_iconst (by decide) dX4_finish_41 rfl rfl) <| z_cons (ok_iadd dX4_finish_42 rfl rfl) <| z_cons (ok_iast dX4_finish_43 rfl rfl) <| z_cons (ok_aload_n dX4_finish_44 rfl rfl) <| z_cons (ok_iload_n dX4_finish_45 rfl rfl) <| z_cons (ok_iconst (by decide) dX4_finish_46 rfl rfl) <| z_cons (ok_aload_n dX4_finish_47 rfl rfl) <| z_cons (ok_getr (k := 12) ⟨by decide, by decide, by decide⟩ (ci := 3) (T := TX3) rfl rfl (Nat.le_of_ble_eq_true rfl) iw_X3 qw_175 gr_4_12 (fun _ _ => by simp) (fun w i => List.mem_of_getElem? (i := 0) rfl) dX4_finish_48 rfl rfl) <| z_cons (ok_get ⟨by decide, by decide, by decide⟩ (ci := 5) (T := TX7) rfl rfl (Nat.le_of_ble_eq_true rfl) iw_X7 qw_176 gv_8_1 dX4_finish_51 rfl rfl) <| z_cons (ok_callv ⟨by decide, by decide, by decide⟩ (ci := 6) (C := RX8) (T := TX8) rfl go_9 (k := 93) (n := 3) qw_143 qw_124 ⟨by decide +kernel, by decide +kernel, by decide +kernel⟩ (Nat.le_of_ble_eq_true rfl) qw_144 qw_145 qw_146 dX4_finish_54 rfl rfl) <| z_cons (ok_ret rfl dX4_finish_57 rfl) <| z_nil
theorem dX4_releaseAll_0 : decode cX4_releaseAll 0 = .ok (.iconst 0, 1) := by decide +kernel
theorem dX4_releaseAll_1 : decode cX4_releaseAll 1 = .ok (.istore_n 2, 1) := by decide +kernel
theorem dX4_releaseAll_2 : decode cX4_releaseAll 2 = .ok (.iload_n 2, 1) := by decide +kernel
theorem dX4_releaseAll_3 : decode cX4_releaseAll 3 = .ok (.bipush 24, 2) := by decide +kernel
theorem dX4_releaseAll_5 : decode cX4_releaseAll 5 = .ok (.if_icmp .ge 31, 3) := by decide +kernel
theorem dX4_releaseAll_8 : decode cX4_releaseAll 8 = .ok (.aload_n 0, 1) := by decide +kernel
theorem dX4_releaseAll_9 : decode cX4_releaseAll 9 = .ok (.getfield 29, 3) := by decide +kernel
theorem dX4_releaseAll_12 : decode cX4_releaseAll 12 = .ok (.iload_n 2, 1) := by decide +kernel
theorem dX4_releaseAll_13 : decode cX4_releaseAll 13 = .ok (.aaload, 1) := by decide +kernel
theorem dX4_releaseAll_14 : decode cX4_releaseAll 14 = .ok (.getfield 33, 3) := by decide +kernel
theorem dX4_releaseAll_17 : decode cX4_releaseAll 17 = .ok (.iload_n 1, 1) := by decide +kernel
theorem dX4_releaseAll_18 : decode cX4_releaseAll 18 = .ok (.if_icmp .ne 12, 3) := by decide +kernel
theorem dX4_releaseAll_21 : decode cX4_releaseAll 21 = .ok (.aload_n 0, 1) := by decide +kernel
theorem dX4_releaseAll_22 : decode cX4_releaseAll 22 = .ok (.getfield 29, 3) := by decide +kernel
theorem dX4_releaseAll_25 : decode cX4_releaseAll 25 = .ok (.iload_n 2, 1) := by decide +kernel
theorem dX4_releaseAll_26 : decode cX4_releaseAll 26 = .ok (.aaload, 1) := by decide +kernel
theorem dX4_releaseAll_27 : decode cX4_releaseAll 27 = .ok (.invokevirtual 178, 3) := by decide +kernel
theorem dX4_releaseAll_30 : decode cX4_releaseAll 30 = .ok (.iinc 2 1, 3) := by decide +kernel
theorem dX4_releaseAll_33 : decode cX4_releaseAll 33 = .ok (.goto (-31), 3) := by decide +kernel
theorem dX4_releaseAll_36 : decode cX4_releaseAll 36 = .ok (.return_, 1) := by decide +kernel
set_option maxRecDepth 20000 in
theorem zl_X4_releaseAll_0 : z_All z_tab cX4_releaseAll 3 none RX4 pc_X4_releaseAll 0 (k_X4_releaseAll.drop 0) := z_cons (ok_iconst (by decide) dX4_releaseAll_0 rfl rfl) <| z_cons (ok_istore_n (Nat.le_of_ble_eq_true rfl) dX4_releaseAll_1 rfl rfl) <| z_cons (ok_iload_n dX4_releaseAll_2 rfl rfl) <| z_cons (ok_bipush (by decide) dX4_releaseAll_3 rfl rfl) <| z_cons (ok_icmp_ge (tgt := 36) (by decide) rfl dX4_releaseAll_5 rfl rfl) <| z_cons (ok_aload_n dX4_releaseAll_8 rfl rfl) <| z_cons (ok_getr (k := 1) ⟨by decide, by decide, by decide⟩ (ci := 6) (T := TX8) rfl rfl (Nat.le_of_ble_eq_true rfl) iw_X8 qw_140 gr_9_1 (fun _ _ => by simp) (fun w i => List.mem_of_getElem? (i := 1) rfl) dX4_releaseAll_9 rfl rfl) <| z_cons (ok_iload_n dX4_releaseAll_12 rfl rfl) <| z_cons (ok_aald dX4_releaseAll_13 rfl rfl) <| z_cons (ok_get ⟨by decide, by decide, by decide⟩ (ci := 4) (T := TX6) rfl rfl (Nat.le_of_ble_eq_true rfl) iw_X6 qw_141 gv_7_4 dX4_releaseAll_14 rfl rfl) <| z_cons (ok_iload_n dX4_releaseAll_17 rfl rfl) <| z_cons (ok_icmp_ne (tgt := 30) (by decide) rfl dX4_releaseAll_18 rfl rfl) <| z_cons (ok_aload_n dX4_releaseAll_21 rfl rfl) <| z_cons (ok_getr (k := 1) ⟨by decide, by decide, by decide⟩ (ci := 6) (T := TX8) rfl rfl (Nat.le_of_ble_eq_true rfl) iw_X8 qw_140 gr_9_1 (fun _ _ => by simp) (fun w i => List.mem_of_getElem? (i := 1) rfl) dX4_releaseAll_22 rfl rfl) <| z_cons (ok_iload_n dX4_releaseAll_25 rfl rfl) <| z_cons (ok_aald dX4_releaseAll_26 rfl rfl) <| z_cons (ok_callv ⟨by decide, by decide, by decide⟩ (ci := 4) (C := RX6) (T := TX6) rfl go_7 (k := 78) (n := 0) qw_236 qw_203 ⟨by decide +kernel, by decide +kernel, by decide +kernel⟩ (Nat.le_of_ble_eq_true rfl) qw_237 qw_238 qw_239 dX4_releaseAll_27 rfl rfl) <| z_cons (ok_iinc (by decide) (Nat.le_of_ble_eq_true rfl) dX4_releaseAll_30 rfl rfl) <| z_cons (ok_goto (tgt := 2) (by decide) rfl dX4_releaseAll_33 rfl) <| z_cons (ok_ret rfl dX4_releaseAll_36 rfl) <| z_nil
theorem dX5_channelTold_0 : decode cX5_channelTold 0 = .ok (.iload_n 1, 1) := by decide +kernel
theorem dX5_channelTold_1 : decode cX5_channelTold 1 = .ok (.ifCond .lt 8, 3) := by decide +kernel
theorem dX5_channelTold_4 : decode cX5_channelTold 4 = .ok (.iload_n 1, 1) := by decide +kernel
theorem dX5_channelTold_5 : decode cX5_channelTold 5 = .ok (.iconst 4, 1) := by decide +kernel
theorem dX5_channelTold_6 : decode cX5_channelTold 6 = .ok (.if_icmp .le 5, 3) := by decide +kernel
theorem dX5_channelTold_9 : decode cX5_channelTold 9 = .ok (.iconst (-1), 1) := by decide +kernel
theorem dX5_channelTold_10 : decode cX5_channelTold 10 = .ok (.ireturn, 1) := by decide +kernel
theorem dX5_channelTold_11 : decode cX5_channelTold 11 = .ok (.aload_n 0, 1) := by decide +kernel
theorem dX5_channelTold_12 : decode cX5_channelTold 12 = .ok (.invokestatic 9, 3) := by decide +kernel
theorem dX5_channelTold_15 : decode cX5_channelTold 15 = .ok (.istore_n 2, 1) := by decide +kernel
theorem dX5_channelTold_16 : decode cX5_channelTold 16 = .ok (.iload_n 1, 1) := by decide +kernel
theorem dX5_channelTold_17 : decode cX5_channelTold 17 = .ok (.iconst 4, 1) := by decide +kernel
theorem dX5_channelTold_18 : decode cX5_channelTold 18 = .ok (.if_icmp .ge 11, 3) := by decide +kernel
theorem dX5_channelTold_21 : decode cX5_channelTold 21 = .ok (.iload_n 2, 1) := by decide +kernel
theorem dX5_channelTold_22 : decode cX5_channelTold 22 = .ok (.iload_n 1, 1) := by decide +kernel
theorem dX5_channelTold_23 : decode cX5_channelTold 23 = .ok (.invokestatic 15, 3) := by decide +kernel
theorem dX5_channelTold_26 : decode cX5_channelTold 26 = .ok (.goto 9, 3) := by decide +kernel
theorem dX5_channelTold_29 : decode cX5_channelTold 29 = .ok (.iload_n 2, 1) := by decide +kernel
theorem dX5_channelTold_30 : decode cX5_channelTold 30 = .ok (.invokestatic 19, 3) := by decide +kernel
theorem dX5_channelTold_33 : decode cX5_channelTold 33 = .ok (.iconst 1, 1) := by decide +kernel
theorem dX5_channelTold_34 : decode cX5_channelTold 34 = .ok (.iadd, 1) := by decide +kernel
theorem dX5_channelTold_35 : decode cX5_channelTold 35 = .ok (.ireturn, 1) := by decide +kernel
set_option maxRecDepth 20000 in
theorem zl_X5_channelTold_0 : z_All z_tab cX5_channelTold 3 (some .int) RX5 pc_X5_channelTold 0 (k_X5_channelTold.drop 0) := z_cons (ok_iload_n dX5_channelTold_0 rfl rfl) <| z_cons (ok_if_lt (tgt := 9) (by decide) rfl dX5_channelTold_1 rfl rfl) <| z_cons (ok_iload_n dX5_channelTold_4 rfl rfl) <| z_cons (ok_iconst (by decide) dX5_channelTold_5 rfl rfl) <| z_cons (ok_icmp_le (tgt := 11) (by decide) rfl dX5_channelTold_6 rfl rfl) <| z_cons (ok_iconst (by decide) dX5_channelTold_9 rfl rfl) <| z_cons (ok_iret rfl dX5_channelTold_10 rfl) <| z_cons (ok_aload_n dX5_channelTold_11 rfl rfl) <| z_cons (ok_callS (k := 57) (n := 1) qw_296 qw_297 ⟨by decide +kernel, by decide +kernel, by decide +kernel⟩ (Nat.le_of_ble_eq_true rfl) qw_299 qw_298 dX5_channelTold_12 rfl rfl) <| z_cons (ok_istore_n (Nat.le_of_ble_eq_true rfl) dX5_channelTold_15 rfl rfl) <| z_cons (ok_iload_n dX5_channelTold_16 rfl rfl) <| z_cons (ok_iconst (by decide) dX5_channelTold_17 rfl rfl) <| z_cons (ok_icmp_ge (tgt := 29) (by decide) rfl dX5_channelTold_18 rfl rfl) <| z_cons (ok_iload_n dX5_channelTold_21 rfl rfl) <| z_cons (ok_iload_n dX5_channelTold_22 rfl rfl) <| z_cons (ok_callS (k := 58) (n := 2) qw_300 qw_297 ⟨by decide +kernel, by decide +kernel, by decide +kernel⟩ (Nat.le_of_ble_eq_true rfl) qw_302 qw_301 dX5_channelTold_23 rfl rfl) <| z_cons (ok_goto (tgt := 35) (by decide) rfl dX5_channelTold_26 rfl) <| z_cons (ok_iload_n dX5_channelTold_29 rfl rfl) <| z_cons (ok_callS (k := 59) (n := 1) qw_303 qw_297 ⟨by decide +kernel, by decide +kernel, by decide +kernel⟩ (Nat.le_of_ble_eq_true rfl) qw_305 qw_304 dX5_channelTold_30 rfl rfl) <| z_cons (ok_iconst (by decide) dX5_channelTold_33 rfl rfl) <| z_cons (ok_iadd dX5_channelTold_34 rfl rfl) <| z_cons (ok_iret rfl dX5_channelTold_35 rfl) <| z_nil
theorem dX5_fewestChannels_0 : decode cX5_fewestChannels 0 = .ok (.aload_n 0, 1) := by decide +kernel
theorem dX5_fewestChannels_1 : decode cX5_fewestChannels 1 = .ok (.invokestatic 23, 3) := by decide +kernel
theorem dX5_fewestChannels_4 : decode cX5_fewestChannels 4 = .ok (.istore_n 1, 1) := by decide +kernel
theorem dX5_fewestChannels_5 : decode cX5_fewestChannels 5 = .ok (.iconst (-1), 1) := by decide +kernel
theorem dX5_fewestChannels_6 : decode cX5_fewestChannels 6 = .ok (.istore_n 2, 1) := by decide +kernel
theorem dX5_fewestChannels_7 : decode cX5_fewestChannels 7 = .ok (.iconst 0, 1) := by decide +kernel
theorem dX5_fewestChannels_8 : decode cX5_fewestChannels 8 = .ok (.istore_n 3, 1) := by decide +kernel
theorem dX5_fewestChannels_9 : decode cX5_fewestChannels 9 = .ok (.iload_n 3, 1) := by decide +kernel
theorem dX5_fewestChannels_10 : decode cX5_fewestChannels 10 = .ok (.sipush 256, 3) := by decide +kernel
theorem dX5_fewestChannels_13 : decode cX5_fewestChannels 13 = .ok (.if_icmp .ge 47, 3) := by decide +kernel
theorem dX5_fewestChannels_16 : decode cX5_fewestChannels 16 = .ok (.iload_n 2, 1) := by decide +kernel
theorem dX5_fewestChannels_17 : decode cX5_fewestChannels 17 = .ok (.iconst (-1), 1) := by decide +kernel
theorem dX5_fewestChannels_18 : decode cX5_fewestChannels 18 = .ok (.if_icmp .eq 14, 3) := by decide +kernel
theorem dX5_fewestChannels_21 : decode cX5_fewestChannels 21 = .ok (.iload_n 3, 1) := by decide +kernel
theorem dX5_fewestChannels_22 : decode cX5_fewestChannels 22 = .ok (.invokestatic 19, 3) := by decide +kernel
theorem dX5_fewestChannels_25 : decode cX5_fewestChannels 25 = .ok (.iload_n 2, 1) := by decide +kernel
theorem dX5_fewestChannels_26 : decode cX5_fewestChannels 26 = .ok (.invokestatic 19, 3) := by decide +kernel
theorem dX5_fewestChannels_29 : decode cX5_fewestChannels 29 = .ok (.if_icmp .ge 7, 3) := by decide +kernel
theorem dX5_fewestChannels_32 : decode cX5_fewestChannels 32 = .ok (.iconst 1, 1) := by decide +kernel
theorem dX5_fewestChannels_33 : decode cX5_fewestChannels 33 = .ok (.goto 4, 3) := by decide +kernel
theorem dX5_fewestChannels_36 : decode cX5_fewestChannels 36 = .ok (.iconst 0, 1) := by decide +kernel
theorem dX5_fewestChannels_37 : decode cX5_fewestChannels 37 = .ok (.istore 4, 2) := by decide +kernel
theorem dX5_fewestChannels_39 : decode cX5_fewestChannels 39 = .ok (.iload 4, 2) := by decide +kernel
theorem dX5_fewestChannels_41 : decode cX5_fewestChannels 41 = .ok (.ifCond .eq 13, 3) := by decide +kernel
theorem dX5_fewestChannels_44 : decode cX5_fewestChannels 44 = .ok (.iload_n 3, 1) := by decide +kernel
theorem dX5_fewestChannels_45 : decode cX5_fewestChannels 45 = .ok (.iload_n 1, 1) := by decide +kernel
theorem dX5_fewestChannels_46 : decode cX5_fewestChannels 46 = .ok (.invokestatic 26, 3) := by decide +kernel
theorem dX5_fewestChannels_49 : decode cX5_fewestChannels 49 = .ok (.ifCond .eq 5, 3) := by decide +kernel
theorem dX5_fewestChannels_52 : decode cX5_fewestChannels 52 = .ok (.iload_n 3, 1) := by decide +kernel
theorem dX5_fewestChannels_53 : decode cX5_fewestChannels 53 = .ok (.istore_n 2, 1) := by decide +kernel
theorem dX5_fewestChannels_54 : decode cX5_fewestChannels 54 = .ok (.iinc 3 1, 3) := by decide +kernel
theorem dX5_fewestChannels_57 : decode cX5_fewestChannels 57 = .ok (.goto (-48), 3) := by decide +kernel
theorem dX5_fewestChannels_60 : decode cX5_fewestChannels 60 = .ok (.iload_n 2, 1) := by decide +kernel
theorem dX5_fewestChannels_61 : decode cX5_fewestChannels 61 = .ok (.ireturn, 1) := by decide +kernel
set_option maxRecDepth 20000 in
theorem zl_X5_fewestChannels_0 : z_All z_tab cX5_fewestChannels 5 (some .int) RX5 pc_X5_fewestChannels 0 (k_X5_fewestChannels.drop 0) := z_cons (ok_aload_n dX5_fewestChannels_0 rfl rfl) <| z_cons (ok_callS (k := 61) (n := 1) qw_306 qw_297 ⟨by decide +kernel, by decide +kernel, by decide +kernel⟩ (Nat.le_of_ble_eq_true rfl) qw_308 qw_307 dX5_fewestChannels_1 rfl rfl) <| z_cons (ok_istore_n (Nat.le_of_ble_eq_true rfl) dX5_fewestChannels_4 rfl rfl) <| z_cons (ok_iconst (by decide) dX5_fewestChannels_5 rfl rfl) <| z_cons (ok_istore_n (Nat.le_of_ble_eq_true rfl) dX5_fewestChannels_6 rfl rfl) <| z_cons (ok_iconst (by decide) dX5_fewestChannels_7 rfl rfl) <| z_cons (ok_istore_n (Nat.le_of_ble_eq_true rfl) dX5_fewestChannels_8 rfl rfl) <| z_cons (ok_iload_n dX5_fewestChannels_9 rfl rfl) <| z_cons (ok_sipush (by decide) dX5_fewestChannels_10 rfl rfl) <| z_cons (ok_icmp_ge (tgt := 60) (by decide) rfl dX5_fewestChannels_13 rfl rfl) <| z_cons (ok_iload_n dX5_fewestChannels_16 rfl rfl) <| z_cons (ok_iconst (by decide) dX5_fewestChannels_17 rfl rfl) <| z_cons (ok_icmp_eq (tgt := 32) (by decide) rfl dX5_fewestChannels_18 rfl rfl) <| z_cons (ok_iload_n dX5_fewestChannels_21 rfl rfl) <| z_cons (ok_callS (k := 59) (n := 1) qw_303 qw_297 ⟨by decide +kernel, by decide +kernel, by decide +kernel⟩ (Nat.le_of_ble_eq_true rfl) qw_305 qw_304 dX5_fewestChannels_22 rfl rfl) <| z_cons (ok_iload_n dX5_fewestChannels_25 rfl rfl) <| z_cons (ok_callS (k := 59) (n := 1) qw_303 qw_297 ⟨by decide +kernel, by decide +kernel, by decide +kernel⟩ (Nat.le_of_ble_eq_true rfl) qw_305 qw_304 dX5_fewestChannels_26 rfl rfl) <| z_cons (ok_icmp_ge (tgt := 36) (by decide) rfl dX5_fewestChannels_29 rfl rfl) <| z_cons (ok_iconst (by decide) dX5_fewestChannels_32 rfl rfl) <| z_cons (ok_goto (tgt := 37) (by decide) rfl dX5_fewestChannels_33 rfl) <| z_cons (ok_iconst (by decide) dX5_fewestChannels_36 rfl rfl) <| z_cons (ok_istore (Nat.le_of_ble_eq_true rfl) dX5_fewestChannels_37 rfl rfl) <| z_cons (ok_iload dX5_fewestChannels_39 rfl rfl) <| z_cons (ok_if_eq (tgt := 54) (by decide) rfl dX5_fewestChannels_41 rfl rfl) <| z_cons (ok_iload_n dX5_fewestChannels_44 rfl rfl) <| z_cons (ok_iload_n dX5_fewestChannels_45 rfl rfl) <| z_cons (ok_callS (k := 60) (n := 2) qw_309 qw_297 ⟨by decide +kernel, by decide +kernel, by decide +kernel⟩ (Nat.le_of_ble_eq_true rfl) qw_311 qw_310 dX5_fewestChannels_46 rfl rfl) <| z_cons (ok_if_eq (tgt := 54) (by decide) rfl dX5_fewestChannels_49 rfl rfl) <| z_cons (ok_iload_n dX5_fewestChannels_52 rfl rfl) <| z_cons (ok_istore_n (Nat.le_of_ble_eq_true rfl) dX5_fewestChannels_53 rfl rfl) <| z_cons (ok_iinc (by decide) (Nat.le_of_ble_eq_true rfl) dX5_fewestChannels_54 rfl rfl) <| z_cons (ok_goto (tgt := 9) (by decide) rfl dX5_fewestChannels_57 rfl) <| z_cons (ok_iload_n dX5_fewestChannels_60 rfl rfl) <| z_cons (ok_iret rfl dX5_fewestChannels_61 rfl) <| z_nil
theorem dX5_channelIn_0 : decode cX5_channelIn 0 = .ok (.iload_n 0, 1) := by decide +kernel
theorem dX5_channelIn_1 : decode cX5_channelIn 1 = .ok (.iconst 2, 1) := by decide +kernel
theorem dX5_channelIn_2 : decode cX5_channelIn 2 = .ok (.iconst 3, 1) := by decide +kernel
theorem dX5_channelIn_3 : decode cX5_channelIn 3 = .ok (.iload_n 1, 1) := by decide +kernel
theorem dX5_channelIn_4 : decode cX5_channelIn 4 = .ok (.isub, 1) := by decide +kernel
theorem dX5_channelIn_5 : decode cX5_channelIn 5 = .ok (.imul, 1) := by decide +kernel
theorem dX5_channelIn_6 : decode cX5_channelIn 6 = .ok (.ishr, 1) := by decide +kernel
theorem dX5_channelIn_7 : decode cX5_channelIn 7 = .ok (.iconst 3, 1) := by decide +kernel
theorem dX5_channelIn_8 : decode cX5_channelIn 8 = .ok (.iand, 1) := by decide +kernel
theorem dX5_channelIn_9 : decode cX5_channelIn 9 = .ok (.ireturn, 1) := by decide +kernel
set_option maxRecDepth 20000 in
theorem zl_X5_channelIn_0 : z_All z_tab cX5_channelIn 2 (some .int) RX5 pc_X5_channelIn 0 (k_X5_channelIn.drop 0) := z_cons (ok_iload_n dX5_channelIn_0 rfl rfl) <| z_cons (ok_iconst (by decide) dX5_channelIn_1 rfl rfl) <| z_cons (ok_iconst (by decide) dX5_channelIn_2 rfl rfl) <| z_cons (ok_iload_n dX5_channelIn_3 rfl rfl) <| z_cons (ok_isub dX5_channelIn_4 rfl rfl) <| z_cons (ok_imul dX5_channelIn_5 rfl rfl) <| z_cons (ok_ishr dX5_channelIn_6 rfl rfl) <| z_cons (ok_iconst (by decide) dX5_channelIn_7 rfl rfl) <| z_cons (ok_iand dX5_channelIn_8 rfl rfl) <| z_cons (ok_iret rfl dX5_channelIn_9 rfl) <| z_nil
theorem dX5_greatestIn_0 : decode cX5_greatestIn 0 = .ok (.iconst 0, 1) := by decide +kernel
theorem dX5_greatestIn_1 : decode cX5_greatestIn 1 = .ok (.istore_n 1, 1) := by decide +kernel
theorem dX5_greatestIn_2 : decode cX5_greatestIn 2 = .ok (.iconst 0, 1) := by decide +kernel
theorem dX5_greatestIn_3 : decode cX5_greatestIn 3 = .ok (.istore_n 2, 1) := by decide +kernel
theorem dX5_greatestIn_4 : decode cX5_greatestIn 4 = .ok (.iload_n 2, 1) := by decide +kernel
theorem dX5_greatestIn_5 : decode cX5_greatestIn 5 = .ok (.iconst 4, 1) := by decide +kernel
theorem dX5_greatestIn_6 : decode cX5_greatestIn 6 = .ok (.if_icmp .ge 19, 3) := by decide +kernel
theorem dX5_greatestIn_9 : decode cX5_greatestIn 9 = .ok (.iload_n 1, 1) := by decide +kernel
theorem dX5_greatestIn_10 : decode cX5_greatestIn 10 = .ok (.iload_n 0, 1) := by decide +kernel
theorem dX5_greatestIn_11 : decode cX5_greatestIn 11 = .ok (.iload_n 2, 1) := by decide +kernel
theorem dX5_greatestIn_12 : decode cX5_greatestIn 12 = .ok (.invokestatic 15, 3) := by decide +kernel
theorem dX5_greatestIn_15 : decode cX5_greatestIn 15 = .ok (.invokestatic 30, 3) := by decide +kernel
theorem dX5_greatestIn_18 : decode cX5_greatestIn 18 = .ok (.istore_n 1, 1) := by decide +kernel
theorem dX5_greatestIn_19 : decode cX5_greatestIn 19 = .ok (.iinc 2 1, 3) := by decide +kernel
theorem dX5_greatestIn_22 : decode cX5_greatestIn 22 = .ok (.goto (-18), 3) := by decide +kernel
theorem dX5_greatestIn_25 : decode cX5_greatestIn 25 = .ok (.iload_n 1, 1) := by decide +kernel
theorem dX5_greatestIn_26 : decode cX5_greatestIn 26 = .ok (.ireturn, 1) := by decide +kernel
set_option maxRecDepth 20000 in
theorem zl_X5_greatestIn_0 : z_All z_tab cX5_greatestIn 3 (some .int) RX5 pc_X5_greatestIn 0 (k_X5_greatestIn.drop 0) := z_cons (ok_iconst (by decide) dX5_greatestIn_0 rfl rfl) <| z_cons (ok_istore_n (Nat.le_of_ble_eq_true rfl) dX5_greatestIn_1 rfl rfl) <| z_cons (ok_iconst (by decide) dX5_greatestIn_2 rfl rfl) <| z_cons (ok_istore_n (Nat.le_of_ble_eq_true rfl) dX5_greatestIn_3 rfl rfl) <| z_cons (ok_iload_n dX5_greatestIn_4 rfl rfl) <| z_cons (ok_iconst (by decide) dX5_greatestIn_5 rfl rfl) <| z_cons (ok_icmp_ge (tgt := 25) (by decide) rfl dX5_greatestIn_6 rfl rfl) <| z_cons (ok_iload_n dX5_greatestIn_9 rfl rfl) <| z_cons (ok_iload_n dX5_greatestIn_10 rfl rfl) <| z_cons (ok_iload_n dX5_greatestIn_11 rfl rfl) <| z_cons (ok_callS (k := 58) (n := 2) qw_300 qw_297 ⟨by decide +kernel, by decide +kernel, by decide +kernel⟩ (Nat.le_of_ble_eq_true rfl) qw_302 qw_301 dX5_greatestIn_12 rfl rfl) <| z_cons (ok_mmax qw_312 qw_268 qw_32 qw_269 dX5_greatestIn_15 rfl rfl) <| z_cons (ok_istore_n (Nat.le_of_ble_eq_true rfl) dX5_greatestIn_18 rfl rfl) <| z_cons (ok_iinc (by decide) (Nat.le_of_ble_eq_true rfl) dX5_greatestIn_19 rfl rfl) <| z_cons (ok_goto (tgt := 4) (by decide) rfl dX5_greatestIn_22 rfl) <| z_cons (ok_iload_n dX5_greatestIn_25 rfl rfl) <| z_cons (ok_iret rfl dX5_greatestIn_26 rfl) <| z_nil
theorem dX5_fits_0 : decode cX5_fits 0 = .ok (.iconst 0, 1) := by decide +kernel
theorem dX5_fits_1 : decode cX5_fits 1 = .ok (.istore_n 2, 1) := by decide +kernel
theorem dX5_fits_2 : decode cX5_fits 2 = .ok (.iload_n 2, 1) := by decide +kernel
theorem dX5_fits_3 : decode cX5_fits 3 = .ok (.iconst 4, 1) := by decide +kernel
theorem dX5_fits_4 : decode cX5_fits 4 = .ok (.if_icmp .ge 62, 3) := by decide +kernel
theorem dX5_fits_7 : decode cX5_fits 7 = .ok (.iconst 0, 1) := by decide +kernel
theorem dX5_fits_8 : decode cX5_fits 8 = .ok (.istore_n 3, 1) := by decide +kernel
theorem dX5_fits_9 : decode cX5_fits 9 = .ok (.iload_n 3, 1) := by decide +kernel
theorem dX5_fits_10 : decode cX5_fits 10 = .ok (.iload_n 2, 1) := by decide +kernel
theorem dX5_fits_11 : decode cX5_fits 11 = .ok (.if_icmp .ge 49, 3) := by decide +kernel
theorem dX5_fits_14 : decode cX5_fits 14 = .ok (.iload_n 0, 1) := by decide +kernel
theorem dX5_fits_15 : decode cX5_fits 15 = .ok (.iload_n 2, 1) := by decide +kernel
theorem dX5_fits_16 : decode cX5_fits 16 = .ok (.invokestatic 15, 3) := by decide +kernel
theorem dX5_fits_19 : decode cX5_fits 19 = .ok (.iload_n 0, 1) := by decide +kernel
theorem dX5_fits_20 : decode cX5_fits 20 = .ok (.iload_n 3, 1) := by decide +kernel
theorem dX5_fits_21 : decode cX5_fits 21 = .ok (.invokestatic 15, 3) := by decide +kernel
theorem dX5_fits_24 : decode cX5_fits 24 = .ok (.if_icmp .eq 7, 3) := by decide +kernel
theorem dX5_fits_27 : decode cX5_fits 27 = .ok (.iconst 1, 1) := by decide +kernel
theorem dX5_fits_28 : decode cX5_fits 28 = .ok (.goto 4, 3) := by decide +kernel
theorem dX5_fits_31 : decode cX5_fits 31 = .ok (.iconst 0, 1) := by decide +kernel
theorem dX5_fits_32 : decode cX5_fits 32 = .ok (.istore 4, 2) := by decide +kernel
theorem dX5_fits_34 : decode cX5_fits 34 = .ok (.iload 4, 2) := by decide +kernel
theorem dX5_fits_36 : decode cX5_fits 36 = .ok (.ifCond .ne 18, 3) := by decide +kernel
theorem dX5_fits_39 : decode cX5_fits 39 = .ok (.iload_n 1, 1) := by decide +kernel
theorem dX5_fits_40 : decode cX5_fits 40 = .ok (.iconst 4, 1) := by decide +kernel
theorem dX5_fits_41 : decode cX5_fits 41 = .ok (.iload_n 2, 1) := by decide +kernel
theorem dX5_fits_42 : decode cX5_fits 42 = .ok (.imul, 1) := by decide +kernel
theorem dX5_fits_43 : decode cX5_fits 43 = .ok (.iload_n 3, 1) := by decide +kernel
theorem dX5_fits_44 : decode cX5_fits 44 = .ok (.iadd, 1) := by decide +kernel
theorem dX5_fits_45 : decode cX5_fits 45 = .ok (.ishr, 1) := by decide +kernel
theorem dX5_fits_46 : decode cX5_fits 46 = .ok (.iconst 1, 1) := by decide +kernel
theorem dX5_fits_47 : decode cX5_fits 47 = .ok (.iand, 1) := by decide +kernel
theorem dX5_fits_48 : decode cX5_fits 48 = .ok (.iconst 1, 1) := by decide +kernel
theorem dX5_fits_49 : decode cX5_fits 49 = .ok (.if_icmp .ne 5, 3) := by decide +kernel
theorem dX5_fits_52 : decode cX5_fits 52 = .ok (.iconst 0, 1) := by decide +kernel
theorem dX5_fits_53 : decode cX5_fits 53 = .ok (.ireturn, 1) := by decide +kernel
theorem dX5_fits_54 : decode cX5_fits 54 = .ok (.iinc 3 1, 3) := by decide +kernel
theorem dX5_fits_57 : decode cX5_fits 57 = .ok (.goto (-48), 3) := by decide +kernel
theorem dX5_fits_60 : decode cX5_fits 60 = .ok (.iinc 2 1, 3) := by decide +kernel
theorem dX5_fits_63 : decode cX5_fits 63 = .ok (.goto (-61), 3) := by decide +kernel
theorem dX5_fits_66 : decode cX5_fits 66 = .ok (.iconst 1, 1) := by decide +kernel
theorem dX5_fits_67 : decode cX5_fits 67 = .ok (.ireturn, 1) := by decide +kernel
set_option maxRecDepth 20000 in
theorem zl_X5_fits_1 : z_All z_tab cX5_fits 5 (some .boolean) RX5 pc_X5_fits 40 (k_X5_fits.drop 40) := z_cons (ok_iconst (by decide) dX5_fits_66 rfl rfl) <| z_cons (ok_zret rfl dX5_fits_67 rfl) <| z_nil
set_option maxRecDepth 20000 in
theorem zl_X5_fits_0 : z_All z_tab cX5_fits 5 (some .boolean) RX5 pc_X5_fits 0 (k_X5_fits.drop 0) := z_cons (ok_iconst (by decide) dX5_fits_0 rfl rfl) <| z_cons (ok_istore_n (Nat.le_of_ble_eq_true rfl) dX5_fits_1 rfl rfl) <| z_cons (ok_iload_n dX5_fits_2 rfl rfl) <| z_cons (ok_iconst (by decide) dX5_fits_3 rfl rfl) <| z_cons (ok_icmp_ge (tgt := 66) (by decide) rfl dX5_fits_4 rfl rfl) <| z_cons (ok_iconst (by decide) dX5_fits_7 rfl rfl) <| z_cons (ok_istore_n (Nat.le_of_ble_eq_true rfl) dX5_fits_8 rfl rfl) <| z_cons (ok_iload_n dX5_fits_9 rfl rfl) <| z_cons (ok_iload_n dX5_fits_10 rfl rfl) <| z_cons (ok_icmp_ge (tgt := 60) (by decide) rfl dX5_fits_11 rfl rfl) <| z_cons (ok_iload_n dX5_fits_14 rfl rfl) <| z_cons (ok_iload_n dX5_fits_15 rfl rfl) <| z_cons (ok_callS (k := 58) (n := 2) qw_300 qw_297 ⟨by decide +kernel, by decide +kernel, by decide +kernel⟩ (Nat.le_of_ble_eq_true rfl) qw_302 qw_301 dX5_fits_16 rfl rfl) <| z_cons (ok_iload_n dX5_fits_19 rfl rfl) <| z_cons (ok_iload_n dX5_fits_20 rfl rfl) <| z_cons (ok_callS (k := 58) (n := 2) qw_300 qw_297 ⟨by decide +kernel, by decide +kernel, by decide +kernel⟩ (Nat.le_of_ble_eq_true rfl) qw_302 qw_301 dX5_fits_21 rfl rfl) <| z_cons (ok_icmp_eq (tgt := 31) (by decide) rfl dX5_fits_24 rfl rfl) <| z_cons (ok_iconst (by decide) dX5_fits_27 rfl rfl) <| z_cons (ok_goto (tgt := 32) (by decide) rfl dX5_fits_28 rfl) <| z_cons (ok_iconst (by decide) dX5_fits_31 rfl rfl) <| z_cons (ok_istore (Nat.le_of_ble_eq_true rfl) dX5_fits_32 rfl rfl) <| z_cons (ok_iload dX5_fits_34 rfl rfl) <| z_cons (ok_if_ne (tgt := 54) (by decide) rfl dX5_fits_36 rfl rfl) <| z_cons (ok_iload_n dX5_fits_39 rfl rfl) <| z_cons (ok_iconst (by decide) dX5_fits_40 rfl rfl) <| z_cons (ok_iload_n dX5_fits_41 rfl rfl) <| z_cons (ok_imul dX5_fits_42 rfl rfl) <| z_cons (ok_iload_n dX5_fits_43 rfl rfl) <| z_cons (ok_iadd dX5_fits_44 rfl rfl) <| z_cons (ok_ishr dX5_fits_45 rfl rfl) <| z_cons (ok_iconst (by decide) dX5_fits_46 rfl rfl) <| z_cons (ok_iand dX5_fits_47 rfl rfl) <| z_cons (ok_iconst (by decide) dX5_fits_48 rfl rfl) <| z_cons (ok_icmp_ne (tgt := 54) (by decide) rfl dX5_fits_49 rfl rfl) <| z_cons (ok_iconst (by decide) dX5_fits_52 rfl rfl) <| z_cons (ok_zret rfl dX5_fits_53 rfl) <| z_cons (ok_iinc (by decide) (Nat.le_of_ble_eq_true rfl) dX5_fits_54 rfl rfl) <| z_cons (ok_goto (tgt := 9) (by decide) rfl dX5_fits_57 rfl) <| z_cons (ok_iinc (by decide) (Nat.le_of_ble_eq_true rfl) dX5_fits_60 rfl rfl) <| z_cons (ok_goto (tgt := 2) (by decide) rfl dX5_fits_63 rfl) <| zl_X5_fits_1
theorem dX5_sharedPairs_0 : decode cX5_sharedPairs 0 = .ok (.iconst 0, 1) := by decide +kernel
theorem dX5_sharedPairs_1 : decode cX5_sharedPairs 1 = .ok (.istore_n 1, 1) := by decide +kernel
theorem dX5_sharedPairs_2 : decode cX5_sharedPairs 2 = .ok (.iconst 0, 1) := by decide +kernel
theorem dX5_sharedPairs_3 : decode cX5_sharedPairs 3 = .ok (.istore_n 2, 1) := by decide +kernel
theorem dX5_sharedPairs_4 : decode cX5_sharedPairs 4 = .ok (.iload_n 2, 1) := by decide +kernel
theorem dX5_sharedPairs_5 : decode cX5_sharedPairs 5 = .ok (.bipush 24, 2) := by decide +kernel
theorem dX5_sharedPairs_7 : decode cX5_sharedPairs 7 = .ok (.if_icmp .ge 78, 3) := by decide +kernel
theorem dX5_sharedPairs_10 : decode cX5_sharedPairs 10 = .ok (.iconst 0, 1) := by decide +kernel
theorem dX5_sharedPairs_11 : decode cX5_sharedPairs 11 = .ok (.istore_n 3, 1) := by decide +kernel
theorem dX5_sharedPairs_12 : decode cX5_sharedPairs 12 = .ok (.iload_n 3, 1) := by decide +kernel
theorem dX5_sharedPairs_13 : decode cX5_sharedPairs 13 = .ok (.bipush 16, 2) := by decide +kernel
theorem dX5_sharedPairs_15 : decode cX5_sharedPairs 15 = .ok (.if_icmp .ge 64, 3) := by decide +kernel
theorem dX5_sharedPairs_18 : decode cX5_sharedPairs 18 = .ok (.aload_n 0, 1) := by decide +kernel
theorem dX5_sharedPairs_19 : decode cX5_sharedPairs 19 = .ok (.iload_n 2, 1) := by decide +kernel
theorem dX5_sharedPairs_20 : decode cX5_sharedPairs 20 = .ok (.aaload, 1) := by decide +kernel
theorem dX5_sharedPairs_21 : decode cX5_sharedPairs 21 = .ok (.iload_n 3, 1) := by decide +kernel
theorem dX5_sharedPairs_22 : decode cX5_sharedPairs 22 = .ok (.iconst 4, 1) := by decide +kernel
theorem dX5_sharedPairs_23 : decode cX5_sharedPairs 23 = .ok (.idiv, 1) := by decide +kernel
theorem dX5_sharedPairs_24 : decode cX5_sharedPairs 24 = .ok (.invokevirtual 35, 3) := by decide +kernel
theorem dX5_sharedPairs_27 : decode cX5_sharedPairs 27 = .ok (.ifCond .eq 19, 3) := by decide +kernel
theorem dX5_sharedPairs_30 : decode cX5_sharedPairs 30 = .ok (.aload_n 0, 1) := by decide +kernel
theorem dX5_sharedPairs_31 : decode cX5_sharedPairs 31 = .ok (.iload_n 2, 1) := by decide +kernel
theorem dX5_sharedPairs_32 : decode cX5_sharedPairs 32 = .ok (.aaload, 1) := by decide +kernel
theorem dX5_sharedPairs_33 : decode cX5_sharedPairs 33 = .ok (.iload_n 3, 1) := by decide +kernel
theorem dX5_sharedPairs_34 : decode cX5_sharedPairs 34 = .ok (.iconst 4, 1) := by decide +kernel
theorem dX5_sharedPairs_35 : decode cX5_sharedPairs 35 = .ok (.irem, 1) := by decide +kernel
theorem dX5_sharedPairs_36 : decode cX5_sharedPairs 36 = .ok (.invokevirtual 35, 3) := by decide +kernel
theorem dX5_sharedPairs_39 : decode cX5_sharedPairs 39 = .ok (.ifCond .eq 7, 3) := by decide +kernel
theorem dX5_sharedPairs_42 : decode cX5_sharedPairs 42 = .ok (.iconst 1, 1) := by decide +kernel
theorem dX5_sharedPairs_43 : decode cX5_sharedPairs 43 = .ok (.goto 4, 3) := by decide +kernel
theorem dX5_sharedPairs_46 : decode cX5_sharedPairs 46 = .ok (.iconst 0, 1) := by decide +kernel
theorem dX5_sharedPairs_47 : decode cX5_sharedPairs 47 = .ok (.istore 4, 2) := by decide +kernel
theorem dX5_sharedPairs_49 : decode cX5_sharedPairs 49 = .ok (.iload_n 1, 1) := by decide +kernel
theorem dX5_sharedPairs_50 : decode cX5_sharedPairs 50 = .ok (.aload_n 0, 1) := by decide +kernel
theorem dX5_sharedPairs_51 : decode cX5_sharedPairs 51 = .ok (.iload_n 2, 1) := by decide +kernel
theorem dX5_sharedPairs_52 : decode cX5_sharedPairs 52 = .ok (.aaload, 1) := by decide +kernel
theorem dX5_sharedPairs_53 : decode cX5_sharedPairs 53 = .ok (.getfield 41, 3) := by decide +kernel
theorem dX5_sharedPairs_56 : decode cX5_sharedPairs 56 = .ok (.ifCond .eq 14, 3) := by decide +kernel
theorem dX5_sharedPairs_59 : decode cX5_sharedPairs 59 = .ok (.iload 4, 2) := by decide +kernel
theorem dX5_sharedPairs_61 : decode cX5_sharedPairs 61 = .ok (.ifCond .eq 9, 3) := by decide +kernel
theorem dX5_sharedPairs_64 : decode cX5_sharedPairs 64 = .ok (.iconst 1, 1) := by decide +kernel
theorem dX5_sharedPairs_65 : decode cX5_sharedPairs 65 = .ok (.iload_n 3, 1) := by decide +kernel
theorem dX5_sharedPairs_66 : decode cX5_sharedPairs 66 = .ok (.ishl, 1) := by decide +kernel
theorem dX5_sharedPairs_67 : decode cX5_sharedPairs 67 = .ok (.goto 4, 3) := by decide +kernel
theorem dX5_sharedPairs_70 : decode cX5_sharedPairs 70 = .ok (.iconst 0, 1) := by decide +kernel
theorem dX5_sharedPairs_71 : decode cX5_sharedPairs 71 = .ok (.ior, 1) := by decide +kernel
theorem dX5_sharedPairs_72 : decode cX5_sharedPairs 72 = .ok (.istore_n 1, 1) := by decide +kernel
theorem dX5_sharedPairs_73 : decode cX5_sharedPairs 73 = .ok (.iinc 3 1, 3) := by decide +kernel
theorem dX5_sharedPairs_76 : decode cX5_sharedPairs 76 = .ok (.goto (-64), 3) := by decide +kernel
theorem dX5_sharedPairs_79 : decode cX5_sharedPairs 79 = .ok (.iinc 2 1, 3) := by decide +kernel
theorem dX5_sharedPairs_82 : decode cX5_sharedPairs 82 = .ok (.goto (-78), 3) := by decide +kernel
theorem dX5_sharedPairs_85 : decode cX5_sharedPairs 85 = .ok (.iload_n 1, 1) := by decide +kernel
theorem dX5_sharedPairs_86 : decode cX5_sharedPairs 86 = .ok (.ireturn, 1) := by decide +kernel
set_option maxRecDepth 20000 in
theorem zl_X5_sharedPairs_1 : z_All z_tab cX5_sharedPairs 5 (some .int) RX5 pc_X5_sharedPairs 40 (k_X5_sharedPairs.drop 40) := z_cons (ok_iconst (by decide) dX5_sharedPairs_64 rfl rfl) <| z_cons (ok_iload_n dX5_sharedPairs_65 rfl rfl) <| z_cons (ok_ishl dX5_sharedPairs_66 rfl rfl) <| z_cons (ok_goto (tgt := 71) (by decide) rfl dX5_sharedPairs_67 rfl) <| z_cons (ok_iconst (by decide) dX5_sharedPairs_70 rfl rfl) <| z_cons (ok_ior dX5_sharedPairs_71 rfl rfl) <| z_cons (ok_istore_n (Nat.le_of_ble_eq_true rfl) dX5_sharedPairs_72 rfl rfl) <| z_cons (ok_iinc (by decide) (Nat.le_of_ble_eq_true rfl) dX5_sharedPairs_73 rfl rfl) <| z_cons (ok_goto (tgt := 12) (by decide) rfl dX5_sharedPairs_76 rfl) <| z_cons (ok_iinc (by decide) (Nat.le_of_ble_eq_true rfl) dX5_sharedPairs_79 rfl rfl) <| z_cons (ok_goto (tgt := 4) (by decide) rfl dX5_sharedPairs_82 rfl) <| z_cons (ok_iload_n dX5_sharedPairs_85 rfl rfl) <| z_cons (ok_iret rfl dX5_sharedPairs_86 rfl) <| z_nil
set_option maxRecDepth 20000 in
theorem zl_X5_sharedPairs_0 : z_All z_tab cX5_sharedPairs 5 (some .int) RX5 pc_X5_sharedPairs 0 (k_X5_sharedPairs.drop 0) := z_cons (ok_iconst (by decide) dX5_sharedPairs_0 rfl rfl) <| z_cons (ok_istore_n (Nat.le_of_ble_eq_true rfl) dX5_sharedPairs_1 rfl rfl) <| z_cons (ok_iconst (by decide) dX5_sharedPairs_2 rfl rfl) <| z_cons (ok_istore_n (Nat.le_of_ble_eq_true rfl) dX5_sharedPairs_3 rfl rfl) <| z_cons (ok_iload_n dX5_sharedPairs_4 rfl rfl) <| z_cons (ok_bipush (by decide) dX5_sharedPairs_5 rfl rfl) <| z_cons (ok_icmp_ge (tgt := 85) (by decide) rfl dX5_sharedPairs_7 rfl rfl) <| z_cons (ok_iconst (by decide) dX5_sharedPairs_10 rfl rfl) <| z_cons (ok_istore_n (Nat.le_of_ble_eq_true rfl) dX5_sharedPairs_11 rfl rfl) <| z_cons (ok_iload_n dX5_sharedPairs_12 rfl rfl) <| z_cons (ok_bipush (by decide) dX5_sharedPairs_13 rfl rfl) <| z_cons (ok_icmp_ge (tgt := 79) (by decide) rfl dX5_sharedPairs_15 rfl rfl) <| z_cons (ok_aload_n dX5_sharedPairs_18 rfl rfl) <| z_cons (ok_iload_n dX5_sharedPairs_19 rfl rfl) <| z_cons (ok_aald dX5_sharedPairs_20 rfl rfl) <| z_cons (ok_iload_n dX5_sharedPairs_21 rfl rfl) <| z_cons (ok_iconst (by decide) dX5_sharedPairs_22 rfl rfl) <| z_cons (ok_idiv dX5_sharedPairs_23 rfl rfl) <| z_cons (ok_callv ⟨by decide, by decide, by decide⟩ (ci := 4) (C := RX6) (T := TX6) rfl go_7 (k := 82) (n := 1) qw_313 qw_203 ⟨by decide +kernel, by decide +kernel, by decide +kernel⟩ (Nat.le_of_ble_eq_true rfl) qw_314 qw_315 qw_316 dX5_sharedPairs_24 rfl rfl) <| z_cons (ok_if_eq (tgt := 46) (by decide) rfl dX5_sharedPairs_27 rfl rfl) <| z_cons (ok_aload_n dX5_sharedPairs_30 rfl rfl) <| z_cons (ok_iload_n dX5_sharedPairs_31 rfl rfl) <| z_cons (ok_aald dX5_sharedPairs_32 rfl rfl) <| z_cons (ok_iload_n dX5_sharedPairs_33 rfl rfl) <| z_cons (ok_iconst (by decide) dX5_sharedPairs_34 rfl rfl) <| z_cons (ok_irem dX5_sharedPairs_35 rfl rfl) <| z_cons (ok_callv ⟨by decide, by decide, by decide⟩ (ci := 4) (C := RX6) (T := TX6) rfl go_7 (k := 82) (n := 1) qw_313 qw_203 ⟨by decide +kernel, by decide +kernel, by decide +kernel⟩ (Nat.le_of_ble_eq_true rfl) qw_314 qw_315 qw_316 dX5_sharedPairs_36 rfl rfl) <| z_cons (ok_if_eq (tgt := 46) (by decide) rfl dX5_sharedPairs_39 rfl rfl) <| z_cons (ok_iconst (by decide) dX5_sharedPairs_42 rfl rfl) <| z_cons (ok_goto (tgt := 47) (by decide) rfl dX5_sharedPairs_43 rfl) <| z_cons (ok_iconst (by decide) dX5_sharedPairs_46 rfl rfl) <| z_cons (ok_istore (Nat.le_of_ble_eq_true rfl) dX5_sharedPairs_47 rfl rfl) <| z_cons (ok_iload_n dX5_sharedPairs_49 rfl rfl) <| z_cons (ok_aload_n dX5_sharedPairs_50 rfl rfl) <| z_cons (ok_iload_n dX5_sharedPairs_51 rfl rfl) <| z_cons (ok_aald dX5_sharedPairs_52 rfl rfl) <| z_cons (ok_get ⟨by decide, by decide, by decide⟩ (ci := 4) (T := TX6) rfl rfl (Nat.le_of_ble_eq_true rfl) iw_X6 qw_317 gv_7_0 dX5_sharedPairs_53 rfl rfl) <| z_cons (ok_if_eq (tgt := 70) (by decide) rfl dX5_sharedPairs_56 rfl rfl) <| z_cons (ok_iload dX5_sharedPairs_59 rfl rfl) <| z_cons (ok_if_eq (tgt := 70) (by decide) rfl dX5_sharedPairs_61 rfl rfl) <| zl_X5_sharedPairs_1
theorem dX5_fewestReaders_0 : decode cX5_fewestReaders 0 = .ok (.bipush 15, 2) := by decide +kernel
theorem dX5_fewestReaders_2 : decode cX5_fewestReaders 2 = .ok (.istore_n 1, 1) := by decide +kernel
theorem dX5_fewestReaders_3 : decode cX5_fewestReaders 3 = .ok (.iload_n 1, 1) := by decide +kernel
theorem dX5_fewestReaders_4 : decode cX5_fewestReaders 4 = .ok (.istore_n 2, 1) := by decide +kernel
theorem dX5_fewestReaders_5 : decode cX5_fewestReaders 5 = .ok (.iload_n 2, 1) := by decide +kernel
theorem dX5_fewestReaders_6 : decode cX5_fewestReaders 6 = .ok (.ifCond .lt 30, 3) := by decide +kernel
theorem dX5_fewestReaders_9 : decode cX5_fewestReaders 9 = .ok (.iload_n 2, 1) := by decide +kernel
theorem dX5_fewestReaders_10 : decode cX5_fewestReaders 10 = .ok (.invokestatic 45, 3) := by decide +kernel
theorem dX5_fewestReaders_13 : decode cX5_fewestReaders 13 = .ok (.iload_n 1, 1) := by decide +kernel
theorem dX5_fewestReaders_14 : decode cX5_fewestReaders 14 = .ok (.invokestatic 45, 3) := by decide +kernel
theorem dX5_fewestReaders_17 : decode cX5_fewestReaders 17 = .ok (.if_icmp .gt 13, 3) := by decide +kernel
theorem dX5_fewestReaders_20 : decode cX5_fewestReaders 20 = .ok (.aload_n 0, 1) := by decide +kernel
theorem dX5_fewestReaders_21 : decode cX5_fewestReaders 21 = .ok (.iload_n 2, 1) := by decide +kernel
theorem dX5_fewestReaders_22 : decode cX5_fewestReaders 22 = .ok (.invokestatic 50, 3) := by decide +kernel
theorem dX5_fewestReaders_25 : decode cX5_fewestReaders 25 = .ok (.ifCond .eq 5, 3) := by decide +kernel
theorem dX5_fewestReaders_28 : decode cX5_fewestReaders 28 = .ok (.iload_n 2, 1) := by decide +kernel
theorem dX5_fewestReaders_29 : decode cX5_fewestReaders 29 = .ok (.istore_n 1, 1) := by decide +kernel
theorem dX5_fewestReaders_30 : decode cX5_fewestReaders 30 = .ok (.iinc 2 (-1), 3) := by decide +kernel
theorem dX5_fewestReaders_33 : decode cX5_fewestReaders 33 = .ok (.goto (-28), 3) := by decide +kernel
theorem dX5_fewestReaders_36 : decode cX5_fewestReaders 36 = .ok (.iload_n 1, 1) := by decide +kernel
theorem dX5_fewestReaders_37 : decode cX5_fewestReaders 37 = .ok (.ireturn, 1) := by decide +kernel
set_option maxRecDepth 20000 in
theorem zl_X5_fewestReaders_0 : z_All z_tab cX5_fewestReaders 3 (some .int) RX5 pc_X5_fewestReaders 0 (k_X5_fewestReaders.drop 0) := z_cons (ok_bipush (by decide) dX5_fewestReaders_0 rfl rfl) <| z_cons (ok_istore_n (Nat.le_of_ble_eq_true rfl) dX5_fewestReaders_2 rfl rfl) <| z_cons (ok_iload_n dX5_fewestReaders_3 rfl rfl) <| z_cons (ok_istore_n (Nat.le_of_ble_eq_true rfl) dX5_fewestReaders_4 rfl rfl) <| z_cons (ok_iload_n dX5_fewestReaders_5 rfl rfl) <| z_cons (ok_if_lt (tgt := 36) (by decide) rfl dX5_fewestReaders_6 rfl rfl) <| z_cons (ok_iload_n dX5_fewestReaders_9 rfl rfl) <| z_cons (ok_callS (k := 274) (n := 1) qw_25 qw_26 ⟨by decide +kernel, by decide +kernel, by decide +kernel⟩ (Nat.le_of_ble_eq_true rfl) qw_318 qw_27 dX5_fewestReaders_10 rfl rfl) <| z_cons (ok_iload_n dX5_fewestReaders_13 rfl rfl) <| z_cons (ok_callS (k := 274) (n := 1) qw_25 qw_26 ⟨by decide +kernel, by decide +kernel, by decide +kernel⟩ (Nat.le_of_ble_eq_true rfl) qw_318 qw_27 dX5_fewestReaders_14 rfl rfl) <| z_cons (ok_icmp_gt (tgt := 30) (by decide) rfl dX5_fewestReaders_17 rfl rfl) <| z_cons (ok_aload_n dX5_fewestReaders_20 rfl rfl) <| z_cons (ok_iload_n dX5_fewestReaders_21 rfl rfl) <| z_cons (ok_callS (k := 63) (n := 2) qw_319 qw_297 ⟨by decide +kernel, by decide +kernel, by decide +kernel⟩ (Nat.le_of_ble_eq_true rfl) qw_321 qw_320 dX5_fewestReaders_22 rfl rfl) <| z_cons (ok_if_eq (tgt := 30) (by decide) rfl dX5_fewestReaders_25 rfl rfl) <| z_cons (ok_iload_n dX5_fewestReaders_28 rfl rfl) <| z_cons (ok_istore_n (Nat.le_of_ble_eq_true rfl) dX5_fewestReaders_29 rfl rfl) <| z_cons (ok_iinc (by decide) (Nat.le_of_ble_eq_true rfl) dX5_fewestReaders_30 rfl rfl) <| z_cons (ok_goto (tgt := 5) (by decide) rfl dX5_fewestReaders_33 rfl) <| z_cons (ok_iload_n dX5_fewestReaders_36 rfl rfl) <| z_cons (ok_iret rfl dX5_fewestReaders_37 rfl) <| z_nil
theorem dX5_covers_0 : decode cX5_covers 0 = .ok (.iconst 0, 1) := by decide +kernel
theorem dX5_covers_1 : decode cX5_covers 1 = .ok (.istore_n 2, 1) := by decide +kernel
theorem dX5_covers_2 : decode cX5_covers 2 = .ok (.iload_n 2, 1) := by decide +kernel
theorem dX5_covers_3 : decode cX5_covers 3 = .ok (.bipush 24, 2) := by decide +kernel
theorem dX5_covers_5 : decode cX5_covers 5 = .ok (.if_icmp .ge 40, 3) := by decide +kernel
theorem dX5_covers_8 : decode cX5_covers 8 = .ok (.aload_n 0, 1) := by decide +kernel
theorem dX5_covers_9 : decode cX5_covers 9 = .ok (.iload_n 2, 1) := by decide +kernel
theorem dX5_covers_10 : decode cX5_covers 10 = .ok (.aaload, 1) := by decide +kernel
theorem dX5_covers_11 : decode cX5_covers 11 = .ok (.getfield 41, 3) := by decide +kernel
theorem dX5_covers_14 : decode cX5_covers 14 = .ok (.ifCond .eq 25, 3) := by decide +kernel
theorem dX5_covers_17 : decode cX5_covers 17 = .ok (.aload_n 0, 1) := by decide +kernel
theorem dX5_covers_18 : decode cX5_covers 18 = .ok (.iload_n 2, 1) := by decide +kernel
theorem dX5_covers_19 : decode cX5_covers 19 = .ok (.aaload, 1) := by decide +kernel
theorem dX5_covers_20 : decode cX5_covers 20 = .ok (.getfield 54, 3) := by decide +kernel
theorem dX5_covers_23 : decode cX5_covers 23 = .ok (.ifCond .eq 16, 3) := by decide +kernel
theorem dX5_covers_26 : decode cX5_covers 26 = .ok (.aload_n 0, 1) := by decide +kernel
theorem dX5_covers_27 : decode cX5_covers 27 = .ok (.iload_n 2, 1) := by decide +kernel
theorem dX5_covers_28 : decode cX5_covers 28 = .ok (.aaload, 1) := by decide +kernel
theorem dX5_covers_29 : decode cX5_covers 29 = .ok (.getfield 54, 3) := by decide +kernel
theorem dX5_covers_32 : decode cX5_covers 32 = .ok (.iload_n 1, 1) := by decide +kernel
theorem dX5_covers_33 : decode cX5_covers 33 = .ok (.iand, 1) := by decide +kernel
theorem dX5_covers_34 : decode cX5_covers 34 = .ok (.ifCond .ne 5, 3) := by decide +kernel
theorem dX5_covers_37 : decode cX5_covers 37 = .ok (.iconst 0, 1) := by decide +kernel
theorem dX5_covers_38 : decode cX5_covers 38 = .ok (.ireturn, 1) := by decide +kernel
theorem dX5_covers_39 : decode cX5_covers 39 = .ok (.iinc 2 1, 3) := by decide +kernel
theorem dX5_covers_42 : decode cX5_covers 42 = .ok (.goto (-40), 3) := by decide +kernel
theorem dX5_covers_45 : decode cX5_covers 45 = .ok (.iconst 1, 1) := by decide +kernel
theorem dX5_covers_46 : decode cX5_covers 46 = .ok (.ireturn, 1) := by decide +kernel
set_option maxRecDepth 20000 in
theorem zl_X5_covers_0 : z_All z_tab cX5_covers 3 (some .boolean) RX5 pc_X5_covers 0 (k_X5_covers.drop 0) := z_cons (ok_iconst (by decide) dX5_covers_0 rfl rfl) <| z_cons (ok_istore_n (Nat.le_of_ble_eq_true rfl) dX5_covers_1 rfl rfl) <| z_cons (ok_iload_n dX5_covers_2 rfl rfl) <| z_cons (ok_bipush (by decide) dX5_covers_3 rfl rfl) <| z_cons (ok_icmp_ge (tgt := 45) (by decide) rfl dX5_covers_5 rfl rfl) <| z_cons (ok_aload_n dX5_covers_8 rfl rfl) <| z_cons (ok_iload_n dX5_covers_9 rfl rfl) <| z_cons (ok_aald dX5_covers_10 rfl rfl) <| z_cons (ok_get ⟨by decide, by decide, by decide⟩ (ci := 4) (T := TX6) rfl rfl (Nat.le_of_ble_eq_true rfl) iw_X6 qw_317 gv_7_0 dX5_covers_11 rfl rfl) <| z_cons (ok_if_eq (tgt := 39) (by decide) rfl dX5_covers_14 rfl rfl) <| z_cons (ok_aload_n dX5_covers_17 rfl rfl) <| z_cons (ok_iload_n dX5_covers_18 rfl rfl) <| z_cons (ok_aald dX5_covers_19 rfl rfl) <| z_cons (ok_get ⟨by decide, by decide, by decide⟩ (ci := 4) (T := TX6) rfl rfl (Nat.le_of_ble_eq_true rfl) iw_X6 qw_322 gv_7_2 dX5_covers_20 rfl rfl) <| z_cons (ok_if_eq (tgt := 39) (by decide) rfl dX5_covers_23 rfl rfl) <| z_cons (ok_aload_n dX5_covers_26 rfl rfl) <| z_cons (ok_iload_n dX5_covers_27 rfl rfl) <| z_cons (ok_aald dX5_covers_28 rfl rfl) <| z_cons (ok_get ⟨by decide, by decide, by decide⟩ (ci := 4) (T := TX6) rfl rfl (Nat.le_of_ble_eq_true rfl) iw_X6 qw_322 gv_7_2 dX5_covers_29 rfl rfl) <| z_cons (ok_iload_n dX5_covers_32 rfl rfl) <| z_cons (ok_iand dX5_covers_33 rfl rfl) <| z_cons (ok_if_ne (tgt := 39) (by decide) rfl dX5_covers_34 rfl rfl) <| z_cons (ok_iconst (by decide) dX5_covers_37 rfl rfl) <| z_cons (ok_zret rfl dX5_covers_38 rfl) <| z_cons (ok_iinc (by decide) (Nat.le_of_ble_eq_true rfl) dX5_covers_39 rfl rfl) <| z_cons (ok_goto (tgt := 2) (by decide) rfl dX5_covers_42 rfl) <| z_cons (ok_iconst (by decide) dX5_covers_45 rfl rfl) <| z_cons (ok_zret rfl dX5_covers_46 rfl) <| z_nil
theorem dX5_treeQueries_0 : decode cX5_treeQueries 0 = .ok (.iload_n 1, 1) := by decide +kernel
theorem dX5_treeQueries_1 : decode cX5_treeQueries 1 = .ok (.invokestatic 45, 3) := by decide +kernel
theorem dX5_treeQueries_4 : decode cX5_treeQueries 4 = .ok (.iconst 1, 1) := by decide +kernel
theorem dX5_treeQueries_5 : decode cX5_treeQueries 5 = .ok (.if_icmp .le 9, 3) := by decide +kernel
theorem dX5_treeQueries_8 : decode cX5_treeQueries 8 = .ok (.iload_n 2, 1) := by decide +kernel
theorem dX5_treeQueries_9 : decode cX5_treeQueries 9 = .ok (.bipush 16, 2) := by decide +kernel
theorem dX5_treeQueries_11 : decode cX5_treeQueries 11 = .ok (.if_icmp .lt 5, 3) := by decide +kernel
theorem dX5_treeQueries_14 : decode cX5_treeQueries 14 = .ok (.iconst 1, 1) := by decide +kernel
theorem dX5_treeQueries_15 : decode cX5_treeQueries 15 = .ok (.ireturn, 1) := by decide +kernel
theorem dX5_treeQueries_16 : decode cX5_treeQueries 16 = .ok (.iconst 0, 1) := by decide +kernel
theorem dX5_treeQueries_17 : decode cX5_treeQueries 17 = .ok (.istore_n 3, 1) := by decide +kernel
theorem dX5_treeQueries_18 : decode cX5_treeQueries 18 = .ok (.iconst 0, 1) := by decide +kernel
theorem dX5_treeQueries_19 : decode cX5_treeQueries 19 = .ok (.istore 4, 2) := by decide +kernel
theorem dX5_treeQueries_21 : decode cX5_treeQueries 21 = .ok (.iload 4, 2) := by decide +kernel
theorem dX5_treeQueries_23 : decode cX5_treeQueries 23 = .ok (.bipush 24, 2) := by decide +kernel
theorem dX5_treeQueries_25 : decode cX5_treeQueries 25 = .ok (.if_icmp .ge 43, 3) := by decide +kernel
theorem dX5_treeQueries_28 : decode cX5_treeQueries 28 = .ok (.iload_n 3, 1) := by decide +kernel
theorem dX5_treeQueries_29 : decode cX5_treeQueries 29 = .ok (.iload_n 1, 1) := by decide +kernel
theorem dX5_treeQueries_30 : decode cX5_treeQueries 30 = .ok (.iload 4, 2) := by decide +kernel
theorem dX5_treeQueries_32 : decode cX5_treeQueries 32 = .ok (.ishr, 1) := by decide +kernel
theorem dX5_treeQueries_33 : decode cX5_treeQueries 33 = .ok (.iconst 1, 1) := by decide +kernel
theorem dX5_treeQueries_34 : decode cX5_treeQueries 34 = .ok (.iand, 1) := by decide +kernel
theorem dX5_treeQueries_35 : decode cX5_treeQueries 35 = .ok (.iconst 1, 1) := by decide +kernel
theorem dX5_treeQueries_36 : decode cX5_treeQueries 36 = .ok (.if_icmp .ne 23, 3) := by decide +kernel
theorem dX5_treeQueries_39 : decode cX5_treeQueries 39 = .ok (.aload_n 0, 1) := by decide +kernel
theorem dX5_treeQueries_40 : decode cX5_treeQueries 40 = .ok (.iload 4, 2) := by decide +kernel
theorem dX5_treeQueries_42 : decode cX5_treeQueries 42 = .ok (.aaload, 1) := by decide +kernel
theorem dX5_treeQueries_43 : decode cX5_treeQueries 43 = .ok (.iload_n 2, 1) := by decide +kernel
theorem dX5_treeQueries_44 : decode cX5_treeQueries 44 = .ok (.iconst 1, 1) := by decide +kernel
theorem dX5_treeQueries_45 : decode cX5_treeQueries 45 = .ok (.invokevirtual 58, 3) := by decide +kernel
theorem dX5_treeQueries_48 : decode cX5_treeQueries 48 = .ok (.iconst 1, 1) := by decide +kernel
theorem dX5_treeQueries_49 : decode cX5_treeQueries 49 = .ok (.if_icmp .ne 10, 3) := by decide +kernel
theorem dX5_treeQueries_52 : decode cX5_treeQueries 52 = .ok (.iconst 1, 1) := by decide +kernel
theorem dX5_treeQueries_53 : decode cX5_treeQueries 53 = .ok (.iload 4, 2) := by decide +kernel
theorem dX5_treeQueries_55 : decode cX5_treeQueries 55 = .ok (.ishl, 1) := by decide +kernel
theorem dX5_treeQueries_56 : decode cX5_treeQueries 56 = .ok (.goto 4, 3) := by decide +kernel
theorem dX5_treeQueries_59 : decode cX5_treeQueries 59 = .ok (.iconst 0, 1) := by decide +kernel
theorem dX5_treeQueries_60 : decode cX5_treeQueries 60 = .ok (.ior, 1) := by decide +kernel
theorem dX5_treeQueries_61 : decode cX5_treeQueries 61 = .ok (.istore_n 3, 1) := by decide +kernel
theorem dX5_treeQueries_62 : decode cX5_treeQueries 62 = .ok (.iinc 4 1, 3) := by decide +kernel
theorem dX5_treeQueries_65 : decode cX5_treeQueries 65 = .ok (.goto (-44), 3) := by decide +kernel
theorem dX5_treeQueries_68 : decode cX5_treeQueries 68 = .ok (.iconst 1, 1) := by decide +kernel
theorem dX5_treeQueries_69 : decode cX5_treeQueries 69 = .ok (.aload_n 0, 1) := by decide +kernel
theorem dX5_treeQueries_70 : decode cX5_treeQueries 70 = .ok (.iload_n 1, 1) := by decide +kernel
theorem dX5_treeQueries_71 : decode cX5_treeQueries 71 = .ok (.iload_n 3, 1) := by decide +kernel
theorem dX5_treeQueries_72 : decode cX5_treeQueries 72 = .ok (.iconst (-1), 1) := by decide +kernel
theorem dX5_treeQueries_73 : decode cX5_treeQueries 73 = .ok (.ixor, 1) := by decide +kernel
theorem dX5_treeQueries_74 : decode cX5_treeQueries 74 = .ok (.iand, 1) := by decide +kernel
theorem dX5_treeQueries_75 : decode cX5_treeQueries 75 = .ok (.iload_n 2, 1) := by decide +kernel
theorem dX5_treeQueries_76 : decode cX5_treeQueries 76 = .ok (.iconst 1, 1) := by decide +kernel
theorem dX5_treeQueries_77 : decode cX5_treeQueries 77 = .ok (.iadd, 1) := by decide +kernel
theorem dX5_treeQueries_78 : decode cX5_treeQueries 78 = .ok (.invokestatic 61, 3) := by decide +kernel
theorem dX5_treeQueries_81 : decode cX5_treeQueries 81 = .ok (.iadd, 1) := by decide +kernel
theorem dX5_treeQueries_82 : decode cX5_treeQueries 82 = .ok (.aload_n 0, 1) := by decide +kernel
theorem dX5_treeQueries_83 : decode cX5_treeQueries 83 = .ok (.iload_n 3, 1) := by decide +kernel
theorem dX5_treeQueries_84 : decode cX5_treeQueries 84 = .ok (.iload_n 2, 1) := by decide +kernel
theorem dX5_treeQueries_85 : decode cX5_treeQueries 85 = .ok (.iconst 1, 1) := by decide +kernel
theorem dX5_treeQueries_86 : decode cX5_treeQueries 86 = .ok (.iadd, 1) := by decide +kernel
theorem dX5_treeQueries_87 : decode cX5_treeQueries 87 = .ok (.invokestatic 61, 3) := by decide +kernel
theorem dX5_treeQueries_90 : decode cX5_treeQueries 90 = .ok (.iadd, 1) := by decide +kernel
theorem dX5_treeQueries_91 : decode cX5_treeQueries 91 = .ok (.ireturn, 1) := by decide +kernel
set_option maxRecDepth 20000 in
theorem zl_X5_treeQueries_1 : z_All z_tab cX5_treeQueries 5 (some .int) RX5 pc_X5_treeQueries 40 (k_X5_treeQueries.drop 40) := z_cons (ok_goto (tgt := 21) (by decide) rfl dX5_treeQueries_65 rfl) <| z_cons (ok_iconst (by decide) dX5_treeQueries_68 rfl rfl) <| z_cons (ok_aload_n dX5_treeQueries_69 rfl rfl) <| z_cons (ok_iload_n dX5_treeQueries_70 rfl rfl) <| z_cons (ok_iload_n dX5_treeQueries_71 rfl rfl) <| z_cons (ok_iconst (by decide) dX5_treeQueries_72 rfl rfl) <| z_cons (ok_ixor dX5_treeQueries_73 rfl rfl) <| z_cons (ok_iand dX5_treeQueries_74 rfl rfl) <| z_cons (ok_iload_n dX5_treeQueries_75 rfl rfl) <| z_cons (ok_iconst (by decide) dX5_treeQueries_76 rfl rfl) <| z_cons (ok_iadd dX5_treeQueries_77 rfl rfl) <| z_cons (ok_callS (k := 64) (n := 3) qw_327 qw_297 ⟨by decide +kernel, by decide +kernel, by decide +kernel⟩ (Nat.le_of_ble_eq_true rfl) qw_329 qw_328 dX5_treeQueries_78 rfl rfl) <| z_cons (ok_iadd dX5_treeQueries_81 rfl rfl) <| z_cons (ok_aload_n dX5_treeQueries_82 rfl rfl) <| z_cons (ok_iload_n dX5_treeQueries_83 rfl rfl) <| z_cons (ok_iload_n dX5_treeQueries_84 rfl rfl) <| z_cons (ok_iconst (by decide) dX5_treeQueries_85 rfl rfl) <| z_cons (ok_iadd dX5_treeQueries_86 rfl rfl) <| z_cons (ok_callS (k := 64) (n := 3) qw_327 qw_297 ⟨by decide +kernel, by decide +kernel, by decide +kernel⟩ (Nat.le_of_ble_eq_true rfl) qw_329 qw_328 dX5_treeQueries_87 rfl rfl) <| z_cons (ok_iadd dX5_treeQueries_90 rfl rfl) <| z_cons (ok_iret rfl dX5_treeQueries_91 rfl) <| z_nil
set_option maxRecDepth 20000 in
theorem zl_X5_treeQueries_0 : z_All z_tab cX5_treeQueries 5 (some .int) RX5 pc_X5_treeQueries 0 (k_X5_treeQueries.drop 0) := z_cons (ok_iload_n dX5_treeQueries_0 rfl rfl) <| z_cons (ok_callS (k := 274) (n := 1) qw_25 qw_26 ⟨by decide +kernel, by decide +kernel, by decide +kernel⟩ (Nat.le_of_ble_eq_true rfl) qw_318 qw_27 dX5_treeQueries_1 rfl rfl) <| z_cons (ok_iconst (by decide) dX5_treeQueries_4 rfl rfl) <| z_cons (ok_icmp_le (tgt := 14) (by decide) rfl dX5_treeQueries_5 rfl rfl) <| z_cons (ok_iload_n dX5_treeQueries_8 rfl rfl) <| z_cons (ok_bipush (by decide) dX5_treeQueries_9 rfl rfl) <| z_cons (ok_icmp_lt (tgt := 16) (by decide) rfl dX5_treeQueries_11 rfl rfl) <| z_cons (ok_iconst (by decide) dX5_treeQueries_14 rfl rfl) <| z_cons (ok_iret rfl dX5_treeQueries_15 rfl) <| z_cons (ok_iconst (by decide) dX5_treeQueries_16 rfl rfl) <| z_cons (ok_istore_n (Nat.le_of_ble_eq_true rfl) dX5_treeQueries_17 rfl rfl) <| z_cons (ok_iconst (by decide) dX5_treeQueries_18 rfl rfl) <| z_cons (ok_istore (Nat.le_of_ble_eq_true rfl) dX5_treeQueries_19 rfl rfl) <| z_cons (ok_iload dX5_treeQueries_21 rfl rfl) <| z_cons (ok_bipush (by decide) dX5_treeQueries_23 rfl rfl) <| z_cons (ok_icmp_ge (tgt := 68) (by decide) rfl dX5_treeQueries_25 rfl rfl) <| z_cons (ok_iload_n dX5_treeQueries_28 rfl rfl) <| z_cons (ok_iload_n dX5_treeQueries_29 rfl rfl) <| z_cons (ok_iload dX5_treeQueries_30 rfl rfl) <| z_cons (ok_ishr dX5_treeQueries_32 rfl rfl) <| z_cons (ok_iconst (by decide) dX5_treeQueries_33 rfl rfl) <| z_cons (ok_iand dX5_treeQueries_34 rfl rfl) <| z_cons (ok_iconst (by decide) dX5_treeQueries_35 rfl rfl) <| z_cons (ok_icmp_ne (tgt := 59) (by decide) rfl dX5_treeQueries_36 rfl rfl) <| z_cons (ok_aload_n dX5_treeQueries_39 rfl rfl) <| z_cons (ok_iload dX5_treeQueries_40 rfl rfl) <| z_cons (ok_aald dX5_treeQueries_42 rfl rfl) <| z_cons (ok_iload_n dX5_treeQueries_43 rfl rfl) <| z_cons (ok_iconst (by decide) dX5_treeQueries_44 rfl rfl) <| z_cons (ok_callv ⟨by decide, by decide, by decide⟩ (ci := 4) (C := RX6) (T := TX6) rfl go_7 (k := 80) (n := 2) qw_323 qw_203 ⟨by decide +kernel, by decide +kernel, by decide +kernel⟩ (Nat.le_of_ble_eq_true rfl) qw_324 qw_325 qw_326 dX5_treeQueries_45 rfl rfl) <| z_cons (ok_iconst (by decide) dX5_treeQueries_48 rfl rfl) <| z_cons (ok_icmp_ne (tgt := 59) (by decide) rfl dX5_treeQueries_49 rfl rfl) <| z_cons (ok_iconst (by decide) dX5_treeQueries_52 rfl rfl) <| z_cons (ok_iload dX5_treeQueries_53 rfl rfl) <| z_cons (ok_ishl dX5_treeQueries_55 rfl rfl) <| z_cons (ok_goto (tgt := 60) (by decide) rfl dX5_treeQueries_56 rfl) <| z_cons (ok_iconst (by decide) dX5_treeQueries_59 rfl rfl) <| z_cons (ok_ior dX5_treeQueries_60 rfl rfl) <| z_cons (ok_istore_n (Nat.le_of_ble_eq_true rfl) dX5_treeQueries_61 rfl rfl) <| z_cons (ok_iinc (by decide) (Nat.le_of_ble_eq_true rfl) dX5_treeQueries_62 rfl rfl) <| zl_X5_treeQueries_1
theorem dX5_firstUnlike_0 : decode cX5_firstUnlike 0 = .ok (.iconst 0, 1) := by decide +kernel
theorem dX5_firstUnlike_1 : decode cX5_firstUnlike 1 = .ok (.istore_n 2, 1) := by decide +kernel
theorem dX5_firstUnlike_2 : decode cX5_firstUnlike 2 = .ok (.iload_n 2, 1) := by decide +kernel
theorem dX5_firstUnlike_3 : decode cX5_firstUnlike 3 = .ok (.bipush 32, 2) := by decide +kernel
theorem dX5_firstUnlike_5 : decode cX5_firstUnlike 5 = .ok (.if_icmp .ge 26, 3) := by decide +kernel
theorem dX5_firstUnlike_8 : decode cX5_firstUnlike 8 = .ok (.aload_n 0, 1) := by decide +kernel
theorem dX5_firstUnlike_9 : decode cX5_firstUnlike 9 = .ok (.iload_n 2, 1) := by decide +kernel
theorem dX5_firstUnlike_10 : decode cX5_firstUnlike 10 = .ok (.iconst 1, 1) := by decide +kernel
theorem dX5_firstUnlike_11 : decode cX5_firstUnlike 11 = .ok (.invokevirtual 58, 3) := by decide +kernel
theorem dX5_firstUnlike_14 : decode cX5_firstUnlike 14 = .ok (.aload_n 1, 1) := by decide +kernel
theorem dX5_firstUnlike_15 : decode cX5_firstUnlike 15 = .ok (.iload_n 2, 1) := by decide +kernel
theorem dX5_firstUnlike_16 : decode cX5_firstUnlike 16 = .ok (.iconst 1, 1) := by decide +kernel
theorem dX5_firstUnlike_17 : decode cX5_firstUnlike 17 = .ok (.invokevirtual 58, 3) := by decide +kernel
theorem dX5_firstUnlike_20 : decode cX5_firstUnlike 20 = .ok (.if_icmp .eq 5, 3) := by decide +kernel
theorem dX5_firstUnlike_23 : decode cX5_firstUnlike 23 = .ok (.iload_n 2, 1) := by decide +kernel
theorem dX5_firstUnlike_24 : decode cX5_firstUnlike 24 = .ok (.ireturn, 1) := by decide +kernel
theorem dX5_firstUnlike_25 : decode cX5_firstUnlike 25 = .ok (.iinc 2 1, 3) := by decide +kernel
theorem dX5_firstUnlike_28 : decode cX5_firstUnlike 28 = .ok (.goto (-26), 3) := by decide +kernel
theorem dX5_firstUnlike_31 : decode cX5_firstUnlike 31 = .ok (.iconst (-1), 1) := by decide +kernel
theorem dX5_firstUnlike_32 : decode cX5_firstUnlike 32 = .ok (.ireturn, 1) := by decide +kernel
set_option maxRecDepth 20000 in
theorem zl_X5_firstUnlike_0 : z_All z_tab cX5_firstUnlike 3 (some .int) RX5 pc_X5_firstUnlike 0 (k_X5_firstUnlike.drop 0) := z_cons (ok_iconst (by decide) dX5_firstUnlike_0 rfl rfl) <| z_cons (ok_istore_n (Nat.le_of_ble_eq_true rfl) dX5_firstUnlike_1 rfl rfl) <| z_cons (ok_iload_n dX5_firstUnlike_2 rfl rfl) <| z_cons (ok_bipush (by decide) dX5_firstUnlike_3 rfl rfl) <| z_cons (ok_icmp_ge (tgt := 31) (by decide) rfl dX5_firstUnlike_5 rfl rfl) <| z_cons (ok_aload_n dX5_firstUnlike_8 rfl rfl) <| z_cons (ok_iload_n dX5_firstUnlike_9 rfl rfl) <| z_cons (ok_iconst (by decide) dX5_firstUnlike_10 rfl rfl) <| z_cons (ok_callv ⟨by decide, by decide, by decide⟩ (ci := 4) (C := RX6) (T := TX6) rfl go_7 (k := 80) (n := 2) qw_323 qw_203 ⟨by decide +kernel, by decide +kernel, by decide +kernel⟩ (Nat.le_of_ble_eq_true rfl) qw_324 qw_325 qw_326 dX5_firstUnlike_11 rfl rfl) <| z_cons (ok_aload_n dX5_firstUnlike_14 rfl rfl) <| z_cons (ok_iload_n dX5_firstUnlike_15 rfl rfl) <| z_cons (ok_iconst (by decide) dX5_firstUnlike_16 rfl rfl) <| z_cons (ok_callv ⟨by decide, by decide, by decide⟩ (ci := 4) (C := RX6) (T := TX6) rfl go_7 (k := 80) (n := 2) qw_323 qw_203 ⟨by decide +kernel, by decide +kernel, by decide +kernel⟩ (Nat.le_of_ble_eq_true rfl) qw_324 qw_325 qw_326 dX5_firstUnlike_17 rfl rfl) <| z_cons (ok_icmp_eq (tgt := 25) (by decide) rfl dX5_firstUnlike_20 rfl rfl) <| z_cons (ok_iload_n dX5_firstUnlike_23 rfl rfl) <| z_cons (ok_iret rfl dX5_firstUnlike_24 rfl) <| z_cons (ok_iinc (by decide) (Nat.le_of_ble_eq_true rfl) dX5_firstUnlike_25 rfl rfl) <| z_cons (ok_goto (tgt := 2) (by decide) rfl dX5_firstUnlike_28 rfl) <| z_cons (ok_iconst (by decide) dX5_firstUnlike_31 rfl rfl) <| z_cons (ok_iret rfl dX5_firstUnlike_32 rfl) <| z_nil
theorem dX5_valuesIn_0 : decode cX5_valuesIn 0 = .ok (.iconst 0, 1) := by decide +kernel
theorem dX5_valuesIn_1 : decode cX5_valuesIn 1 = .ok (.istore_n 3, 1) := by decide +kernel
theorem dX5_valuesIn_2 : decode cX5_valuesIn 2 = .ok (.iconst 0, 1) := by decide +kernel
theorem dX5_valuesIn_3 : decode cX5_valuesIn 3 = .ok (.istore 4, 2) := by decide +kernel
theorem dX5_valuesIn_5 : decode cX5_valuesIn 5 = .ok (.iload 4, 2) := by decide +kernel
theorem dX5_valuesIn_7 : decode cX5_valuesIn 7 = .ok (.bipush 24, 2) := by decide +kernel
theorem dX5_valuesIn_9 : decode cX5_valuesIn 9 = .ok (.if_icmp .ge 38, 3) := by decide +kernel
theorem dX5_valuesIn_12 : decode cX5_valuesIn 12 = .ok (.iload_n 3, 1) := by decide +kernel
theorem dX5_valuesIn_13 : decode cX5_valuesIn 13 = .ok (.aload_n 0, 1) := by decide +kernel
theorem dX5_valuesIn_14 : decode cX5_valuesIn 14 = .ok (.iload 4, 2) := by decide +kernel
theorem dX5_valuesIn_16 : decode cX5_valuesIn 16 = .ok (.aaload, 1) := by decide +kernel
theorem dX5_valuesIn_17 : decode cX5_valuesIn 17 = .ok (.getfield 41, 3) := by decide +kernel
theorem dX5_valuesIn_20 : decode cX5_valuesIn 20 = .ok (.ifCond .eq 18, 3) := by decide +kernel
theorem dX5_valuesIn_23 : decode cX5_valuesIn 23 = .ok (.aload_n 0, 1) := by decide +kernel
theorem dX5_valuesIn_24 : decode cX5_valuesIn 24 = .ok (.iload 4, 2) := by decide +kernel
theorem dX5_valuesIn_26 : decode cX5_valuesIn 26 = .ok (.iload_n 1, 1) := by decide +kernel
theorem dX5_valuesIn_27 : decode cX5_valuesIn 27 = .ok (.iload_n 2, 1) := by decide +kernel
theorem dX5_valuesIn_28 : decode cX5_valuesIn 28 = .ok (.invokestatic 65, 3) := by decide +kernel
theorem dX5_valuesIn_31 : decode cX5_valuesIn 31 = .ok (.ifCond .ne 7, 3) := by decide +kernel
theorem dX5_valuesIn_34 : decode cX5_valuesIn 34 = .ok (.iconst 1, 1) := by decide +kernel
theorem dX5_valuesIn_35 : decode cX5_valuesIn 35 = .ok (.goto 4, 3) := by decide +kernel
theorem dX5_valuesIn_38 : decode cX5_valuesIn 38 = .ok (.iconst 0, 1) := by decide +kernel
theorem dX5_valuesIn_39 : decode cX5_valuesIn 39 = .ok (.iadd, 1) := by decide +kernel
theorem dX5_valuesIn_40 : decode cX5_valuesIn 40 = .ok (.istore_n 3, 1) := by decide +kernel
theorem dX5_valuesIn_41 : decode cX5_valuesIn 41 = .ok (.iinc 4 1, 3) := by decide +kernel
theorem dX5_valuesIn_44 : decode cX5_valuesIn 44 = .ok (.goto (-39), 3) := by decide +kernel
theorem dX5_valuesIn_47 : decode cX5_valuesIn 47 = .ok (.iload_n 3, 1) := by decide +kernel
theorem dX5_valuesIn_48 : decode cX5_valuesIn 48 = .ok (.ireturn, 1) := by decide +kernel
set_option maxRecDepth 20000 in
theorem zl_X5_valuesIn_0 : z_All z_tab cX5_valuesIn 5 (some .int) RX5 pc_X5_valuesIn 0 (k_X5_valuesIn.drop 0) := z_cons (ok_iconst (by decide) dX5_valuesIn_0 rfl rfl) <| z_cons (ok_istore_n (Nat.le_of_ble_eq_true rfl) dX5_valuesIn_1 rfl rfl) <| z_cons (ok_iconst (by decide) dX5_valuesIn_2 rfl rfl) <| z_cons (ok_istore (Nat.le_of_ble_eq_true rfl) dX5_valuesIn_3 rfl rfl) <| z_cons (ok_iload dX5_valuesIn_5 rfl rfl) <| z_cons (ok_bipush (by decide) dX5_valuesIn_7 rfl rfl) <| z_cons (ok_icmp_ge (tgt := 47) (by decide) rfl dX5_valuesIn_9 rfl rfl) <| z_cons (ok_iload_n dX5_valuesIn_12 rfl rfl) <| z_cons (ok_aload_n dX5_valuesIn_13 rfl rfl) <| z_cons (ok_iload dX5_valuesIn_14 rfl rfl) <| z_cons (ok_aald dX5_valuesIn_16 rfl rfl) <| z_cons (ok_get ⟨by decide, by decide, by decide⟩ (ci := 4) (T := TX6) rfl rfl (Nat.le_of_ble_eq_true rfl) iw_X6 qw_317 gv_7_0 dX5_valuesIn_17 rfl rfl) <| z_cons (ok_if_eq (tgt := 38) (by decide) rfl dX5_valuesIn_20 rfl rfl) <| z_cons (ok_aload_n dX5_valuesIn_23 rfl rfl) <| z_cons (ok_iload dX5_valuesIn_24 rfl rfl) <| z_cons (ok_iload_n dX5_valuesIn_26 rfl rfl) <| z_cons (ok_iload_n dX5_valuesIn_27 rfl rfl) <| z_cons (ok_callS (k := 67) (n := 4) qw_330 qw_297 ⟨by decide +kernel, by decide +kernel, by decide +kernel⟩ (Nat.le_of_ble_eq_true rfl) qw_332 qw_331 dX5_valuesIn_28 rfl rfl) <| z_cons (ok_if_ne (tgt := 38) (by decide) rfl dX5_valuesIn_31 rfl rfl) <| z_cons (ok_iconst (by decide) dX5_valuesIn_34 rfl rfl) <| z_cons (ok_goto (tgt := 39) (by decide) rfl dX5_valuesIn_35 rfl) <| z_cons (ok_iconst (by decide) dX5_valuesIn_38 rfl rfl) <| z_cons (ok_iadd dX5_valuesIn_39 rfl rfl) <| z_cons (ok_istore_n (Nat.le_of_ble_eq_true rfl) dX5_valuesIn_40 rfl rfl) <| z_cons (ok_iinc (by decide) (Nat.le_of_ble_eq_true rfl) dX5_valuesIn_41 rfl rfl) <| z_cons (ok_goto (tgt := 5) (by decide) rfl dX5_valuesIn_44 rfl) <| z_cons (ok_iload_n dX5_valuesIn_47 rfl rfl) <| z_cons (ok_iret rfl dX5_valuesIn_48 rfl) <| z_nil
