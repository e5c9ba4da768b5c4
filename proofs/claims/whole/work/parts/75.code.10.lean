theorem dX10_joins_0 : decode cX10_joins 0 = .ok (.iconst 0, 1) := by decide +kernel
theorem dX10_joins_1 : decode cX10_joins 1 = .ok (.istore_n 2, 1) := by decide +kernel
theorem dX10_joins_2 : decode cX10_joins 2 = .ok (.iload_n 2, 1) := by decide +kernel
theorem dX10_joins_3 : decode cX10_joins 3 = .ok (.iconst 1, 1) := by decide +kernel
theorem dX10_joins_4 : decode cX10_joins 4 = .ok (.iadd, 1) := by decide +kernel
theorem dX10_joins_5 : decode cX10_joins 5 = .ok (.aload_n 0, 1) := by decide +kernel
theorem dX10_joins_6 : decode cX10_joins 6 = .ok (.getfield 10, 3) := by decide +kernel
theorem dX10_joins_9 : decode cX10_joins 9 = .ok (.sipush 330, 3) := by decide +kernel
theorem dX10_joins_12 : decode cX10_joins 12 = .ok (.iload_n 1, 1) := by decide +kernel
theorem dX10_joins_13 : decode cX10_joins 13 = .ok (.iadd, 1) := by decide +kernel
theorem dX10_joins_14 : decode cX10_joins 14 = .ok (.iaload, 1) := by decide +kernel
theorem dX10_joins_15 : decode cX10_joins 15 = .ok (.if_icmp .ge 196, 3) := by decide +kernel
theorem dX10_joins_18 : decode cX10_joins 18 = .ok (.sipush 11614, 3) := by decide +kernel
theorem dX10_joins_21 : decode cX10_joins 21 = .ok (.iload_n 1, 1) := by decide +kernel
theorem dX10_joins_22 : decode cX10_joins 22 = .ok (.iload_n 2, 1) := by decide +kernel
theorem dX10_joins_23 : decode cX10_joins 23 = .ok (.invokestatic 136, 3) := by decide +kernel
theorem dX10_joins_26 : decode cX10_joins 26 = .ok (.istore_n 3, 1) := by decide +kernel
theorem dX10_joins_27 : decode cX10_joins 27 = .ok (.iload_n 3, 1) := by decide +kernel
theorem dX10_joins_28 : decode cX10_joins 28 = .ok (.iconst 3, 1) := by decide +kernel
theorem dX10_joins_29 : decode cX10_joins 29 = .ok (.iadd, 1) := by decide +kernel
theorem dX10_joins_30 : decode cX10_joins 30 = .ok (.istore 4, 2) := by decide +kernel
theorem dX10_joins_32 : decode cX10_joins 32 = .ok (.aload_n 0, 1) := by decide +kernel
theorem dX10_joins_33 : decode cX10_joins 33 = .ok (.getfield 10, 3) := by decide +kernel
theorem dX10_joins_36 : decode cX10_joins 36 = .ok (.iload_n 3, 1) := by decide +kernel
theorem dX10_joins_37 : decode cX10_joins 37 = .ok (.iconst 2, 1) := by decide +kernel
theorem dX10_joins_38 : decode cX10_joins 38 = .ok (.iadd, 1) := by decide +kernel
theorem dX10_joins_39 : decode cX10_joins 39 = .ok (.iaload, 1) := by decide +kernel
theorem dX10_joins_40 : decode cX10_joins 40 = .ok (.ifCond .eq 165, 3) := by decide +kernel
theorem dX10_joins_43 : decode cX10_joins 43 = .ok (.aload_n 0, 1) := by decide +kernel
theorem dX10_joins_44 : decode cX10_joins 44 = .ok (.getfield 10, 3) := by decide +kernel
theorem dX10_joins_47 : decode cX10_joins 47 = .ok (.iload 4, 2) := by decide +kernel
theorem dX10_joins_49 : decode cX10_joins 49 = .ok (.iconst 2, 1) := by decide +kernel
theorem dX10_joins_50 : decode cX10_joins 50 = .ok (.iadd, 1) := by decide +kernel
theorem dX10_joins_51 : decode cX10_joins 51 = .ok (.iaload, 1) := by decide +kernel
theorem dX10_joins_52 : decode cX10_joins 52 = .ok (.ifCond .eq 153, 3) := by decide +kernel
theorem dX10_joins_55 : decode cX10_joins 55 = .ok (.aload_n 0, 1) := by decide +kernel
theorem dX10_joins_56 : decode cX10_joins 56 = .ok (.getfield 10, 3) := by decide +kernel
theorem dX10_joins_59 : decode cX10_joins 59 = .ok (.iload_n 3, 1) := by decide +kernel
theorem dX10_joins_60 : decode cX10_joins 60 = .ok (.iaload, 1) := by decide +kernel
theorem dX10_joins_61 : decode cX10_joins 61 = .ok (.aload_n 0, 1) := by decide +kernel
theorem dX10_joins_62 : decode cX10_joins 62 = .ok (.getfield 10, 3) := by decide +kernel
theorem dX10_joins_65 : decode cX10_joins 65 = .ok (.iload 4, 2) := by decide +kernel
theorem dX10_joins_67 : decode cX10_joins 67 = .ok (.iaload, 1) := by decide +kernel
theorem dX10_joins_68 : decode cX10_joins 68 = .ok (.if_icmp .ne 137, 3) := by decide +kernel
theorem dX10_joins_71 : decode cX10_joins 71 = .ok (.aload_n 0, 1) := by decide +kernel
theorem dX10_joins_72 : decode cX10_joins 72 = .ok (.getfield 10, 3) := by decide +kernel
theorem dX10_joins_75 : decode cX10_joins 75 = .ok (.iload_n 3, 1) := by decide +kernel
theorem dX10_joins_76 : decode cX10_joins 76 = .ok (.iaload, 1) := by decide +kernel
theorem dX10_joins_77 : decode cX10_joins 77 = .ok (.ifCond .eq 128, 3) := by decide +kernel
theorem dX10_joins_80 : decode cX10_joins 80 = .ok (.aload_n 0, 1) := by decide +kernel
theorem dX10_joins_81 : decode cX10_joins 81 = .ok (.getfield 10, 3) := by decide +kernel
theorem dX10_joins_84 : decode cX10_joins 84 = .ok (.iload_n 3, 1) := by decide +kernel
theorem dX10_joins_85 : decode cX10_joins 85 = .ok (.iconst 1, 1) := by decide +kernel
theorem dX10_joins_86 : decode cX10_joins 86 = .ok (.iadd, 1) := by decide +kernel
theorem dX10_joins_87 : decode cX10_joins 87 = .ok (.iaload, 1) := by decide +kernel
theorem dX10_joins_88 : decode cX10_joins 88 = .ok (.iconst 2, 1) := by decide +kernel
theorem dX10_joins_89 : decode cX10_joins 89 = .ok (.irem, 1) := by decide +kernel
theorem dX10_joins_90 : decode cX10_joins 90 = .ok (.iconst 1, 1) := by decide +kernel
theorem dX10_joins_91 : decode cX10_joins 91 = .ok (.if_icmp .eq 114, 3) := by decide +kernel
theorem dX10_joins_94 : decode cX10_joins 94 = .ok (.aload_n 0, 1) := by decide +kernel
theorem dX10_joins_95 : decode cX10_joins 95 = .ok (.getfield 10, 3) := by decide +kernel
theorem dX10_joins_98 : decode cX10_joins 98 = .ok (.iload 4, 2) := by decide +kernel
theorem dX10_joins_100 : decode cX10_joins 100 = .ok (.iconst 1, 1) := by decide +kernel
theorem dX10_joins_101 : decode cX10_joins 101 = .ok (.iadd, 1) := by decide +kernel
theorem dX10_joins_102 : decode cX10_joins 102 = .ok (.iaload, 1) := by decide +kernel
theorem dX10_joins_103 : decode cX10_joins 103 = .ok (.aload_n 0, 1) := by decide +kernel
theorem dX10_joins_104 : decode cX10_joins 104 = .ok (.getfield 10, 3) := by decide +kernel
theorem dX10_joins_107 : decode cX10_joins 107 = .ok (.iload_n 3, 1) := by decide +kernel
theorem dX10_joins_108 : decode cX10_joins 108 = .ok (.iconst 1, 1) := by decide +kernel
theorem dX10_joins_109 : decode cX10_joins 109 = .ok (.iadd, 1) := by decide +kernel
theorem dX10_joins_110 : decode cX10_joins 110 = .ok (.iaload, 1) := by decide +kernel
theorem dX10_joins_111 : decode cX10_joins 111 = .ok (.iconst 1, 1) := by decide +kernel
theorem dX10_joins_112 : decode cX10_joins 112 = .ok (.iadd, 1) := by decide +kernel
theorem dX10_joins_113 : decode cX10_joins 113 = .ok (.if_icmp .eq 6, 3) := by decide +kernel
theorem dX10_joins_116 : decode cX10_joins 116 = .ok (.goto 89, 3) := by decide +kernel
theorem dX10_joins_119 : decode cX10_joins 119 = .ok (.aload_n 0, 1) := by decide +kernel
theorem dX10_joins_120 : decode cX10_joins 120 = .ok (.getfield 10, 3) := by decide +kernel
theorem dX10_joins_123 : decode cX10_joins 123 = .ok (.iload_n 3, 1) := by decide +kernel
theorem dX10_joins_124 : decode cX10_joins 124 = .ok (.dup2, 1) := by decide +kernel
theorem dX10_joins_125 : decode cX10_joins 125 = .ok (.iaload, 1) := by decide +kernel
theorem dX10_joins_126 : decode cX10_joins 126 = .ok (.iconst 1, 1) := by decide +kernel
theorem dX10_joins_127 : decode cX10_joins 127 = .ok (.isub, 1) := by decide +kernel
theorem dX10_joins_128 : decode cX10_joins 128 = .ok (.iastore, 1) := by decide +kernel
theorem dX10_joins_129 : decode cX10_joins 129 = .ok (.aload_n 0, 1) := by decide +kernel
theorem dX10_joins_130 : decode cX10_joins 130 = .ok (.getfield 10, 3) := by decide +kernel
theorem dX10_joins_133 : decode cX10_joins 133 = .ok (.iload_n 3, 1) := by decide +kernel
theorem dX10_joins_134 : decode cX10_joins 134 = .ok (.iconst 1, 1) := by decide +kernel
theorem dX10_joins_135 : decode cX10_joins 135 = .ok (.iadd, 1) := by decide +kernel
theorem dX10_joins_136 : decode cX10_joins 136 = .ok (.dup2, 1) := by decide +kernel
theorem dX10_joins_137 : decode cX10_joins 137 = .ok (.iaload, 1) := by decide +kernel
theorem dX10_joins_138 : decode cX10_joins 138 = .ok (.iconst 2, 1) := by decide +kernel
theorem dX10_joins_139 : decode cX10_joins 139 = .ok (.idiv, 1) := by decide +kernel
theorem dX10_joins_140 : decode cX10_joins 140 = .ok (.iastore, 1) := by decide +kernel
theorem dX10_joins_141 : decode cX10_joins 141 = .ok (.aload_n 0, 1) := by decide +kernel
theorem dX10_joins_142 : decode cX10_joins 142 = .ok (.getfield 10, 3) := by decide +kernel
theorem dX10_joins_145 : decode cX10_joins 145 = .ok (.sipush 330, 3) := by decide +kernel
theorem dX10_joins_148 : decode cX10_joins 148 = .ok (.iload_n 1, 1) := by decide +kernel
theorem dX10_joins_149 : decode cX10_joins 149 = .ok (.iadd, 1) := by decide +kernel
theorem dX10_joins_150 : decode cX10_joins 150 = .ok (.dup2, 1) := by decide +kernel
theorem dX10_joins_151 : decode cX10_joins 151 = .ok (.iaload, 1) := by decide +kernel
theorem dX10_joins_152 : decode cX10_joins 152 = .ok (.iconst 1, 1) := by decide +kernel
theorem dX10_joins_153 : decode cX10_joins 153 = .ok (.isub, 1) := by decide +kernel
theorem dX10_joins_154 : decode cX10_joins 154 = .ok (.iastore, 1) := by decide +kernel
theorem dX10_joins_155 : decode cX10_joins 155 = .ok (.iload 4, 2) := by decide +kernel
theorem dX10_joins_157 : decode cX10_joins 157 = .ok (.istore 5, 2) := by decide +kernel
theorem dX10_joins_159 : decode cX10_joins 159 = .ok (.iload 5, 2) := by decide +kernel
theorem dX10_joins_161 : decode cX10_joins 161 = .ok (.sipush 11614, 3) := by decide +kernel
theorem dX10_joins_164 : decode cX10_joins 164 = .ok (.iload_n 1, 1) := by decide +kernel
theorem dX10_joins_165 : decode cX10_joins 165 = .ok (.aload_n 0, 1) := by decide +kernel
theorem dX10_joins_166 : decode cX10_joins 166 = .ok (.getfield 10, 3) := by decide +kernel
theorem dX10_joins_169 : decode cX10_joins 169 = .ok (.sipush 330, 3) := by decide +kernel
theorem dX10_joins_172 : decode cX10_joins 172 = .ok (.iload_n 1, 1) := by decide +kernel
theorem dX10_joins_173 : decode cX10_joins 173 = .ok (.iadd, 1) := by decide +kernel
theorem dX10_joins_174 : decode cX10_joins 174 = .ok (.iaload, 1) := by decide +kernel
theorem dX10_joins_175 : decode cX10_joins 175 = .ok (.invokestatic 136, 3) := by decide +kernel
theorem dX10_joins_178 : decode cX10_joins 178 = .ok (.if_icmp .ge 25, 3) := by decide +kernel
theorem dX10_joins_181 : decode cX10_joins 181 = .ok (.aload_n 0, 1) := by decide +kernel
theorem dX10_joins_182 : decode cX10_joins 182 = .ok (.getfield 10, 3) := by decide +kernel
theorem dX10_joins_185 : decode cX10_joins 185 = .ok (.iload 5, 2) := by decide +kernel
theorem dX10_joins_187 : decode cX10_joins 187 = .ok (.aload_n 0, 1) := by decide +kernel
theorem dX10_joins_188 : decode cX10_joins 188 = .ok (.getfield 10, 3) := by decide +kernel
theorem dX10_joins_191 : decode cX10_joins 191 = .ok (.iload 5, 2) := by decide +kernel
theorem dX10_joins_193 : decode cX10_joins 193 = .ok (.iconst 3, 1) := by decide +kernel
theorem dX10_joins_194 : decode cX10_joins 194 = .ok (.iadd, 1) := by decide +kernel
theorem dX10_joins_195 : decode cX10_joins 195 = .ok (.iaload, 1) := by decide +kernel
theorem dX10_joins_196 : decode cX10_joins 196 = .ok (.iastore, 1) := by decide +kernel
theorem dX10_joins_197 : decode cX10_joins 197 = .ok (.iinc 5 1, 3) := by decide +kernel
theorem dX10_joins_200 : decode cX10_joins 200 = .ok (.goto (-41), 3) := by decide +kernel
theorem dX10_joins_203 : decode cX10_joins 203 = .ok (.iconst 1, 1) := by decide +kernel
theorem dX10_joins_204 : decode cX10_joins 204 = .ok (.ireturn, 1) := by decide +kernel
theorem dX10_joins_205 : decode cX10_joins 205 = .ok (.iinc 2 1, 3) := by decide +kernel
theorem dX10_joins_208 : decode cX10_joins 208 = .ok (.goto (-206), 3) := by decide +kernel
theorem dX10_joins_211 : decode cX10_joins 211 = .ok (.iconst 0, 1) := by decide +kernel
theorem dX10_joins_212 : decode cX10_joins 212 = .ok (.ireturn, 1) := by decide +kernel
set_option maxRecDepth 20000 in
theorem zl_X10_joins_3 : z_All z_tab cX10_joins 6 (some .boolean) RX10 pc_X10_joins 120 (k_X10_joins.drop 120) := z_cons (ok_getr (k := 0) ⟨by decide, by decide, by decide⟩ (ci := 8) (T := TX10) rfl rfl (Nat.le_of_ble_eq_true rfl) iw_X10 qw_616 gr_11_0 (fun _ _ => by simp) (fun w i => List.mem_of_getElem? (i := 0) rfl) dX10_joins_188 rfl rfl) <| z_cons (ok_iload dX10_joins_191 rfl rfl) <| z_cons (ok_iconst (by decide) dX10_joins_193 rfl rfl) <| z_cons (ok_iadd dX10_joins_194 rfl rfl) <| z_cons (ok_iald dX10_joins_195 rfl rfl) <| z_cons (ok_iast dX10_joins_196 rfl rfl) <| z_cons (ok_iinc (by decide) (Nat.le_of_ble_eq_true rfl) dX10_joins_197 rfl rfl) <| z_cons (ok_goto (tgt := 159) (by decide) rfl dX10_joins_200 rfl) <| z_cons (ok_iconst (by decide) dX10_joins_203 rfl rfl) <| z_cons (ok_zret rfl dX10_joins_204 rfl) <| z_cons (ok_iinc (by decide) (Nat.le_of_ble_eq_true rfl) dX10_joins_205 rfl rfl) <| z_cons (ok_goto (tgt := 2) (by decide) rfl dX10_joins_208 rfl) <| z_cons (ok_iconst (by decide) dX10_joins_211 rfl rfl) <| z_cons (ok_zret rfl dX10_joins_212 rfl) <| z_nil
set_option maxRecDepth 20000 in
theorem zl_X10_joins_2 : z_All z_tab cX10_joins 6 (some .boolean) RX10 pc_X10_joins 80 (k_X10_joins.drop 80) := z_cons (ok_iconst (by decide) dX10_joins_126 rfl rfl) <| z_cons (ok_isub dX10_joins_127 rfl rfl) <| z_cons (ok_iast dX10_joins_128 rfl rfl) <| z_cons (ok_aload_n dX10_joins_129 rfl rfl) <| z_cons (ok_getr (k := 0) ⟨by decide, by decide, by decide⟩ (ci := 8) (T := TX10) rfl rfl (Nat.le_of_ble_eq_true rfl) iw_X10 qw_616 gr_11_0 (fun _ _ => by simp) (fun w i => List.mem_of_getElem? (i := 0) rfl) dX10_joins_130 rfl rfl) <| z_cons (ok_iload_n dX10_joins_133 rfl rfl) <| z_cons (ok_iconst (by decide) dX10_joins_134 rfl rfl) <| z_cons (ok_iadd dX10_joins_135 rfl rfl) <| z_cons (ok_dup2 dX10_joins_136 rfl rfl) <| z_cons (ok_iald dX10_joins_137 rfl rfl) <| z_cons (ok_iconst (by decide) dX10_joins_138 rfl rfl) <| z_cons (ok_idiv dX10_joins_139 rfl rfl) <| z_cons (ok_iast dX10_joins_140 rfl rfl) <| z_cons (ok_aload_n dX10_joins_141 rfl rfl) <| z_cons (ok_getr (k := 0) ⟨by decide, by decide, by decide⟩ (ci := 8) (T := TX10) rfl rfl (Nat.le_of_ble_eq_true rfl) iw_X10 qw_616 gr_11_0 (fun _ _ => by simp) (fun w i => List.mem_of_getElem? (i := 0) rfl) dX10_joins_142 rfl rfl) <| z_cons (ok_sipush (by decide) dX10_joins_145 rfl rfl) <| z_cons (ok_iload_n dX10_joins_148 rfl rfl) <| z_cons (ok_iadd dX10_joins_149 rfl rfl) <| z_cons (ok_dup2 dX10_joins_150 rfl rfl) <| z_cons (ok_iald dX10_joins_151 rfl rfl) <| z_cons (ok_iconst (by decide) dX10_joins_152 rfl rfl) <| z_cons (ok_isub dX10_joins_153 rfl rfl) <| z_cons (ok_iast dX10_joins_154 rfl rfl) <| z_cons (ok_iload dX10_joins_155 rfl rfl) <| z_cons (ok_istore (Nat.le_of_ble_eq_true rfl) dX10_joins_157 rfl rfl) <| z_cons (ok_iload dX10_joins_159 rfl rfl) <| z_cons (ok_sipush (by decide) dX10_joins_161 rfl rfl) <| z_cons (ok_iload_n dX10_joins_164 rfl rfl) <| z_cons (ok_aload_n dX10_joins_165 rfl rfl) <| z_cons (ok_getr (k := 0) ⟨by decide, by decide, by decide⟩ (ci := 8) (T := TX10) rfl rfl (Nat.le_of_ble_eq_true rfl) iw_X10 qw_616 gr_11_0 (fun _ _ => by simp) (fun w i => List.mem_of_getElem? (i := 0) rfl) dX10_joins_166 rfl rfl) <| z_cons (ok_sipush (by decide) dX10_joins_169 rfl rfl) <| z_cons (ok_iload_n dX10_joins_172 rfl rfl) <| z_cons (ok_iadd dX10_joins_173 rfl rfl) <| z_cons (ok_iald dX10_joins_174 rfl rfl) <| z_cons (ok_callS (k := 207) (n := 3) qw_738 qw_618 ⟨by decide +kernel, by decide +kernel, by decide +kernel⟩ (Nat.le_of_ble_eq_true rfl) qw_740 qw_739 dX10_joins_175 rfl rfl) <| z_cons (ok_icmp_ge (tgt := 203) (by decide) rfl dX10_joins_178 rfl rfl) <| z_cons (ok_aload_n dX10_joins_181 rfl rfl) <| z_cons (ok_getr (k := 0) ⟨by decide, by decide, by decide⟩ (ci := 8) (T := TX10) rfl rfl (Nat.le_of_ble_eq_true rfl) iw_X10 qw_616 gr_11_0 (fun _ _ => by simp) (fun w i => List.mem_of_getElem? (i := 0) rfl) dX10_joins_182 rfl rfl) <| z_cons (ok_iload dX10_joins_185 rfl rfl) <| z_cons (ok_aload_n dX10_joins_187 rfl rfl) <| zl_X10_joins_3
set_option maxRecDepth 20000 in
theorem zl_X10_joins_1 : z_All z_tab cX10_joins 6 (some .boolean) RX10 pc_X10_joins 40 (k_X10_joins.drop 40) := z_cons (ok_getr (k := 0) ⟨by decide, by decide, by decide⟩ (ci := 8) (T := TX10) rfl rfl (Nat.le_of_ble_eq_true rfl) iw_X10 qw_616 gr_11_0 (fun _ _ => by simp) (fun w i => List.mem_of_getElem? (i := 0) rfl) dX10_joins_62 rfl rfl) <| z_cons (ok_iload dX10_joins_65 rfl rfl) <| z_cons (ok_iald dX10_joins_67 rfl rfl) <| z_cons (ok_icmp_ne (tgt := 205) (by decide) rfl dX10_joins_68 rfl rfl) <| z_cons (ok_aload_n dX10_joins_71 rfl rfl) <| z_cons (ok_getr (k := 0) ⟨by decide, by decide, by decide⟩ (ci := 8) (T := TX10) rfl rfl (Nat.le_of_ble_eq_true rfl) iw_X10 qw_616 gr_11_0 (fun _ _ => by simp) (fun w i => List.mem_of_getElem? (i := 0) rfl) dX10_joins_72 rfl rfl) <| z_cons (ok_iload_n dX10_joins_75 rfl rfl) <| z_cons (ok_iald dX10_joins_76 rfl rfl) <| z_cons (ok_if_eq (tgt := 205) (by decide) rfl dX10_joins_77 rfl rfl) <| z_cons (ok_aload_n dX10_joins_80 rfl rfl) <| z_cons (ok_getr (k := 0) ⟨by decide, by decide, by decide⟩ (ci := 8) (T := TX10) rfl rfl (Nat.le_of_ble_eq_true rfl) iw_X10 qw_616 gr_11_0 (fun _ _ => by simp) (fun w i => List.mem_of_getElem? (i := 0) rfl) dX10_joins_81 rfl rfl) <| z_cons (ok_iload_n dX10_joins_84 rfl rfl) <| z_cons (ok_iconst (by decide) dX10_joins_85 rfl rfl) <| z_cons (ok_iadd dX10_joins_86 rfl rfl) <| z_cons (ok_iald dX10_joins_87 rfl rfl) <| z_cons (ok_iconst (by decide) dX10_joins_88 rfl rfl) <| z_cons (ok_irem dX10_joins_89 rfl rfl) <| z_cons (ok_iconst (by decide) dX10_joins_90 rfl rfl) <| z_cons (ok_icmp_eq (tgt := 205) (by decide) rfl dX10_joins_91 rfl rfl) <| z_cons (ok_aload_n dX10_joins_94 rfl rfl) <| z_cons (ok_getr (k := 0) ⟨by decide, by decide, by decide⟩ (ci := 8) (T := TX10) rfl rfl (Nat.le_of_ble_eq_true rfl) iw_X10 qw_616 gr_11_0 (fun _ _ => by simp) (fun w i => List.mem_of_getElem? (i := 0) rfl) dX10_joins_95 rfl rfl) <| z_cons (ok_iload dX10_joins_98 rfl rfl) <| z_cons (ok_iconst (by decide) dX10_joins_100 rfl rfl) <| z_cons (ok_iadd dX10_joins_101 rfl rfl) <| z_cons (ok_iald dX10_joins_102 rfl rfl) <| z_cons (ok_aload_n dX10_joins_103 rfl rfl) <| z_cons (ok_getr (k := 0) ⟨by decide, by decide, by decide⟩ (ci := 8) (T := TX10) rfl rfl (Nat.le_of_ble_eq_true rfl) iw_X10 qw_616 gr_11_0 (fun _ _ => by simp) (fun w i => List.mem_of_getElem? (i := 0) rfl) dX10_joins_104 rfl rfl) <| z_cons (ok_iload_n dX10_joins_107 rfl rfl) <| z_cons (ok_iconst (by decide) dX10_joins_108 rfl rfl) <| z_cons (ok_iadd dX10_joins_109 rfl rfl) <| z_cons (ok_iald dX10_joins_110 rfl rfl) <| z_cons (ok_iconst (by decide) dX10_joins_111 rfl rfl) <| z_cons (ok_iadd dX10_joins_112 rfl rfl) <| z_cons (ok_icmp_eq (tgt := 119) (by decide) rfl dX10_joins_113 rfl rfl) <| z_cons (ok_goto (tgt := 205) (by decide) rfl dX10_joins_116 rfl) <| z_cons (ok_aload_n dX10_joins_119 rfl rfl) <| z_cons (ok_getr (k := 0) ⟨by decide, by decide, by decide⟩ (ci := 8) (T := TX10) rfl rfl (Nat.le_of_ble_eq_true rfl) iw_X10 qw_616 gr_11_0 (fun _ _ => by simp) (fun w i => List.mem_of_getElem? (i := 0) rfl) dX10_joins_120 rfl rfl) <| z_cons (ok_iload_n dX10_joins_123 rfl rfl) <| z_cons (ok_dup2 dX10_joins_124 rfl rfl) <| z_cons (ok_iald dX10_joins_125 rfl rfl) <| zl_X10_joins_2
set_option maxRecDepth 20000 in
theorem zl_X10_joins_0 : z_All z_tab cX10_joins 6 (some .boolean) RX10 pc_X10_joins 0 (k_X10_joins.drop 0) := z_cons (ok_iconst (by decide) dX10_joins_0 rfl rfl) <| z_cons (ok_istore_n (Nat.le_of_ble_eq_true rfl) dX10_joins_1 rfl rfl) <| z_cons (ok_iload_n dX10_joins_2 rfl rfl) <| z_cons (ok_iconst (by decide) dX10_joins_3 rfl rfl) <| z_cons (ok_iadd dX10_joins_4 rfl rfl) <| z_cons (ok_aload_n dX10_joins_5 rfl rfl) <| z_cons (ok_getr (k := 0) ⟨by decide, by decide, by decide⟩ (ci := 8) (T := TX10) rfl rfl (Nat.le_of_ble_eq_true rfl) iw_X10 qw_616 gr_11_0 (fun _ _ => by simp) (fun w i => List.mem_of_getElem? (i := 0) rfl) dX10_joins_6 rfl rfl) <| z_cons (ok_sipush (by decide) dX10_joins_9 rfl rfl) <| z_cons (ok_iload_n dX10_joins_12 rfl rfl) <| z_cons (ok_iadd dX10_joins_13 rfl rfl) <| z_cons (ok_iald dX10_joins_14 rfl rfl) <| z_cons (ok_icmp_ge (tgt := 211) (by decide) rfl dX10_joins_15 rfl rfl) <| z_cons (ok_sipush (by decide) dX10_joins_18 rfl rfl) <| z_cons (ok_iload_n dX10_joins_21 rfl rfl) <| z_cons (ok_iload_n dX10_joins_22 rfl rfl) <| z_cons (ok_callS (k := 207) (n := 3) qw_738 qw_618 ⟨by decide +kernel, by decide +kernel, by decide +kernel⟩ (Nat.le_of_ble_eq_true rfl) qw_740 qw_739 dX10_joins_23 rfl rfl) <| z_cons (ok_istore_n (Nat.le_of_ble_eq_true rfl) dX10_joins_26 rfl rfl) <| z_cons (ok_iload_n dX10_joins_27 rfl rfl) <| z_cons (ok_iconst (by decide) dX10_joins_28 rfl rfl) <| z_cons (ok_iadd dX10_joins_29 rfl rfl) <| z_cons (ok_istore (Nat.le_of_ble_eq_true rfl) dX10_joins_30 rfl rfl) <| z_cons (ok_aload_n dX10_joins_32 rfl rfl) <| z_cons (ok_getr (k := 0) ⟨by decide, by decide, by decide⟩ (ci := 8) (T := TX10) rfl rfl (Nat.le_of_ble_eq_true rfl) iw_X10 qw_616 gr_11_0 (fun _ _ => by simp) (fun w i => List.mem_of_getElem? (i := 0) rfl) dX10_joins_33 rfl rfl) <| z_cons (ok_iload_n dX10_joins_36 rfl rfl) <| z_cons (ok_iconst (by decide) dX10_joins_37 rfl rfl) <| z_cons (ok_iadd dX10_joins_38 rfl rfl) <| z_cons (ok_iald dX10_joins_39 rfl rfl) <| z_cons (ok_if_eq (tgt := 205) (by decide) rfl dX10_joins_40 rfl rfl) <| z_cons (ok_aload_n dX10_joins_43 rfl rfl) <| z_cons (ok_getr (k := 0) ⟨by decide, by decide, by decide⟩ (ci := 8) (T := TX10) rfl rfl (Nat.le_of_ble_eq_true rfl) iw_X10 qw_616 gr_11_0 (fun _ _ => by simp) (fun w i => List.mem_of_getElem? (i := 0) rfl) dX10_joins_44 rfl rfl) <| z_cons (ok_iload dX10_joins_47 rfl rfl) <| z_cons (ok_iconst (by decide) dX10_joins_49 rfl rfl) <| z_cons (ok_iadd dX10_joins_50 rfl rfl) <| z_cons (ok_iald dX10_joins_51 rfl rfl) <| z_cons (ok_if_eq (tgt := 205) (by decide) rfl dX10_joins_52 rfl rfl) <| z_cons (ok_aload_n dX10_joins_55 rfl rfl) <| z_cons (ok_getr (k := 0) ⟨by decide, by decide, by decide⟩ (ci := 8) (T := TX10) rfl rfl (Nat.le_of_ble_eq_true rfl) iw_X10 qw_616 gr_11_0 (fun _ _ => by simp) (fun w i => List.mem_of_getElem? (i := 0) rfl) dX10_joins_56 rfl rfl) <| z_cons (ok_iload_n dX10_joins_59 rfl rfl) <| z_cons (ok_iald dX10_joins_60 rfl rfl) <| z_cons (ok_aload_n dX10_joins_61 rfl rfl) <| zl_X10_joins_1
theorem dX10_learns_0 : decode cX10_learns 0 = .ok (.iconst 0, 1) := by decide +kernel
theorem dX10_learns_1 : decode cX10_learns 1 = .ok (.istore_n 2, 1) := by decide +kernel
theorem dX10_learns_2 : decode cX10_learns 2 = .ok (.iload_n 2, 1) := by decide +kernel
theorem dX10_learns_3 : decode cX10_learns 3 = .ok (.iconst 3, 1) := by decide +kernel
theorem dX10_learns_4 : decode cX10_learns 4 = .ok (.aload_n 0, 1) := by decide +kernel
theorem dX10_learns_5 : decode cX10_learns 5 = .ok (.getfield 10, 3) := by decide +kernel
theorem dX10_learns_8 : decode cX10_learns 8 = .ok (.sipush 334, 3) := by decide +kernel
theorem dX10_learns_11 : decode cX10_learns 11 = .ok (.iload_n 1, 1) := by decide +kernel
theorem dX10_learns_12 : decode cX10_learns 12 = .ok (.iadd, 1) := by decide +kernel
theorem dX10_learns_13 : decode cX10_learns 13 = .ok (.iaload, 1) := by decide +kernel
theorem dX10_learns_14 : decode cX10_learns 14 = .ok (.imul, 1) := by decide +kernel
theorem dX10_learns_15 : decode cX10_learns 15 = .ok (.if_icmp .ge 39, 3) := by decide +kernel
theorem dX10_learns_18 : decode cX10_learns 18 = .ok (.aload_n 0, 1) := by decide +kernel
theorem dX10_learns_19 : decode cX10_learns 19 = .ok (.getfield 10, 3) := by decide +kernel
theorem dX10_learns_22 : decode cX10_learns 22 = .ok (.sipush 11614, 3) := by decide +kernel
theorem dX10_learns_25 : decode cX10_learns 25 = .ok (.iload_n 1, 1) := by decide +kernel
theorem dX10_learns_26 : decode cX10_learns 26 = .ok (.iconst 0, 1) := by decide +kernel
theorem dX10_learns_27 : decode cX10_learns 27 = .ok (.invokestatic 136, 3) := by decide +kernel
theorem dX10_learns_30 : decode cX10_learns 30 = .ok (.iload_n 2, 1) := by decide +kernel
theorem dX10_learns_31 : decode cX10_learns 31 = .ok (.iadd, 1) := by decide +kernel
theorem dX10_learns_32 : decode cX10_learns 32 = .ok (.aload_n 0, 1) := by decide +kernel
theorem dX10_learns_33 : decode cX10_learns 33 = .ok (.getfield 10, 3) := by decide +kernel
theorem dX10_learns_36 : decode cX10_learns 36 = .ok (.sipush 22414, 3) := by decide +kernel
theorem dX10_learns_39 : decode cX10_learns 39 = .ok (.iload_n 1, 1) := by decide +kernel
theorem dX10_learns_40 : decode cX10_learns 40 = .ok (.iconst 0, 1) := by decide +kernel
theorem dX10_learns_41 : decode cX10_learns 41 = .ok (.invokestatic 136, 3) := by decide +kernel
theorem dX10_learns_44 : decode cX10_learns 44 = .ok (.iload_n 2, 1) := by decide +kernel
theorem dX10_learns_45 : decode cX10_learns 45 = .ok (.iadd, 1) := by decide +kernel
theorem dX10_learns_46 : decode cX10_learns 46 = .ok (.iaload, 1) := by decide +kernel
theorem dX10_learns_47 : decode cX10_learns 47 = .ok (.iastore, 1) := by decide +kernel
theorem dX10_learns_48 : decode cX10_learns 48 = .ok (.iinc 2 1, 3) := by decide +kernel
theorem dX10_learns_51 : decode cX10_learns 51 = .ok (.goto (-49), 3) := by decide +kernel
theorem dX10_learns_54 : decode cX10_learns 54 = .ok (.aload_n 0, 1) := by decide +kernel
theorem dX10_learns_55 : decode cX10_learns 55 = .ok (.getfield 10, 3) := by decide +kernel
theorem dX10_learns_58 : decode cX10_learns 58 = .ok (.sipush 330, 3) := by decide +kernel
theorem dX10_learns_61 : decode cX10_learns 61 = .ok (.iload_n 1, 1) := by decide +kernel
theorem dX10_learns_62 : decode cX10_learns 62 = .ok (.iadd, 1) := by decide +kernel
theorem dX10_learns_63 : decode cX10_learns 63 = .ok (.aload_n 0, 1) := by decide +kernel
theorem dX10_learns_64 : decode cX10_learns 64 = .ok (.getfield 10, 3) := by decide +kernel
theorem dX10_learns_67 : decode cX10_learns 67 = .ok (.sipush 334, 3) := by decide +kernel
theorem dX10_learns_70 : decode cX10_learns 70 = .ok (.iload_n 1, 1) := by decide +kernel
theorem dX10_learns_71 : decode cX10_learns 71 = .ok (.iadd, 1) := by decide +kernel
theorem dX10_learns_72 : decode cX10_learns 72 = .ok (.iaload, 1) := by decide +kernel
theorem dX10_learns_73 : decode cX10_learns 73 = .ok (.iastore, 1) := by decide +kernel
theorem dX10_learns_74 : decode cX10_learns 74 = .ok (.iconst 1, 1) := by decide +kernel
theorem dX10_learns_75 : decode cX10_learns 75 = .ok (.istore_n 2, 1) := by decide +kernel
theorem dX10_learns_76 : decode cX10_learns 76 = .ok (.iload_n 2, 1) := by decide +kernel
theorem dX10_learns_77 : decode cX10_learns 77 = .ok (.ifCond .eq 12, 3) := by decide +kernel
theorem dX10_learns_80 : decode cX10_learns 80 = .ok (.aload_n 0, 1) := by decide +kernel
theorem dX10_learns_81 : decode cX10_learns 81 = .ok (.iload_n 1, 1) := by decide +kernel
theorem dX10_learns_82 : decode cX10_learns 82 = .ok (.invokevirtual 179, 3) := by decide +kernel
theorem dX10_learns_85 : decode cX10_learns 85 = .ok (.istore_n 2, 1) := by decide +kernel
theorem dX10_learns_86 : decode cX10_learns 86 = .ok (.goto (-10), 3) := by decide +kernel
theorem dX10_learns_89 : decode cX10_learns 89 = .ok (.return_, 1) := by decide +kernel
set_option maxRecDepth 20000 in
theorem zl_X10_learns_1 : z_All z_tab cX10_learns 3 none RX10 pc_X10_learns 40 (k_X10_learns.drop 40) := z_cons (ok_iload_n dX10_learns_70 rfl rfl) <| z_cons (ok_iadd dX10_learns_71 rfl rfl) <| z_cons (ok_iald dX10_learns_72 rfl rfl) <| z_cons (ok_iast dX10_learns_73 rfl rfl) <| z_cons (ok_iconst (by decide) dX10_learns_74 rfl rfl) <| z_cons (ok_istore_n (Nat.le_of_ble_eq_true rfl) dX10_learns_75 rfl rfl) <| z_cons (ok_iload_n dX10_learns_76 rfl rfl) <| z_cons (ok_if_eq (tgt := 89) (by decide) rfl dX10_learns_77 rfl rfl) <| z_cons (ok_aload_n dX10_learns_80 rfl rfl) <| z_cons (ok_iload_n dX10_learns_81 rfl rfl) <| z_cons (ok_callv ⟨by decide, by decide, by decide⟩ (ci := 8) (C := RX10) (T := TX10) rfl go_11 (k := 217) (n := 1) qw_786 qw_618 ⟨by decide +kernel, by decide +kernel, by decide +kernel⟩ (Nat.le_of_ble_eq_true rfl) qw_787 qw_788 qw_789 dX10_learns_82 rfl rfl) <| z_cons (ok_istore_n (Nat.le_of_ble_eq_true rfl) dX10_learns_85 rfl rfl) <| z_cons (ok_goto (tgt := 76) (by decide) rfl dX10_learns_86 rfl) <| z_cons (ok_ret rfl dX10_learns_89 rfl) <| z_nil
set_option maxRecDepth 20000 in
theorem zl_X10_learns_0 : z_All z_tab cX10_learns 3 none RX10 pc_X10_learns 0 (k_X10_learns.drop 0) := z_cons (ok_iconst (by decide) dX10_learns_0 rfl rfl) <| z_cons (ok_istore_n (Nat.le_of_ble_eq_true rfl) dX10_learns_1 rfl rfl) <| z_cons (ok_iload_n dX10_learns_2 rfl rfl) <| z_cons (ok_iconst (by decide) dX10_learns_3 rfl rfl) <| z_cons (ok_aload_n dX10_learns_4 rfl rfl) <| z_cons (ok_getr (k := 0) ⟨by decide, by decide, by decide⟩ (ci := 8) (T := TX10) rfl rfl (Nat.le_of_ble_eq_true rfl) iw_X10 qw_616 gr_11_0 (fun _ _ => by simp) (fun w i => List.mem_of_getElem? (i := 0) rfl) dX10_learns_5 rfl rfl) <| z_cons (ok_sipush (by decide) dX10_learns_8 rfl rfl) <| z_cons (ok_iload_n dX10_learns_11 rfl rfl) <| z_cons (ok_iadd dX10_learns_12 rfl rfl) <| z_cons (ok_iald dX10_learns_13 rfl rfl) <| z_cons (ok_imul dX10_learns_14 rfl rfl) <| z_cons (ok_icmp_ge (tgt := 54) (by decide) rfl dX10_learns_15 rfl rfl) <| z_cons (ok_aload_n dX10_learns_18 rfl rfl) <| z_cons (ok_getr (k := 0) ⟨by decide, by decide, by decide⟩ (ci := 8) (T := TX10) rfl rfl (Nat.le_of_ble_eq_true rfl) iw_X10 qw_616 gr_11_0 (fun _ _ => by simp) (fun w i => List.mem_of_getElem? (i := 0) rfl) dX10_learns_19 rfl rfl) <| z_cons (ok_sipush (by decide) dX10_learns_22 rfl rfl) <| z_cons (ok_iload_n dX10_learns_25 rfl rfl) <| z_cons (ok_iconst (by decide) dX10_learns_26 rfl rfl) <| z_cons (ok_callS (k := 207) (n := 3) qw_738 qw_618 ⟨by decide +kernel, by decide +kernel, by decide +kernel⟩ (Nat.le_of_ble_eq_true rfl) qw_740 qw_739 dX10_learns_27 rfl rfl) <| z_cons (ok_iload_n dX10_learns_30 rfl rfl) <| z_cons (ok_iadd dX10_learns_31 rfl rfl) <| z_cons (ok_aload_n dX10_learns_32 rfl rfl) <| z_cons (ok_getr (k := 0) ⟨by decide, by decide, by decide⟩ (ci := 8) (T := TX10) rfl rfl (Nat.le_of_ble_eq_true rfl) iw_X10 qw_616 gr_11_0 (fun _ _ => by simp) (fun w i => List.mem_of_getElem? (i := 0) rfl) dX10_learns_33 rfl rfl) <| z_cons (ok_sipush (by decide) dX10_learns_36 rfl rfl) <| z_cons (ok_iload_n dX10_learns_39 rfl rfl) <| z_cons (ok_iconst (by decide) dX10_learns_40 rfl rfl) <| z_cons (ok_callS (k := 207) (n := 3) qw_738 qw_618 ⟨by decide +kernel, by decide +kernel, by decide +kernel⟩ (Nat.le_of_ble_eq_true rfl) qw_740 qw_739 dX10_learns_41 rfl rfl) <| z_cons (ok_iload_n dX10_learns_44 rfl rfl) <| z_cons (ok_iadd dX10_learns_45 rfl rfl) <| z_cons (ok_iald dX10_learns_46 rfl rfl) <| z_cons (ok_iast dX10_learns_47 rfl rfl) <| z_cons (ok_iinc (by decide) (Nat.le_of_ble_eq_true rfl) dX10_learns_48 rfl rfl) <| z_cons (ok_goto (tgt := 2) (by decide) rfl dX10_learns_51 rfl) <| z_cons (ok_aload_n dX10_learns_54 rfl rfl) <| z_cons (ok_getr (k := 0) ⟨by decide, by decide, by decide⟩ (ci := 8) (T := TX10) rfl rfl (Nat.le_of_ble_eq_true rfl) iw_X10 qw_616 gr_11_0 (fun _ _ => by simp) (fun w i => List.mem_of_getElem? (i := 0) rfl) dX10_learns_55 rfl rfl) <| z_cons (ok_sipush (by decide) dX10_learns_58 rfl rfl) <| z_cons (ok_iload_n dX10_learns_61 rfl rfl) <| z_cons (ok_iadd dX10_learns_62 rfl rfl) <| z_cons (ok_aload_n dX10_learns_63 rfl rfl) <| z_cons (ok_getr (k := 0) ⟨by decide, by decide, by decide⟩ (ci := 8) (T := TX10) rfl rfl (Nat.le_of_ble_eq_true rfl) iw_X10 qw_616 gr_11_0 (fun _ _ => by simp) (fun w i => List.mem_of_getElem? (i := 0) rfl) dX10_learns_64 rfl rfl) <| z_cons (ok_sipush (by decide) dX10_learns_67 rfl rfl) <| zl_X10_learns_1
theorem dX10_isJammed_0 : decode cX10_isJammed 0 = .ok (.aload_n 0, 1) := by decide +kernel
theorem dX10_isJammed_1 : decode cX10_isJammed 1 = .ok (.getfield 10, 3) := by decide +kernel
theorem dX10_isJammed_4 : decode cX10_isJammed 4 = .ok (.sipush 550, 3) := by decide +kernel
theorem dX10_isJammed_7 : decode cX10_isJammed 7 = .ok (.iload_n 1, 1) := by decide +kernel
theorem dX10_isJammed_8 : decode cX10_isJammed 8 = .ok (.iadd, 1) := by decide +kernel
theorem dX10_isJammed_9 : decode cX10_isJammed 9 = .ok (.iaload, 1) := by decide +kernel
theorem dX10_isJammed_10 : decode cX10_isJammed 10 = .ok (.istore_n 2, 1) := by decide +kernel
theorem dX10_isJammed_11 : decode cX10_isJammed 11 = .ok (.iconst 0, 1) := by decide +kernel
theorem dX10_isJammed_12 : decode cX10_isJammed 12 = .ok (.istore_n 3, 1) := by decide +kernel
theorem dX10_isJammed_13 : decode cX10_isJammed 13 = .ok (.iload_n 3, 1) := by decide +kernel
theorem dX10_isJammed_14 : decode cX10_isJammed 14 = .ok (.iconst 4, 1) := by decide +kernel
theorem dX10_isJammed_15 : decode cX10_isJammed 15 = .ok (.if_icmp .ge 62, 3) := by decide +kernel
theorem dX10_isJammed_18 : decode cX10_isJammed 18 = .ok (.iload_n 3, 1) := by decide +kernel
theorem dX10_isJammed_19 : decode cX10_isJammed 19 = .ok (.iload_n 2, 1) := by decide +kernel
theorem dX10_isJammed_20 : decode cX10_isJammed 20 = .ok (.if_icmp .eq 51, 3) := by decide +kernel
theorem dX10_isJammed_23 : decode cX10_isJammed 23 = .ok (.aload_n 0, 1) := by decide +kernel
theorem dX10_isJammed_24 : decode cX10_isJammed 24 = .ok (.getfield 10, 3) := by decide +kernel
theorem dX10_isJammed_27 : decode cX10_isJammed 27 = .ok (.sipush 278, 3) := by decide +kernel
theorem dX10_isJammed_30 : decode cX10_isJammed 30 = .ok (.iload_n 3, 1) := by decide +kernel
theorem dX10_isJammed_31 : decode cX10_isJammed 31 = .ok (.iadd, 1) := by decide +kernel
theorem dX10_isJammed_32 : decode cX10_isJammed 32 = .ok (.iaload, 1) := by decide +kernel
theorem dX10_isJammed_33 : decode cX10_isJammed 33 = .ok (.iconst 1, 1) := by decide +kernel
theorem dX10_isJammed_34 : decode cX10_isJammed 34 = .ok (.if_icmp .ne 37, 3) := by decide +kernel
theorem dX10_isJammed_37 : decode cX10_isJammed 37 = .ok (.aload_n 0, 1) := by decide +kernel
theorem dX10_isJammed_38 : decode cX10_isJammed 38 = .ok (.getfield 10, 3) := by decide +kernel
theorem dX10_isJammed_41 : decode cX10_isJammed 41 = .ok (.sipush 274, 3) := by decide +kernel
theorem dX10_isJammed_44 : decode cX10_isJammed 44 = .ok (.iload_n 3, 1) := by decide +kernel
theorem dX10_isJammed_45 : decode cX10_isJammed 45 = .ok (.iadd, 1) := by decide +kernel
theorem dX10_isJammed_46 : decode cX10_isJammed 46 = .ok (.iaload, 1) := by decide +kernel
theorem dX10_isJammed_47 : decode cX10_isJammed 47 = .ok (.aload_n 0, 1) := by decide +kernel
theorem dX10_isJammed_48 : decode cX10_isJammed 48 = .ok (.getfield 10, 3) := by decide +kernel
theorem dX10_isJammed_51 : decode cX10_isJammed 51 = .ok (.sipush 274, 3) := by decide +kernel
theorem dX10_isJammed_54 : decode cX10_isJammed 54 = .ok (.iload_n 2, 1) := by decide +kernel
theorem dX10_isJammed_55 : decode cX10_isJammed 55 = .ok (.iadd, 1) := by decide +kernel
theorem dX10_isJammed_56 : decode cX10_isJammed 56 = .ok (.iaload, 1) := by decide +kernel
theorem dX10_isJammed_57 : decode cX10_isJammed 57 = .ok (.if_icmp .ne 14, 3) := by decide +kernel
theorem dX10_isJammed_60 : decode cX10_isJammed 60 = .ok (.aload_n 0, 1) := by decide +kernel
theorem dX10_isJammed_61 : decode cX10_isJammed 61 = .ok (.iload_n 3, 1) := by decide +kernel
theorem dX10_isJammed_62 : decode cX10_isJammed 62 = .ok (.iload_n 1, 1) := by decide +kernel
theorem dX10_isJammed_63 : decode cX10_isJammed 63 = .ok (.invokevirtual 42, 3) := by decide +kernel
theorem dX10_isJammed_66 : decode cX10_isJammed 66 = .ok (.ifCond .eq 5, 3) := by decide +kernel
theorem dX10_isJammed_69 : decode cX10_isJammed 69 = .ok (.iconst 1, 1) := by decide +kernel
theorem dX10_isJammed_70 : decode cX10_isJammed 70 = .ok (.ireturn, 1) := by decide +kernel
theorem dX10_isJammed_71 : decode cX10_isJammed 71 = .ok (.iinc 3 1, 3) := by decide +kernel
theorem dX10_isJammed_74 : decode cX10_isJammed 74 = .ok (.goto (-61), 3) := by decide +kernel
theorem dX10_isJammed_77 : decode cX10_isJammed 77 = .ok (.iconst 0, 1) := by decide +kernel
theorem dX10_isJammed_78 : decode cX10_isJammed 78 = .ok (.ireturn, 1) := by decide +kernel
set_option maxRecDepth 20000 in
theorem zl_X10_isJammed_1 : z_All z_tab cX10_isJammed 4 (some .boolean) RX10 pc_X10_isJammed 40 (k_X10_isJammed.drop 40) := z_cons (ok_if_eq (tgt := 71) (by decide) rfl dX10_isJammed_66 rfl rfl) <| z_cons (ok_iconst (by decide) dX10_isJammed_69 rfl rfl) <| z_cons (ok_zret rfl dX10_isJammed_70 rfl) <| z_cons (ok_iinc (by decide) (Nat.le_of_ble_eq_true rfl) dX10_isJammed_71 rfl rfl) <| z_cons (ok_goto (tgt := 13) (by decide) rfl dX10_isJammed_74 rfl) <| z_cons (ok_iconst (by decide) dX10_isJammed_77 rfl rfl) <| z_cons (ok_zret rfl dX10_isJammed_78 rfl) <| z_nil
set_option maxRecDepth 20000 in
theorem zl_X10_isJammed_0 : z_All z_tab cX10_isJammed 4 (some .boolean) RX10 pc_X10_isJammed 0 (k_X10_isJammed.drop 0) := z_cons (ok_aload_n dX10_isJammed_0 rfl rfl) <| z_cons (ok_getr (k := 0) ⟨by decide, by decide, by decide⟩ (ci := 8) (T := TX10) rfl rfl (Nat.le_of_ble_eq_true rfl) iw_X10 qw_616 gr_11_0 (fun _ _ => by simp) (fun w i => List.mem_of_getElem? (i := 0) rfl) dX10_isJammed_1 rfl rfl) <| z_cons (ok_sipush (by decide) dX10_isJammed_4 rfl rfl) <| z_cons (ok_iload_n dX10_isJammed_7 rfl rfl) <| z_cons (ok_iadd dX10_isJammed_8 rfl rfl) <| z_cons (ok_iald dX10_isJammed_9 rfl rfl) <| z_cons (ok_istore_n (Nat.le_of_ble_eq_true rfl) dX10_isJammed_10 rfl rfl) <| z_cons (ok_iconst (by decide) dX10_isJammed_11 rfl rfl) <| z_cons (ok_istore_n (Nat.le_of_ble_eq_true rfl) dX10_isJammed_12 rfl rfl) <| z_cons (ok_iload_n dX10_isJammed_13 rfl rfl) <| z_cons (ok_iconst (by decide) dX10_isJammed_14 rfl rfl) <| z_cons (ok_icmp_ge (tgt := 77) (by decide) rfl dX10_isJammed_15 rfl rfl) <| z_cons (ok_iload_n dX10_isJammed_18 rfl rfl) <| z_cons (ok_iload_n dX10_isJammed_19 rfl rfl) <| z_cons (ok_icmp_eq (tgt := 71) (by decide) rfl dX10_isJammed_20 rfl rfl) <| z_cons (ok_aload_n dX10_isJammed_23 rfl rfl) <| z_cons (ok_getr (k := 0) ⟨by decide, by decide, by decide⟩ (ci := 8) (T := TX10) rfl rfl (Nat.le_of_ble_eq_true rfl) iw_X10 qw_616 gr_11_0 (fun _ _ => by simp) (fun w i => List.mem_of_getElem? (i := 0) rfl) dX10_isJammed_24 rfl rfl) <| z_cons (ok_sipush (by decide) dX10_isJammed_27 rfl rfl) <| z_cons (ok_iload_n dX10_isJammed_30 rfl rfl) <| z_cons (ok_iadd dX10_isJammed_31 rfl rfl) <| z_cons (ok_iald dX10_isJammed_32 rfl rfl) <| z_cons (ok_iconst (by decide) dX10_isJammed_33 rfl rfl) <| z_cons (ok_icmp_ne (tgt := 71) (by decide) rfl dX10_isJammed_34 rfl rfl) <| z_cons (ok_aload_n dX10_isJammed_37 rfl rfl) <| z_cons (ok_getr (k := 0) ⟨by decide, by decide, by decide⟩ (ci := 8) (T := TX10) rfl rfl (Nat.le_of_ble_eq_true rfl) iw_X10 qw_616 gr_11_0 (fun _ _ => by simp) (fun w i => List.mem_of_getElem? (i := 0) rfl) dX10_isJammed_38 rfl rfl) <| z_cons (ok_sipush (by decide) dX10_isJammed_41 rfl rfl) <| z_cons (ok_iload_n dX10_isJammed_44 rfl rfl) <| z_cons (ok_iadd dX10_isJammed_45 rfl rfl) <| z_cons (ok_iald dX10_isJammed_46 rfl rfl) <| z_cons (ok_aload_n dX10_isJammed_47 rfl rfl) <| z_cons (ok_getr (k := 0) ⟨by decide, by decide, by decide⟩ (ci := 8) (T := TX10) rfl rfl (Nat.le_of_ble_eq_true rfl) iw_X10 qw_616 gr_11_0 (fun _ _ => by simp) (fun w i => List.mem_of_getElem? (i := 0) rfl) dX10_isJammed_48 rfl rfl) <| z_cons (ok_sipush (by decide) dX10_isJammed_51 rfl rfl) <| z_cons (ok_iload_n dX10_isJammed_54 rfl rfl) <| z_cons (ok_iadd dX10_isJammed_55 rfl rfl) <| z_cons (ok_iald dX10_isJammed_56 rfl rfl) <| z_cons (ok_icmp_ne (tgt := 71) (by decide) rfl dX10_isJammed_57 rfl rfl) <| z_cons (ok_aload_n dX10_isJammed_60 rfl rfl) <| z_cons (ok_iload_n dX10_isJammed_61 rfl rfl) <| z_cons (ok_iload_n dX10_isJammed_62 rfl rfl) <| z_cons (ok_callv ⟨by decide, by decide, by decide⟩ (ci := 8) (C := RX10) (T := TX10) rfl go_11 (k := 172) (n := 2) qw_626 qw_618 ⟨by decide +kernel, by decide +kernel, by decide +kernel⟩ (Nat.le_of_ble_eq_true rfl) qw_627 qw_628 qw_629 dX10_isJammed_63 rfl rfl) <| zl_X10_isJammed_1
theorem dX10_ticks_0 : decode cX10_ticks 0 = .ok (.aload_n 0, 1) := by decide +kernel
theorem dX10_ticks_1 : decode cX10_ticks 1 = .ok (.getfield 10, 3) := by decide +kernel
theorem dX10_ticks_4 : decode cX10_ticks 4 = .ok (.iconst 0, 1) := by decide +kernel
theorem dX10_ticks_5 : decode cX10_ticks 5 = .ok (.dup2, 1) := by decide +kernel
theorem dX10_ticks_6 : decode cX10_ticks 6 = .ok (.iaload, 1) := by decide +kernel
theorem dX10_ticks_7 : decode cX10_ticks 7 = .ok (.iconst 1, 1) := by decide +kernel
theorem dX10_ticks_8 : decode cX10_ticks 8 = .ok (.iadd, 1) := by decide +kernel
theorem dX10_ticks_9 : decode cX10_ticks 9 = .ok (.iastore, 1) := by decide +kernel
theorem dX10_ticks_10 : decode cX10_ticks 10 = .ok (.iconst 0, 1) := by decide +kernel
theorem dX10_ticks_11 : decode cX10_ticks 11 = .ok (.istore_n 1, 1) := by decide +kernel
theorem dX10_ticks_12 : decode cX10_ticks 12 = .ok (.iconst 0, 1) := by decide +kernel
theorem dX10_ticks_13 : decode cX10_ticks 13 = .ok (.istore_n 2, 1) := by decide +kernel
theorem dX10_ticks_14 : decode cX10_ticks 14 = .ok (.iload_n 2, 1) := by decide +kernel
theorem dX10_ticks_15 : decode cX10_ticks 15 = .ok (.iconst 4, 1) := by decide +kernel
theorem dX10_ticks_16 : decode cX10_ticks 16 = .ok (.if_icmp .ge 24, 3) := by decide +kernel
theorem dX10_ticks_19 : decode cX10_ticks 19 = .ok (.iload_n 1, 1) := by decide +kernel
theorem dX10_ticks_20 : decode cX10_ticks 20 = .ok (.aload_n 0, 1) := by decide +kernel
theorem dX10_ticks_21 : decode cX10_ticks 21 = .ok (.getfield 10, 3) := by decide +kernel
theorem dX10_ticks_24 : decode cX10_ticks 24 = .ok (.sipush 278, 3) := by decide +kernel
theorem dX10_ticks_27 : decode cX10_ticks 27 = .ok (.iload_n 2, 1) := by decide +kernel
theorem dX10_ticks_28 : decode cX10_ticks 28 = .ok (.iadd, 1) := by decide +kernel
theorem dX10_ticks_29 : decode cX10_ticks 29 = .ok (.iaload, 1) := by decide +kernel
theorem dX10_ticks_30 : decode cX10_ticks 30 = .ok (.iload_n 2, 1) := by decide +kernel
theorem dX10_ticks_31 : decode cX10_ticks 31 = .ok (.ishl, 1) := by decide +kernel
theorem dX10_ticks_32 : decode cX10_ticks 32 = .ok (.ior, 1) := by decide +kernel
theorem dX10_ticks_33 : decode cX10_ticks 33 = .ok (.istore_n 1, 1) := by decide +kernel
theorem dX10_ticks_34 : decode cX10_ticks 34 = .ok (.iinc 2 1, 3) := by decide +kernel
theorem dX10_ticks_37 : decode cX10_ticks 37 = .ok (.goto (-23), 3) := by decide +kernel
theorem dX10_ticks_40 : decode cX10_ticks 40 = .ok (.iconst 0, 1) := by decide +kernel
theorem dX10_ticks_41 : decode cX10_ticks 41 = .ok (.istore_n 2, 1) := by decide +kernel
theorem dX10_ticks_42 : decode cX10_ticks 42 = .ok (.iload_n 2, 1) := by decide +kernel
theorem dX10_ticks_43 : decode cX10_ticks 43 = .ok (.bipush 24, 2) := by decide +kernel
theorem dX10_ticks_45 : decode cX10_ticks 45 = .ok (.if_icmp .ge 89, 3) := by decide +kernel
theorem dX10_ticks_48 : decode cX10_ticks 48 = .ok (.aload_n 0, 1) := by decide +kernel
theorem dX10_ticks_49 : decode cX10_ticks 49 = .ok (.getfield 10, 3) := by decide +kernel
theorem dX10_ticks_52 : decode cX10_ticks 52 = .ok (.sipush 694, 3) := by decide +kernel
theorem dX10_ticks_55 : decode cX10_ticks 55 = .ok (.iload_n 2, 1) := by decide +kernel
theorem dX10_ticks_56 : decode cX10_ticks 56 = .ok (.iadd, 1) := by decide +kernel
theorem dX10_ticks_57 : decode cX10_ticks 57 = .ok (.aload_n 0, 1) := by decide +kernel
theorem dX10_ticks_58 : decode cX10_ticks 58 = .ok (.getfield 10, 3) := by decide +kernel
theorem dX10_ticks_61 : decode cX10_ticks 61 = .ok (.sipush 550, 3) := by decide +kernel
theorem dX10_ticks_64 : decode cX10_ticks 64 = .ok (.iload_n 2, 1) := by decide +kernel
theorem dX10_ticks_65 : decode cX10_ticks 65 = .ok (.iadd, 1) := by decide +kernel
theorem dX10_ticks_66 : decode cX10_ticks 66 = .ok (.iaload, 1) := by decide +kernel
theorem dX10_ticks_67 : decode cX10_ticks 67 = .ok (.iconst (-1), 1) := by decide +kernel
theorem dX10_ticks_68 : decode cX10_ticks 68 = .ok (.if_icmp .eq 15, 3) := by decide +kernel
theorem dX10_ticks_71 : decode cX10_ticks 71 = .ok (.aload_n 0, 1) := by decide +kernel
theorem dX10_ticks_72 : decode cX10_ticks 72 = .ok (.iload_n 2, 1) := by decide +kernel
theorem dX10_ticks_73 : decode cX10_ticks 73 = .ok (.invokevirtual 182, 3) := by decide +kernel
theorem dX10_ticks_76 : decode cX10_ticks 76 = .ok (.ifCond .eq 7, 3) := by decide +kernel
theorem dX10_ticks_79 : decode cX10_ticks 79 = .ok (.iconst 1, 1) := by decide +kernel
theorem dX10_ticks_80 : decode cX10_ticks 80 = .ok (.goto 4, 3) := by decide +kernel
theorem dX10_ticks_83 : decode cX10_ticks 83 = .ok (.iconst 0, 1) := by decide +kernel
theorem dX10_ticks_84 : decode cX10_ticks 84 = .ok (.iastore, 1) := by decide +kernel
theorem dX10_ticks_85 : decode cX10_ticks 85 = .ok (.aload_n 0, 1) := by decide +kernel
theorem dX10_ticks_86 : decode cX10_ticks 86 = .ok (.getfield 10, 3) := by decide +kernel
theorem dX10_ticks_89 : decode cX10_ticks 89 = .ok (.sipush 694, 3) := by decide +kernel
theorem dX10_ticks_92 : decode cX10_ticks 92 = .ok (.iload_n 2, 1) := by decide +kernel
theorem dX10_ticks_93 : decode cX10_ticks 93 = .ok (.iadd, 1) := by decide +kernel
theorem dX10_ticks_94 : decode cX10_ticks 94 = .ok (.iaload, 1) := by decide +kernel
theorem dX10_ticks_95 : decode cX10_ticks 95 = .ok (.ifCond .ne 6, 3) := by decide +kernel
theorem dX10_ticks_98 : decode cX10_ticks 98 = .ok (.goto 30, 3) := by decide +kernel
theorem dX10_ticks_101 : decode cX10_ticks 101 = .ok (.aload_n 0, 1) := by decide +kernel
theorem dX10_ticks_102 : decode cX10_ticks 102 = .ok (.bipush 11, 2) := by decide +kernel
theorem dX10_ticks_104 : decode cX10_ticks 104 = .ok (.iconst 1, 1) := by decide +kernel
theorem dX10_ticks_105 : decode cX10_ticks 105 = .ok (.invokevirtual 53, 3) := by decide +kernel
theorem dX10_ticks_108 : decode cX10_ticks 108 = .ok (.aload_n 0, 1) := by decide +kernel
theorem dX10_ticks_109 : decode cX10_ticks 109 = .ok (.getfield 10, 3) := by decide +kernel
theorem dX10_ticks_112 : decode cX10_ticks 112 = .ok (.sipush 350, 3) := by decide +kernel
theorem dX10_ticks_115 : decode cX10_ticks 115 = .ok (.aload_n 0, 1) := by decide +kernel
theorem dX10_ticks_116 : decode cX10_ticks 116 = .ok (.getfield 10, 3) := by decide +kernel
theorem dX10_ticks_119 : decode cX10_ticks 119 = .ok (.sipush 550, 3) := by decide +kernel
theorem dX10_ticks_122 : decode cX10_ticks 122 = .ok (.iload_n 2, 1) := by decide +kernel
theorem dX10_ticks_123 : decode cX10_ticks 123 = .ok (.iadd, 1) := by decide +kernel
theorem dX10_ticks_124 : decode cX10_ticks 124 = .ok (.iaload, 1) := by decide +kernel
theorem dX10_ticks_125 : decode cX10_ticks 125 = .ok (.iadd, 1) := by decide +kernel
theorem dX10_ticks_126 : decode cX10_ticks 126 = .ok (.iconst 0, 1) := by decide +kernel
theorem dX10_ticks_127 : decode cX10_ticks 127 = .ok (.iastore, 1) := by decide +kernel
theorem dX10_ticks_128 : decode cX10_ticks 128 = .ok (.iinc 2 1, 3) := by decide +kernel
theorem dX10_ticks_131 : decode cX10_ticks 131 = .ok (.goto (-89), 3) := by decide +kernel
theorem dX10_ticks_134 : decode cX10_ticks 134 = .ok (.iconst 0, 1) := by decide +kernel
theorem dX10_ticks_135 : decode cX10_ticks 135 = .ok (.istore_n 2, 1) := by decide +kernel
theorem dX10_ticks_136 : decode cX10_ticks 136 = .ok (.iload_n 2, 1) := by decide +kernel
theorem dX10_ticks_137 : decode cX10_ticks 137 = .ok (.iconst 4, 1) := by decide +kernel
theorem dX10_ticks_138 : decode cX10_ticks 138 = .ok (.if_icmp .ge 41, 3) := by decide +kernel
theorem dX10_ticks_141 : decode cX10_ticks 141 = .ok (.iload_n 1, 1) := by decide +kernel
theorem dX10_ticks_142 : decode cX10_ticks 142 = .ok (.iload_n 2, 1) := by decide +kernel
theorem dX10_ticks_143 : decode cX10_ticks 143 = .ok (.invokestatic 38, 3) := by decide +kernel
theorem dX10_ticks_146 : decode cX10_ticks 146 = .ok (.ifCond .ne 6, 3) := by decide +kernel
theorem dX10_ticks_149 : decode cX10_ticks 149 = .ok (.goto 24, 3) := by decide +kernel
theorem dX10_ticks_152 : decode cX10_ticks 152 = .ok (.aload_n 0, 1) := by decide +kernel
theorem dX10_ticks_153 : decode cX10_ticks 153 = .ok (.iload_n 2, 1) := by decide +kernel
theorem dX10_ticks_154 : decode cX10_ticks 154 = .ok (.invokevirtual 149, 3) := by decide +kernel
theorem dX10_ticks_157 : decode cX10_ticks 157 = .ok (.ifCond .eq 11, 3) := by decide +kernel
theorem dX10_ticks_160 : decode cX10_ticks 160 = .ok (.aload_n 0, 1) := by decide +kernel
theorem dX10_ticks_161 : decode cX10_ticks 161 = .ok (.iload_n 2, 1) := by decide +kernel
theorem dX10_ticks_162 : decode cX10_ticks 162 = .ok (.invokevirtual 185, 3) := by decide +kernel
theorem dX10_ticks_165 : decode cX10_ticks 165 = .ok (.goto 8, 3) := by decide +kernel
theorem dX10_ticks_168 : decode cX10_ticks 168 = .ok (.aload_n 0, 1) := by decide +kernel
theorem dX10_ticks_169 : decode cX10_ticks 169 = .ok (.iload_n 2, 1) := by decide +kernel
theorem dX10_ticks_170 : decode cX10_ticks 170 = .ok (.invokevirtual 188, 3) := by decide +kernel
theorem dX10_ticks_173 : decode cX10_ticks 173 = .ok (.iinc 2 1, 3) := by decide +kernel
theorem dX10_ticks_176 : decode cX10_ticks 176 = .ok (.goto (-40), 3) := by decide +kernel
theorem dX10_ticks_179 : decode cX10_ticks 179 = .ok (.iconst 0, 1) := by decide +kernel
theorem dX10_ticks_180 : decode cX10_ticks 180 = .ok (.istore_n 2, 1) := by decide +kernel
theorem dX10_ticks_181 : decode cX10_ticks 181 = .ok (.iload_n 2, 1) := by decide +kernel
theorem dX10_ticks_182 : decode cX10_ticks 182 = .ok (.bipush 24, 2) := by decide +kernel
theorem dX10_ticks_184 : decode cX10_ticks 184 = .ok (.if_icmp .ge 28, 3) := by decide +kernel
theorem dX10_ticks_187 : decode cX10_ticks 187 = .ok (.aload_n 0, 1) := by decide +kernel
theorem dX10_ticks_188 : decode cX10_ticks 188 = .ok (.getfield 10, 3) := by decide +kernel
theorem dX10_ticks_191 : decode cX10_ticks 191 = .ok (.sipush 454, 3) := by decide +kernel
theorem dX10_ticks_194 : decode cX10_ticks 194 = .ok (.iload_n 2, 1) := by decide +kernel
theorem dX10_ticks_195 : decode cX10_ticks 195 = .ok (.iadd, 1) := by decide +kernel
theorem dX10_ticks_196 : decode cX10_ticks 196 = .ok (.iaload, 1) := by decide +kernel
theorem dX10_ticks_197 : decode cX10_ticks 197 = .ok (.iconst 1, 1) := by decide +kernel
theorem dX10_ticks_198 : decode cX10_ticks 198 = .ok (.if_icmp .ne 8, 3) := by decide +kernel
theorem dX10_ticks_201 : decode cX10_ticks 201 = .ok (.aload_n 0, 1) := by decide +kernel
theorem dX10_ticks_202 : decode cX10_ticks 202 = .ok (.iload_n 2, 1) := by decide +kernel
theorem dX10_ticks_203 : decode cX10_ticks 203 = .ok (.invokevirtual 191, 3) := by decide +kernel
theorem dX10_ticks_206 : decode cX10_ticks 206 = .ok (.iinc 2 1, 3) := by decide +kernel
theorem dX10_ticks_209 : decode cX10_ticks 209 = .ok (.goto (-28), 3) := by decide +kernel
theorem dX10_ticks_212 : decode cX10_ticks 212 = .ok (.return_, 1) := by decide +kernel
set_option maxRecDepth 20000 in
theorem zl_X10_ticks_3 : z_All z_tab cX10_ticks 3 none RX10 pc_X10_ticks 120 (k_X10_ticks.drop 120) := z_cons (ok_goto (tgt := 181) (by decide) rfl dX10_ticks_209 rfl) <| z_cons (ok_ret rfl dX10_ticks_212 rfl) <| z_nil
set_option maxRecDepth 20000 in
theorem zl_X10_ticks_2 : z_All z_tab cX10_ticks 3 none RX10 pc_X10_ticks 80 (k_X10_ticks.drop 80) := z_cons (ok_iconst (by decide) dX10_ticks_134 rfl rfl) <| z_cons (ok_istore_n (Nat.le_of_ble_eq_true rfl) dX10_ticks_135 rfl rfl) <| z_cons (ok_iload_n dX10_ticks_136 rfl rfl) <| z_cons (ok_iconst (by decide) dX10_ticks_137 rfl rfl) <| z_cons (ok_icmp_ge (tgt := 179) (by decide) rfl dX10_ticks_138 rfl rfl) <| z_cons (ok_iload_n dX10_ticks_141 rfl rfl) <| z_cons (ok_iload_n dX10_ticks_142 rfl rfl) <| z_cons (ok_callS (k := 163) (n := 2) qw_623 qw_618 ⟨by decide +kernel, by decide +kernel, by decide +kernel⟩ (Nat.le_of_ble_eq_true rfl) qw_625 qw_624 dX10_ticks_143 rfl rfl) <| z_cons (ok_if_ne (tgt := 152) (by decide) rfl dX10_ticks_146 rfl rfl) <| z_cons (ok_goto (tgt := 173) (by decide) rfl dX10_ticks_149 rfl) <| z_cons (ok_aload_n dX10_ticks_152 rfl rfl) <| z_cons (ok_iload_n dX10_ticks_153 rfl rfl) <| z_cons (ok_callv ⟨by decide, by decide, by decide⟩ (ci := 8) (C := RX10) (T := TX10) rfl go_11 (k := 206) (n := 1) qw_747 qw_618 ⟨by decide +kernel, by decide +kernel, by decide +kernel⟩ (Nat.le_of_ble_eq_true rfl) qw_748 qw_749 qw_750 dX10_ticks_154 rfl rfl) <| z_cons (ok_if_eq (tgt := 168) (by decide) rfl dX10_ticks_157 rfl rfl) <| z_cons (ok_aload_n dX10_ticks_160 rfl rfl) <| z_cons (ok_iload_n dX10_ticks_161 rfl rfl) <| z_cons (ok_callv ⟨by decide, by decide, by decide⟩ (ci := 8) (C := RX10) (T := TX10) rfl go_11 (k := 216) (n := 1) qw_794 qw_618 ⟨by decide +kernel, by decide +kernel, by decide +kernel⟩ (Nat.le_of_ble_eq_true rfl) qw_795 qw_796 qw_797 dX10_ticks_162 rfl rfl) <| z_cons (ok_goto (tgt := 173) (by decide) rfl dX10_ticks_165 rfl) <| z_cons (ok_aload_n dX10_ticks_168 rfl rfl) <| z_cons (ok_iload_n dX10_ticks_169 rfl rfl) <| z_cons (ok_callv ⟨by decide, by decide, by decide⟩ (ci := 8) (C := RX10) (T := TX10) rfl go_11 (k := 214) (n := 1) qw_798 qw_618 ⟨by decide +kernel, by decide +kernel, by decide +kernel⟩ (Nat.le_of_ble_eq_true rfl) qw_799 qw_800 qw_801 dX10_ticks_170 rfl rfl) <| z_cons (ok_iinc (by decide) (Nat.le_of_ble_eq_true rfl) dX10_ticks_173 rfl rfl) <| z_cons (ok_goto (tgt := 136) (by decide) rfl dX10_ticks_176 rfl) <| z_cons (ok_iconst (by decide) dX10_ticks_179 rfl rfl) <| z_cons (ok_istore_n (Nat.le_of_ble_eq_true rfl) dX10_ticks_180 rfl rfl) <| z_cons (ok_iload_n dX10_ticks_181 rfl rfl) <| z_cons (ok_bipush (by decide) dX10_ticks_182 rfl rfl) <| z_cons (ok_icmp_ge (tgt := 212) (by decide) rfl dX10_ticks_184 rfl rfl) <| z_cons (ok_aload_n dX10_ticks_187 rfl rfl) <| z_cons (ok_getr (k := 0) ⟨by decide, by decide, by decide⟩ (ci := 8) (T := TX10) rfl rfl (Nat.le_of_ble_eq_true rfl) iw_X10 qw_616 gr_11_0 (fun _ _ => by simp) (fun w i => List.mem_of_getElem? (i := 0) rfl) dX10_ticks_188 rfl rfl) <| z_cons (ok_sipush (by decide) dX10_ticks_191 rfl rfl) <| z_cons (ok_iload_n dX10_ticks_194 rfl rfl) <| z_cons (ok_iadd dX10_ticks_195 rfl rfl) <| z_cons (ok_iald dX10_ticks_196 rfl rfl) <| z_cons (ok_iconst (by decide) dX10_ticks_197 rfl rfl) <| z_cons (ok_icmp_ne (tgt := 206) (by decide) rfl dX10_ticks_198 rfl rfl) <| z_cons (ok_aload_n dX10_ticks_201 rfl rfl) <| z_cons (ok_iload_n dX10_ticks_202 rfl rfl) <| z_cons (ok_callv ⟨by decide, by decide, by decide⟩ (ci := 8) (C := RX10) (T := TX10) rfl go_11 (k := 178) (n := 1) qw_802 qw_618 ⟨by decide +kernel, by decide +kernel, by decide +kernel⟩ (Nat.le_of_ble_eq_true rfl) qw_803 qw_804 qw_805 dX10_ticks_203 rfl rfl) <| z_cons (ok_iinc (by decide) (Nat.le_of_ble_eq_true rfl) dX10_ticks_206 rfl rfl) <| zl_X10_ticks_3
set_option maxRecDepth 20000 in
theorem zl_X10_ticks_1 : z_All z_tab cX10_ticks 3 none RX10 pc_X10_ticks 40 (k_X10_ticks.drop 40) := z_cons (ok_sipush (by decide) dX10_ticks_61 rfl rfl) <| z_cons (ok_iload_n dX10_ticks_64 rfl rfl) <| z_cons (ok_iadd dX10_ticks_65 rfl rfl) <| z_cons (ok_iald dX10_ticks_66 rfl rfl) <| z_cons (ok_iconst (by decide) dX10_ticks_67 rfl rfl) <| z_cons (ok_icmp_eq (tgt := 83) (by decide) rfl dX10_ticks_68 rfl rfl) <| z_cons (ok_aload_n dX10_ticks_71 rfl rfl) <| z_cons (ok_iload_n dX10_ticks_72 rfl rfl) <| z_cons (ok_callv ⟨by decide, by decide, by decide⟩ (ci := 8) (C := RX10) (T := TX10) rfl go_11 (k := 219) (n := 1) qw_790 qw_618 ⟨by decide +kernel, by decide +kernel, by decide +kernel⟩ (Nat.le_of_ble_eq_true rfl) qw_791 qw_792 qw_793 dX10_ticks_73 rfl rfl) <| z_cons (ok_if_eq (tgt := 83) (by decide) rfl dX10_ticks_76 rfl rfl) <| z_cons (ok_iconst (by decide) dX10_ticks_79 rfl rfl) <| z_cons (ok_goto (tgt := 84) (by decide) rfl dX10_ticks_80 rfl) <| z_cons (ok_iconst (by decide) dX10_ticks_83 rfl rfl) <| z_cons (ok_iast dX10_ticks_84 rfl rfl) <| z_cons (ok_aload_n dX10_ticks_85 rfl rfl) <| z_cons (ok_getr (k := 0) ⟨by decide, by decide, by decide⟩ (ci := 8) (T := TX10) rfl rfl (Nat.le_of_ble_eq_true rfl) iw_X10 qw_616 gr_11_0 (fun _ _ => by simp) (fun w i => List.mem_of_getElem? (i := 0) rfl) dX10_ticks_86 rfl rfl) <| z_cons (ok_sipush (by decide) dX10_ticks_89 rfl rfl) <| z_cons (ok_iload_n dX10_ticks_92 rfl rfl) <| z_cons (ok_iadd dX10_ticks_93 rfl rfl) <| z_cons (ok_iald dX10_ticks_94 rfl rfl) <| z_cons (ok_if_ne (tgt := 101) (by decide) rfl dX10_ticks_95 rfl rfl) <| z_cons (ok_goto (tgt := 128) (by decide) rfl dX10_ticks_98 rfl) <| z_cons (ok_aload_n dX10_ticks_101 rfl rfl) <| z_cons (ok_bipush (by decide) dX10_ticks_102 rfl rfl) <| z_cons (ok_iconst (by decide) dX10_ticks_104 rfl rfl) <| z_cons (ok_callv ⟨by decide, by decide, by decide⟩ (ci := 8) (C := RX10) (T := TX10) rfl go_11 (k := 168) (n := 2) qw_638 qw_618 ⟨by decide +kernel, by decide +kernel, by decide +kernel⟩ (Nat.le_of_ble_eq_true rfl) qw_639 qw_640 qw_641 dX10_ticks_105 rfl rfl) <| z_cons (ok_aload_n dX10_ticks_108 rfl rfl) <| z_cons (ok_getr (k := 0) ⟨by decide, by decide, by decide⟩ (ci := 8) (T := TX10) rfl rfl (Nat.le_of_ble_eq_true rfl) iw_X10 qw_616 gr_11_0 (fun _ _ => by simp) (fun w i => List.mem_of_getElem? (i := 0) rfl) dX10_ticks_109 rfl rfl) <| z_cons (ok_sipush (by decide) dX10_ticks_112 rfl rfl) <| z_cons (ok_aload_n dX10_ticks_115 rfl rfl) <| z_cons (ok_getr (k := 0) ⟨by decide, by decide, by decide⟩ (ci := 8) (T := TX10) rfl rfl (Nat.le_of_ble_eq_true rfl) iw_X10 qw_616 gr_11_0 (fun _ _ => by simp) (fun w i => List.mem_of_getElem? (i := 0) rfl) dX10_ticks_116 rfl rfl) <| z_cons (ok_sipush (by decide) dX10_ticks_119 rfl rfl) <| z_cons (ok_iload_n dX10_ticks_122 rfl rfl) <| z_cons (ok_iadd dX10_ticks_123 rfl rfl) <| z_cons (ok_iald dX10_ticks_124 rfl rfl) <| z_cons (ok_iadd dX10_ticks_125 rfl rfl) <| z_cons (ok_iconst (by decide) dX10_ticks_126 rfl rfl) <| z_cons (ok_iast dX10_ticks_127 rfl rfl) <| z_cons (ok_iinc (by decide) (Nat.le_of_ble_eq_true rfl) dX10_ticks_128 rfl rfl) <| z_cons (ok_goto (tgt := 42) (by decide) rfl dX10_ticks_131 rfl) <| zl_X10_ticks_2
set_option maxRecDepth 20000 in
theorem zl_X10_ticks_0 : z_All z_tab cX10_ticks 3 none RX10 pc_X10_ticks 0 (k_X10_ticks.drop 0) := z_cons (ok_aload_n dX10_ticks_0 rfl rfl) <| z_cons (ok_getr (k := 0) ⟨by decide, by decide, by decide⟩ (ci := 8) (T := TX10) rfl rfl (Nat.le_of_ble_eq_true rfl) iw_X10 qw_616 gr_11_0 (fun _ _ => by simp) (fun w i => List.mem_of_getElem? (i := 0) rfl) dX10_ticks_1 rfl rfl) <| z_cons (ok_iconst (by decide) dX10_ticks_4 rfl rfl) <| z_cons (ok_dup2 dX10_ticks_5 rfl rfl) <| z_cons (ok_iald dX10_ticks_6 rfl rfl) <| z_cons (ok_iconst (by decide) dX10_ticks_7 rfl rfl) <| z_cons (ok_iadd dX10_ticks_8 rfl rfl) <| z_cons (ok_iast dX10_ticks_9 rfl rfl) <| z_cons (ok_iconst (by decide) dX10_ticks_10 rfl rfl) <| z_cons (ok_istore_n (Nat.le_of_ble_eq_true rfl) dX10_ticks_11 rfl rfl) <| z_cons (ok_iconst (by decide) dX10_ticks_12 rfl rfl) <| z_cons (ok_istore_n (Nat.le_of_ble_eq_true rfl) dX10_ticks_13 rfl rfl) <| z_cons (ok_iload_n dX10_ticks_14 rfl rfl) <| z_cons (ok_iconst (by decide) dX10_ticks_15 rfl rfl) <| z_cons (ok_icmp_ge (tgt := 40) (by decide) rfl dX10_ticks_16 rfl rfl) <| z_cons (ok_iload_n dX10_ticks_19 rfl rfl) <| z_cons (ok_aload_n dX10_ticks_20 rfl rfl) <| z_cons (ok_getr (k := 0) ⟨by decide, by decide, by decide⟩ (ci := 8) (T := TX10) rfl rfl (Nat.le_of_ble_eq_true rfl) iw_X10 qw_616 gr_11_0 (fun _ _ => by simp) (fun w i => List.mem_of_getElem? (i := 0) rfl) dX10_ticks_21 rfl rfl) <| z_cons (ok_sipush (by decide) dX10_ticks_24 rfl rfl) <| z_cons (ok_iload_n dX10_ticks_27 rfl rfl) <| z_cons (ok_iadd dX10_ticks_28 rfl rfl) <| z_cons (ok_iald dX10_ticks_29 rfl rfl) <| z_cons (ok_iload_n dX10_ticks_30 rfl rfl) <| z_cons (ok_ishl dX10_ticks_31 rfl rfl) <| z_cons (ok_ior dX10_ticks_32 rfl rfl) <| z_cons (ok_istore_n (Nat.le_of_ble_eq_true rfl) dX10_ticks_33 rfl rfl) <| z_cons (ok_iinc (by decide) (Nat.le_of_ble_eq_true rfl) dX10_ticks_34 rfl rfl) <| z_cons (ok_goto (tgt := 14) (by decide) rfl dX10_ticks_37 rfl) <| z_cons (ok_iconst (by decide) dX10_ticks_40 rfl rfl) <| z_cons (ok_istore_n (Nat.le_of_ble_eq_true rfl) dX10_ticks_41 rfl rfl) <| z_cons (ok_iload_n dX10_ticks_42 rfl rfl) <| z_cons (ok_bipush (by decide) dX10_ticks_43 rfl rfl) <| z_cons (ok_icmp_ge (tgt := 134) (by decide) rfl dX10_ticks_45 rfl rfl) <| z_cons (ok_aload_n dX10_ticks_48 rfl rfl) <| z_cons (ok_getr (k := 0) ⟨by decide, by decide, by decide⟩ (ci := 8) (T := TX10) rfl rfl (Nat.le_of_ble_eq_true rfl) iw_X10 qw_616 gr_11_0 (fun _ _ => by simp) (fun w i => List.mem_of_getElem? (i := 0) rfl) dX10_ticks_49 rfl rfl) <| z_cons (ok_sipush (by decide) dX10_ticks_52 rfl rfl) <| z_cons (ok_iload_n dX10_ticks_55 rfl rfl) <| z_cons (ok_iadd dX10_ticks_56 rfl rfl) <| z_cons (ok_aload_n dX10_ticks_57 rfl rfl) <| z_cons (ok_getr (k := 0) ⟨by decide, by decide, by decide⟩ (ci := 8) (T := TX10) rfl rfl (Nat.le_of_ble_eq_true rfl) iw_X10 qw_616 gr_11_0 (fun _ _ => by simp) (fun w i => List.mem_of_getElem? (i := 0) rfl) dX10_ticks_58 rfl rfl) <| zl_X10_ticks_1
theorem dX10_tick_0 : decode cX10_tick 0 = .ok (.iload_n 1, 1) := by decide +kernel
theorem dX10_tick_1 : decode cX10_tick 1 = .ok (.iconst 1, 1) := by decide +kernel
theorem dX10_tick_2 : decode cX10_tick 2 = .ok (.bipush 40, 2) := by decide +kernel
theorem dX10_tick_4 : decode cX10_tick 4 = .ok (.invokestatic 32, 3) := by decide +kernel
theorem dX10_tick_7 : decode cX10_tick 7 = .ok (.ifCond .eq 17, 3) := by decide +kernel
theorem dX10_tick_10 : decode cX10_tick 10 = .ok (.aload_n 0, 1) := by decide +kernel
theorem dX10_tick_11 : decode cX10_tick 11 = .ok (.getfield 10, 3) := by decide +kernel
theorem dX10_tick_14 : decode cX10_tick 14 = .ok (.iconst 0, 1) := by decide +kernel
theorem dX10_tick_15 : decode cX10_tick 15 = .ok (.iaload, 1) := by decide +kernel
theorem dX10_tick_16 : decode cX10_tick 16 = .ok (.iload_n 1, 1) := by decide +kernel
theorem dX10_tick_17 : decode cX10_tick 17 = .ok (.iadd, 1) := by decide +kernel
theorem dX10_tick_18 : decode cX10_tick 18 = .ok (.sipush 9999, 3) := by decide +kernel
theorem dX10_tick_21 : decode cX10_tick 21 = .ok (.if_icmp .le 5, 3) := by decide +kernel
theorem dX10_tick_24 : decode cX10_tick 24 = .ok (.iconst (-1), 1) := by decide +kernel
theorem dX10_tick_25 : decode cX10_tick 25 = .ok (.ireturn, 1) := by decide +kernel
theorem dX10_tick_26 : decode cX10_tick 26 = .ok (.iconst 0, 1) := by decide +kernel
theorem dX10_tick_27 : decode cX10_tick 27 = .ok (.istore_n 2, 1) := by decide +kernel
theorem dX10_tick_28 : decode cX10_tick 28 = .ok (.iload_n 2, 1) := by decide +kernel
theorem dX10_tick_29 : decode cX10_tick 29 = .ok (.iload_n 1, 1) := by decide +kernel
theorem dX10_tick_30 : decode cX10_tick 30 = .ok (.if_icmp .ge 13, 3) := by decide +kernel
theorem dX10_tick_33 : decode cX10_tick 33 = .ok (.aload_n 0, 1) := by decide +kernel
theorem dX10_tick_34 : decode cX10_tick 34 = .ok (.invokevirtual 194, 3) := by decide +kernel
theorem dX10_tick_37 : decode cX10_tick 37 = .ok (.iinc 2 1, 3) := by decide +kernel
theorem dX10_tick_40 : decode cX10_tick 40 = .ok (.goto (-12), 3) := by decide +kernel
theorem dX10_tick_43 : decode cX10_tick 43 = .ok (.aload_n 0, 1) := by decide +kernel
theorem dX10_tick_44 : decode cX10_tick 44 = .ok (.getfield 10, 3) := by decide +kernel
theorem dX10_tick_47 : decode cX10_tick 47 = .ok (.iconst 0, 1) := by decide +kernel
theorem dX10_tick_48 : decode cX10_tick 48 = .ok (.iaload, 1) := by decide +kernel
theorem dX10_tick_49 : decode cX10_tick 49 = .ok (.ireturn, 1) := by decide +kernel
set_option maxRecDepth 20000 in
theorem zl_X10_tick_0 : z_All z_tab cX10_tick 3 (some .int) RX10 pc_X10_tick 0 (k_X10_tick.drop 0) := z_cons (ok_iload_n dX10_tick_0 rfl rfl) <| z_cons (ok_iconst (by decide) dX10_tick_1 rfl rfl) <| z_cons (ok_bipush (by decide) dX10_tick_2 rfl rfl) <| z_cons (ok_callS (k := 162) (n := 3) qw_617 qw_618 ⟨by decide +kernel, by decide +kernel, by decide +kernel⟩ (Nat.le_of_ble_eq_true rfl) qw_620 qw_619 dX10_tick_4 rfl rfl) <| z_cons (ok_if_eq (tgt := 24) (by decide) rfl dX10_tick_7 rfl rfl) <| z_cons (ok_aload_n dX10_tick_10 rfl rfl) <| z_cons (ok_getr (k := 0) ⟨by decide, by decide, by decide⟩ (ci := 8) (T := TX10) rfl rfl (Nat.le_of_ble_eq_true rfl) iw_X10 qw_616 gr_11_0 (fun _ _ => by simp) (fun w i => List.mem_of_getElem? (i := 0) rfl) dX10_tick_11 rfl rfl) <| z_cons (ok_iconst (by decide) dX10_tick_14 rfl rfl) <| z_cons (ok_iald dX10_tick_15 rfl rfl) <| z_cons (ok_iload_n dX10_tick_16 rfl rfl) <| z_cons (ok_iadd dX10_tick_17 rfl rfl) <| z_cons (ok_sipush (by decide) dX10_tick_18 rfl rfl) <| z_cons (ok_icmp_le (tgt := 26) (by decide) rfl dX10_tick_21 rfl rfl) <| z_cons (ok_iconst (by decide) dX10_tick_24 rfl rfl) <| z_cons (ok_iret rfl dX10_tick_25 rfl) <| z_cons (ok_iconst (by decide) dX10_tick_26 rfl rfl) <| z_cons (ok_istore_n (Nat.le_of_ble_eq_true rfl) dX10_tick_27 rfl rfl) <| z_cons (ok_iload_n dX10_tick_28 rfl rfl) <| z_cons (ok_iload_n dX10_tick_29 rfl rfl) <| z_cons (ok_icmp_ge (tgt := 43) (by decide) rfl dX10_tick_30 rfl rfl) <| z_cons (ok_aload_n dX10_tick_33 rfl rfl) <| z_cons (ok_callv ⟨by decide, by decide, by decide⟩ (ci := 8) (C := RX10) (T := TX10) rfl go_11 (k := 220) (n := 0) qw_806 qw_618 ⟨by decide +kernel, by decide +kernel, by decide +kernel⟩ (Nat.le_of_ble_eq_true rfl) qw_807 qw_808 qw_809 dX10_tick_34 rfl rfl) <| z_cons (ok_iinc (by decide) (Nat.le_of_ble_eq_true rfl) dX10_tick_37 rfl rfl) <| z_cons (ok_goto (tgt := 28) (by decide) rfl dX10_tick_40 rfl) <| z_cons (ok_aload_n dX10_tick_43 rfl rfl) <| z_cons (ok_getr (k := 0) ⟨by decide, by decide, by decide⟩ (ci := 8) (T := TX10) rfl rfl (Nat.le_of_ble_eq_true rfl) iw_X10 qw_616 gr_11_0 (fun _ _ => by simp) (fun w i => List.mem_of_getElem? (i := 0) rfl) dX10_tick_44 rfl rfl) <| z_cons (ok_iconst (by decide) dX10_tick_47 rfl rfl) <| z_cons (ok_iald dX10_tick_48 rfl rfl) <| z_cons (ok_iret rfl dX10_tick_49 rfl) <| z_nil
theorem dX10_tagOf_0 : decode cX10_tagOf 0 = .ok (.aload_n 0, 1) := by decide +kernel
theorem dX10_tagOf_1 : decode cX10_tagOf 1 = .ok (.iload_n 1, 1) := by decide +kernel
theorem dX10_tagOf_2 : decode cX10_tagOf 2 = .ok (.invokevirtual 74, 3) := by decide +kernel
theorem dX10_tagOf_5 : decode cX10_tagOf 5 = .ok (.ifCond .ne 6, 3) := by decide +kernel
theorem dX10_tagOf_8 : decode cX10_tagOf 8 = .ok (.bipush (-2), 2) := by decide +kernel
theorem dX10_tagOf_10 : decode cX10_tagOf 10 = .ok (.ireturn, 1) := by decide +kernel
theorem dX10_tagOf_11 : decode cX10_tagOf 11 = .ok (.iload_n 2, 1) := by decide +kernel
theorem dX10_tagOf_12 : decode cX10_tagOf 12 = .ok (.tableswitch 222 0 13 #[72, 72, 72, 72, 72, 79, 93, 104, 115, 126, 137, 148, 180, 216], 72) := by decide +kernel
theorem dX10_tagOf_84 : decode cX10_tagOf 84 = .ok (.aload_n 0, 1) := by decide +kernel
theorem dX10_tagOf_85 : decode cX10_tagOf 85 = .ok (.iload_n 1, 1) := by decide +kernel
theorem dX10_tagOf_86 : decode cX10_tagOf 86 = .ok (.iload_n 2, 1) := by decide +kernel
theorem dX10_tagOf_87 : decode cX10_tagOf 87 = .ok (.invokevirtual 45, 3) := by decide +kernel
theorem dX10_tagOf_90 : decode cX10_tagOf 90 = .ok (.ireturn, 1) := by decide +kernel
theorem dX10_tagOf_91 : decode cX10_tagOf 91 = .ok (.aload_n 0, 1) := by decide +kernel
theorem dX10_tagOf_92 : decode cX10_tagOf 92 = .ok (.iload_n 1, 1) := by decide +kernel
theorem dX10_tagOf_93 : decode cX10_tagOf 93 = .ok (.invokevirtual 57, 3) := by decide +kernel
theorem dX10_tagOf_96 : decode cX10_tagOf 96 = .ok (.ifCond .eq 7, 3) := by decide +kernel
theorem dX10_tagOf_99 : decode cX10_tagOf 99 = .ok (.iconst 1, 1) := by decide +kernel
theorem dX10_tagOf_100 : decode cX10_tagOf 100 = .ok (.goto 4, 3) := by decide +kernel
theorem dX10_tagOf_103 : decode cX10_tagOf 103 = .ok (.iconst 0, 1) := by decide +kernel
theorem dX10_tagOf_104 : decode cX10_tagOf 104 = .ok (.ireturn, 1) := by decide +kernel
theorem dX10_tagOf_105 : decode cX10_tagOf 105 = .ok (.aload_n 0, 1) := by decide +kernel
theorem dX10_tagOf_106 : decode cX10_tagOf 106 = .ok (.getfield 10, 3) := by decide +kernel
theorem dX10_tagOf_109 : decode cX10_tagOf 109 = .ok (.sipush 550, 3) := by decide +kernel
theorem dX10_tagOf_112 : decode cX10_tagOf 112 = .ok (.iload_n 1, 1) := by decide +kernel
theorem dX10_tagOf_113 : decode cX10_tagOf 113 = .ok (.iadd, 1) := by decide +kernel
theorem dX10_tagOf_114 : decode cX10_tagOf 114 = .ok (.iaload, 1) := by decide +kernel
theorem dX10_tagOf_115 : decode cX10_tagOf 115 = .ok (.ireturn, 1) := by decide +kernel
theorem dX10_tagOf_116 : decode cX10_tagOf 116 = .ok (.aload_n 0, 1) := by decide +kernel
theorem dX10_tagOf_117 : decode cX10_tagOf 117 = .ok (.getfield 10, 3) := by decide +kernel
theorem dX10_tagOf_120 : decode cX10_tagOf 120 = .ok (.sipush 574, 3) := by decide +kernel
theorem dX10_tagOf_123 : decode cX10_tagOf 123 = .ok (.iload_n 1, 1) := by decide +kernel
theorem dX10_tagOf_124 : decode cX10_tagOf 124 = .ok (.iadd, 1) := by decide +kernel
theorem dX10_tagOf_125 : decode cX10_tagOf 125 = .ok (.iaload, 1) := by decide +kernel
theorem dX10_tagOf_126 : decode cX10_tagOf 126 = .ok (.ireturn, 1) := by decide +kernel
theorem dX10_tagOf_127 : decode cX10_tagOf 127 = .ok (.aload_n 0, 1) := by decide +kernel
theorem dX10_tagOf_128 : decode cX10_tagOf 128 = .ok (.getfield 10, 3) := by decide +kernel
theorem dX10_tagOf_131 : decode cX10_tagOf 131 = .ok (.sipush 502, 3) := by decide +kernel
theorem dX10_tagOf_134 : decode cX10_tagOf 134 = .ok (.iload_n 1, 1) := by decide +kernel
theorem dX10_tagOf_135 : decode cX10_tagOf 135 = .ok (.iadd, 1) := by decide +kernel
theorem dX10_tagOf_136 : decode cX10_tagOf 136 = .ok (.iaload, 1) := by decide +kernel
theorem dX10_tagOf_137 : decode cX10_tagOf 137 = .ok (.ireturn, 1) := by decide +kernel
theorem dX10_tagOf_138 : decode cX10_tagOf 138 = .ok (.aload_n 0, 1) := by decide +kernel
theorem dX10_tagOf_139 : decode cX10_tagOf 139 = .ok (.getfield 10, 3) := by decide +kernel
theorem dX10_tagOf_142 : decode cX10_tagOf 142 = .ok (.sipush 598, 3) := by decide +kernel
theorem dX10_tagOf_145 : decode cX10_tagOf 145 = .ok (.iload_n 1, 1) := by decide +kernel
theorem dX10_tagOf_146 : decode cX10_tagOf 146 = .ok (.iadd, 1) := by decide +kernel
theorem dX10_tagOf_147 : decode cX10_tagOf 147 = .ok (.iaload, 1) := by decide +kernel
theorem dX10_tagOf_148 : decode cX10_tagOf 148 = .ok (.ireturn, 1) := by decide +kernel
theorem dX10_tagOf_149 : decode cX10_tagOf 149 = .ok (.aload_n 0, 1) := by decide +kernel
theorem dX10_tagOf_150 : decode cX10_tagOf 150 = .ok (.getfield 10, 3) := by decide +kernel
theorem dX10_tagOf_153 : decode cX10_tagOf 153 = .ok (.sipush 622, 3) := by decide +kernel
theorem dX10_tagOf_156 : decode cX10_tagOf 156 = .ok (.iload_n 1, 1) := by decide +kernel
theorem dX10_tagOf_157 : decode cX10_tagOf 157 = .ok (.iadd, 1) := by decide +kernel
theorem dX10_tagOf_158 : decode cX10_tagOf 158 = .ok (.iaload, 1) := by decide +kernel
theorem dX10_tagOf_159 : decode cX10_tagOf 159 = .ok (.ireturn, 1) := by decide +kernel
theorem dX10_tagOf_160 : decode cX10_tagOf 160 = .ok (.aload_n 0, 1) := by decide +kernel
theorem dX10_tagOf_161 : decode cX10_tagOf 161 = .ok (.iload_n 1, 1) := by decide +kernel
theorem dX10_tagOf_162 : decode cX10_tagOf 162 = .ok (.iconst 1, 1) := by decide +kernel
theorem dX10_tagOf_163 : decode cX10_tagOf 163 = .ok (.invokevirtual 45, 3) := by decide +kernel
theorem dX10_tagOf_166 : decode cX10_tagOf 166 = .ok (.iconst 1, 1) := by decide +kernel
theorem dX10_tagOf_167 : decode cX10_tagOf 167 = .ok (.if_icmp .ne 23, 3) := by decide +kernel
theorem dX10_tagOf_170 : decode cX10_tagOf 170 = .ok (.aload_n 0, 1) := by decide +kernel
theorem dX10_tagOf_171 : decode cX10_tagOf 171 = .ok (.getfield 10, 3) := by decide +kernel
theorem dX10_tagOf_174 : decode cX10_tagOf 174 = .ok (.iconst 0, 1) := by decide +kernel
theorem dX10_tagOf_175 : decode cX10_tagOf 175 = .ok (.iaload, 1) := by decide +kernel
theorem dX10_tagOf_176 : decode cX10_tagOf 176 = .ok (.aload_n 0, 1) := by decide +kernel
theorem dX10_tagOf_177 : decode cX10_tagOf 177 = .ok (.getfield 10, 3) := by decide +kernel
theorem dX10_tagOf_180 : decode cX10_tagOf 180 = .ok (.sipush 646, 3) := by decide +kernel
theorem dX10_tagOf_183 : decode cX10_tagOf 183 = .ok (.iload_n 1, 1) := by decide +kernel
theorem dX10_tagOf_184 : decode cX10_tagOf 184 = .ok (.iadd, 1) := by decide +kernel
theorem dX10_tagOf_185 : decode cX10_tagOf 185 = .ok (.iaload, 1) := by decide +kernel
theorem dX10_tagOf_186 : decode cX10_tagOf 186 = .ok (.isub, 1) := by decide +kernel
theorem dX10_tagOf_187 : decode cX10_tagOf 187 = .ok (.goto 4, 3) := by decide +kernel
theorem dX10_tagOf_190 : decode cX10_tagOf 190 = .ok (.iconst (-1), 1) := by decide +kernel
theorem dX10_tagOf_191 : decode cX10_tagOf 191 = .ok (.ireturn, 1) := by decide +kernel
theorem dX10_tagOf_192 : decode cX10_tagOf 192 = .ok (.aload_n 0, 1) := by decide +kernel
theorem dX10_tagOf_193 : decode cX10_tagOf 193 = .ok (.getfield 10, 3) := by decide +kernel
theorem dX10_tagOf_196 : decode cX10_tagOf 196 = .ok (.sipush 670, 3) := by decide +kernel
theorem dX10_tagOf_199 : decode cX10_tagOf 199 = .ok (.iload_n 1, 1) := by decide +kernel
theorem dX10_tagOf_200 : decode cX10_tagOf 200 = .ok (.iadd, 1) := by decide +kernel
theorem dX10_tagOf_201 : decode cX10_tagOf 201 = .ok (.iaload, 1) := by decide +kernel
theorem dX10_tagOf_202 : decode cX10_tagOf 202 = .ok (.iconst (-1), 1) := by decide +kernel
theorem dX10_tagOf_203 : decode cX10_tagOf 203 = .ok (.if_icmp .ne 7, 3) := by decide +kernel
theorem dX10_tagOf_206 : decode cX10_tagOf 206 = .ok (.iconst (-1), 1) := by decide +kernel
theorem dX10_tagOf_207 : decode cX10_tagOf 207 = .ok (.goto 20, 3) := by decide +kernel
theorem dX10_tagOf_210 : decode cX10_tagOf 210 = .ok (.aload_n 0, 1) := by decide +kernel
theorem dX10_tagOf_211 : decode cX10_tagOf 211 = .ok (.getfield 10, 3) := by decide +kernel
theorem dX10_tagOf_214 : decode cX10_tagOf 214 = .ok (.iconst 0, 1) := by decide +kernel
theorem dX10_tagOf_215 : decode cX10_tagOf 215 = .ok (.iaload, 1) := by decide +kernel
theorem dX10_tagOf_216 : decode cX10_tagOf 216 = .ok (.aload_n 0, 1) := by decide +kernel
theorem dX10_tagOf_217 : decode cX10_tagOf 217 = .ok (.getfield 10, 3) := by decide +kernel
theorem dX10_tagOf_220 : decode cX10_tagOf 220 = .ok (.sipush 670, 3) := by decide +kernel
theorem dX10_tagOf_223 : decode cX10_tagOf 223 = .ok (.iload_n 1, 1) := by decide +kernel
theorem dX10_tagOf_224 : decode cX10_tagOf 224 = .ok (.iadd, 1) := by decide +kernel
theorem dX10_tagOf_225 : decode cX10_tagOf 225 = .ok (.iaload, 1) := by decide +kernel
theorem dX10_tagOf_226 : decode cX10_tagOf 226 = .ok (.isub, 1) := by decide +kernel
theorem dX10_tagOf_227 : decode cX10_tagOf 227 = .ok (.ireturn, 1) := by decide +kernel
theorem dX10_tagOf_228 : decode cX10_tagOf 228 = .ok (.aload_n 0, 1) := by decide +kernel
theorem dX10_tagOf_229 : decode cX10_tagOf 229 = .ok (.iload_n 1, 1) := by decide +kernel
theorem dX10_tagOf_230 : decode cX10_tagOf 230 = .ok (.invokevirtual 67, 3) := by decide +kernel
theorem dX10_tagOf_233 : decode cX10_tagOf 233 = .ok (.ireturn, 1) := by decide +kernel
theorem dX10_tagOf_234 : decode cX10_tagOf 234 = .ok (.bipush (-2), 2) := by decide +kernel
theorem dX10_tagOf_236 : decode cX10_tagOf 236 = .ok (.ireturn, 1) := by decide +kernel
set_option maxRecDepth 20000 in
theorem zl_X10_tagOf_2 : z_All z_tab cX10_tagOf 3 (some .int) RX10 pc_X10_tagOf 80 (k_X10_tagOf.drop 80) := z_cons (ok_iadd dX10_tagOf_200 rfl rfl) <| z_cons (ok_iald dX10_tagOf_201 rfl rfl) <| z_cons (ok_iconst (by decide) dX10_tagOf_202 rfl rfl) <| z_cons (ok_icmp_ne (tgt := 210) (by decide) rfl dX10_tagOf_203 rfl rfl) <| z_cons (ok_iconst (by decide) dX10_tagOf_206 rfl rfl) <| z_cons (ok_goto (tgt := 227) (by decide) rfl dX10_tagOf_207 rfl) <| z_cons (ok_aload_n dX10_tagOf_210 rfl rfl) <| z_cons (ok_getr (k := 0) ⟨by decide, by decide, by decide⟩ (ci := 8) (T := TX10) rfl rfl (Nat.le_of_ble_eq_true rfl) iw_X10 qw_616 gr_11_0 (fun _ _ => by simp) (fun w i => List.mem_of_getElem? (i := 0) rfl) dX10_tagOf_211 rfl rfl) <| z_cons (ok_iconst (by decide) dX10_tagOf_214 rfl rfl) <| z_cons (ok_iald dX10_tagOf_215 rfl rfl) <| z_cons (ok_aload_n dX10_tagOf_216 rfl rfl) <| z_cons (ok_getr (k := 0) ⟨by decide, by decide, by decide⟩ (ci := 8) (T := TX10) rfl rfl (Nat.le_of_ble_eq_true rfl) iw_X10 qw_616 gr_11_0 (fun _ _ => by simp) (fun w i => List.mem_of_getElem? (i := 0) rfl) dX10_tagOf_217 rfl rfl) <| z_cons (ok_sipush (by decide) dX10_tagOf_220 rfl rfl) <| z_cons (ok_iload_n dX10_tagOf_223 rfl rfl) <| z_cons (ok_iadd dX10_tagOf_224 rfl rfl) <| z_cons (ok_iald dX10_tagOf_225 rfl rfl) <| z_cons (ok_isub dX10_tagOf_226 rfl rfl) <| z_cons (ok_iret rfl dX10_tagOf_227 rfl) <| z_cons (ok_aload_n dX10_tagOf_228 rfl rfl) <| z_cons (ok_iload_n dX10_tagOf_229 rfl rfl) <| z_cons (ok_callv ⟨by decide, by decide, by decide⟩ (ci := 8) (C := RX10) (T := TX10) rfl go_11 (k := 171) (n := 1) qw_653 qw_618 ⟨by decide +kernel, by decide +kernel, by decide +kernel⟩ (Nat.le_of_ble_eq_true rfl) qw_654 qw_655 qw_656 dX10_tagOf_230 rfl rfl) <| z_cons (ok_iret rfl dX10_tagOf_233 rfl) <| z_cons (ok_bipush (by decide) dX10_tagOf_234 rfl rfl) <| z_cons (ok_iret rfl dX10_tagOf_236 rfl) <| z_nil
set_option maxRecDepth 20000 in
theorem zl_X10_tagOf_1 : z_All z_tab cX10_tagOf 3 (some .int) RX10 pc_X10_tagOf 40 (k_X10_tagOf.drop 40) := z_cons (ok_iald dX10_tagOf_136 rfl rfl) <| z_cons (ok_iret rfl dX10_tagOf_137 rfl) <| z_cons (ok_aload_n dX10_tagOf_138 rfl rfl) <| z_cons (ok_getr (k := 0) ⟨by decide, by decide, by decide⟩ (ci := 8) (T := TX10) rfl rfl (Nat.le_of_ble_eq_true rfl) iw_X10 qw_616 gr_11_0 (fun _ _ => by simp) (fun w i => List.mem_of_getElem? (i := 0) rfl) dX10_tagOf_139 rfl rfl) <| z_cons (ok_sipush (by decide) dX10_tagOf_142 rfl rfl) <| z_cons (ok_iload_n dX10_tagOf_145 rfl rfl) <| z_cons (ok_iadd dX10_tagOf_146 rfl rfl) <| z_cons (ok_iald dX10_tagOf_147 rfl rfl) <| z_cons (ok_iret rfl dX10_tagOf_148 rfl) <| z_cons (ok_aload_n dX10_tagOf_149 rfl rfl) <| z_cons (ok_getr (k := 0) ⟨by decide, by decide, by decide⟩ (ci := 8) (T := TX10) rfl rfl (Nat.le_of_ble_eq_true rfl) iw_X10 qw_616 gr_11_0 (fun _ _ => by simp) (fun w i => List.mem_of_getElem? (i := 0) rfl) dX10_tagOf_150 rfl rfl) <| z_cons (ok_sipush (by decide) dX10_tagOf_153 rfl rfl) <| z_cons (ok_iload_n dX10_tagOf_156 rfl rfl) <| z_cons (ok_iadd dX10_tagOf_157 rfl rfl) <| z_cons (ok_iald dX10_tagOf_158 rfl rfl) <| z_cons (ok_iret rfl dX10_tagOf_159 rfl) <| z_cons (ok_aload_n dX10_tagOf_160 rfl rfl) <| z_cons (ok_iload_n dX10_tagOf_161 rfl rfl) <| z_cons (ok_iconst (by decide) dX10_tagOf_162 rfl rfl) <| z_cons (ok_callv ⟨by decide, by decide, by decide⟩ (ci := 8) (C := RX10) (T := TX10) rfl go_11 (k := 174) (n := 2) qw_630 qw_618 ⟨by decide +kernel, by decide +kernel, by decide +kernel⟩ (Nat.le_of_ble_eq_true rfl) qw_631 qw_632 qw_633 dX10_tagOf_163 rfl rfl) <| z_cons (ok_iconst (by decide) dX10_tagOf_166 rfl rfl) <| z_cons (ok_icmp_ne (tgt := 190) (by decide) rfl dX10_tagOf_167 rfl rfl) <| z_cons (ok_aload_n dX10_tagOf_170 rfl rfl) <| z_cons (ok_getr (k := 0) ⟨by decide, by decide, by decide⟩ (ci := 8) (T := TX10) rfl rfl (Nat.le_of_ble_eq_true rfl) iw_X10 qw_616 gr_11_0 (fun _ _ => by simp) (fun w i => List.mem_of_getElem? (i := 0) rfl) dX10_tagOf_171 rfl rfl) <| z_cons (ok_iconst (by decide) dX10_tagOf_174 rfl rfl) <| z_cons (ok_iald dX10_tagOf_175 rfl rfl) <| z_cons (ok_aload_n dX10_tagOf_176 rfl rfl) <| z_cons (ok_getr (k := 0) ⟨by decide, by decide, by decide⟩ (ci := 8) (T := TX10) rfl rfl (Nat.le_of_ble_eq_true rfl) iw_X10 qw_616 gr_11_0 (fun _ _ => by simp) (fun w i => List.mem_of_getElem? (i := 0) rfl) dX10_tagOf_177 rfl rfl) <| z_cons (ok_sipush (by decide) dX10_tagOf_180 rfl rfl) <| z_cons (ok_iload_n dX10_tagOf_183 rfl rfl) <| z_cons (ok_iadd dX10_tagOf_184 rfl rfl) <| z_cons (ok_iald dX10_tagOf_185 rfl rfl) <| z_cons (ok_isub dX10_tagOf_186 rfl rfl) <| z_cons (ok_goto (tgt := 191) (by decide) rfl dX10_tagOf_187 rfl) <| z_cons (ok_iconst (by decide) dX10_tagOf_190 rfl rfl) <| z_cons (ok_iret rfl dX10_tagOf_191 rfl) <| z_cons (ok_aload_n dX10_tagOf_192 rfl rfl) <| z_cons (ok_getr (k := 0) ⟨by decide, by decide, by decide⟩ (ci := 8) (T := TX10) rfl rfl (Nat.le_of_ble_eq_true rfl) iw_X10 qw_616 gr_11_0 (fun _ _ => by simp) (fun w i => List.mem_of_getElem? (i := 0) rfl) dX10_tagOf_193 rfl rfl) <| z_cons (ok_sipush (by decide) dX10_tagOf_196 rfl rfl) <| z_cons (ok_iload_n dX10_tagOf_199 rfl rfl) <| zl_X10_tagOf_2
set_option maxRecDepth 20000 in
theorem zl_X10_tagOf_0 : z_All z_tab cX10_tagOf 3 (some .int) RX10 pc_X10_tagOf 0 (k_X10_tagOf.drop 0) := z_cons (ok_aload_n dX10_tagOf_0 rfl rfl) <| z_cons (ok_iload_n dX10_tagOf_1 rfl rfl) <| z_cons (ok_callv ⟨by decide, by decide, by decide⟩ (ci := 8) (C := RX10) (T := TX10) rfl go_11 (k := 167) (n := 1) qw_665 qw_618 ⟨by decide +kernel, by decide +kernel, by decide +kernel⟩ (Nat.le_of_ble_eq_true rfl) qw_666 qw_667 qw_668 dX10_tagOf_2 rfl rfl) <| z_cons (ok_if_ne (tgt := 11) (by decide) rfl dX10_tagOf_5 rfl rfl) <| z_cons (ok_bipush (by decide) dX10_tagOf_8 rfl rfl) <| z_cons (ok_iret rfl dX10_tagOf_10 rfl) <| z_cons (ok_iload_n dX10_tagOf_11 rfl rfl) <| z_cons (ok_tsw (lo := 0) dX10_tagOf_12 rfl (Nat.le_of_ble_eq_true rfl) (by decide) (by decide +kernel) (by decide)) <| z_cons (ok_aload_n dX10_tagOf_84 rfl rfl) <| z_cons (ok_iload_n dX10_tagOf_85 rfl rfl) <| z_cons (ok_iload_n dX10_tagOf_86 rfl rfl) <| z_cons (ok_callv ⟨by decide, by decide, by decide⟩ (ci := 8) (C := RX10) (T := TX10) rfl go_11 (k := 174) (n := 2) qw_630 qw_618 ⟨by decide +kernel, by decide +kernel, by decide +kernel⟩ (Nat.le_of_ble_eq_true rfl) qw_631 qw_632 qw_633 dX10_tagOf_87 rfl rfl) <| z_cons (ok_iret rfl dX10_tagOf_90 rfl) <| z_cons (ok_aload_n dX10_tagOf_91 rfl rfl) <| z_cons (ok_iload_n dX10_tagOf_92 rfl rfl) <| z_cons (ok_callv ⟨by decide, by decide, by decide⟩ (ci := 8) (C := RX10) (T := TX10) rfl go_11 (k := 173) (n := 1) qw_642 qw_618 ⟨by decide +kernel, by decide +kernel, by decide +kernel⟩ (Nat.le_of_ble_eq_true rfl) qw_643 qw_644 qw_645 dX10_tagOf_93 rfl rfl) <| z_cons (ok_if_eq (tgt := 103) (by decide) rfl dX10_tagOf_96 rfl rfl) <| z_cons (ok_iconst (by decide) dX10_tagOf_99 rfl rfl) <| z_cons (ok_goto (tgt := 104) (by decide) rfl dX10_tagOf_100 rfl) <| z_cons (ok_iconst (by decide) dX10_tagOf_103 rfl rfl) <| z_cons (ok_iret rfl dX10_tagOf_104 rfl) <| z_cons (ok_aload_n dX10_tagOf_105 rfl rfl) <| z_cons (ok_getr (k := 0) ⟨by decide, by decide, by decide⟩ (ci := 8) (T := TX10) rfl rfl (Nat.le_of_ble_eq_true rfl) iw_X10 qw_616 gr_11_0 (fun _ _ => by simp) (fun w i => List.mem_of_getElem? (i := 0) rfl) dX10_tagOf_106 rfl rfl) <| z_cons (ok_sipush (by decide) dX10_tagOf_109 rfl rfl) <| z_cons (ok_iload_n dX10_tagOf_112 rfl rfl) <| z_cons (ok_iadd dX10_tagOf_113 rfl rfl) <| z_cons (ok_iald dX10_tagOf_114 rfl rfl) <| z_cons (ok_iret rfl dX10_tagOf_115 rfl) <| z_cons (ok_aload_n dX10_tagOf_116 rfl rfl) <| z_cons (ok_getr (k := 0) ⟨by decide, by decide, by decide⟩ (ci := 8) (T := TX10) rfl rfl (Nat.le_of_ble_eq_true rfl) iw_X10 qw_616 gr_11_0 (fun _ _ => by simp) (fun w i => List.mem_of_getElem? (i := 0) rfl) dX10_tagOf_117 rfl rfl) <| z_cons (ok_sipush (by decide) dX10_tagOf_120 rfl rfl) <| z_cons (ok_iload_n dX10_tagOf_123 rfl rfl) <| z_cons (ok_iadd dX10_tagOf_124 rfl rfl) <| z_cons (ok_iald dX10_tagOf_125 rfl rfl) <| z_cons (ok_iret rfl dX10_tagOf_126 rfl) <| z_cons (ok_aload_n dX10_tagOf_127 rfl rfl) <| z_cons (ok_getr (k := 0) ⟨by decide, by decide, by decide⟩ (ci := 8) (T := TX10) rfl rfl (Nat.le_of_ble_eq_true rfl) iw_X10 qw_616 gr_11_0 (fun _ _ => by simp) (fun w i => List.mem_of_getElem? (i := 0) rfl) dX10_tagOf_128 rfl rfl) <| z_cons (ok_sipush (by decide) dX10_tagOf_131 rfl rfl) <| z_cons (ok_iload_n dX10_tagOf_134 rfl rfl) <| z_cons (ok_iadd dX10_tagOf_135 rfl rfl) <| zl_X10_tagOf_1
theorem dX10_bits_0 : decode cX10_bits 0 = .ok (.aload_n 0, 1) := by decide +kernel
theorem dX10_bits_1 : decode cX10_bits 1 = .ok (.iload_n 1, 1) := by decide +kernel
theorem dX10_bits_2 : decode cX10_bits 2 = .ok (.invokevirtual 74, 3) := by decide +kernel
theorem dX10_bits_5 : decode cX10_bits 5 = .ok (.ifCond .eq 41, 3) := by decide +kernel
theorem dX10_bits_8 : decode cX10_bits 8 = .ok (.iload_n 2, 1) := by decide +kernel
theorem dX10_bits_9 : decode cX10_bits 9 = .ok (.iconst 0, 1) := by decide +kernel
theorem dX10_bits_10 : decode cX10_bits 10 = .ok (.bipush 31, 2) := by decide +kernel
theorem dX10_bits_12 : decode cX10_bits 12 = .ok (.invokestatic 32, 3) := by decide +kernel
theorem dX10_bits_15 : decode cX10_bits 15 = .ok (.ifCond .eq 31, 3) := by decide +kernel
theorem dX10_bits_18 : decode cX10_bits 18 = .ok (.iload_n 3, 1) := by decide +kernel
theorem dX10_bits_19 : decode cX10_bits 19 = .ok (.iconst 1, 1) := by decide +kernel
theorem dX10_bits_20 : decode cX10_bits 20 = .ok (.bipush 31, 2) := by decide +kernel
theorem dX10_bits_22 : decode cX10_bits 22 = .ok (.invokestatic 32, 3) := by decide +kernel
theorem dX10_bits_25 : decode cX10_bits 25 = .ok (.ifCond .eq 21, 3) := by decide +kernel
theorem dX10_bits_28 : decode cX10_bits 28 = .ok (.iload_n 2, 1) := by decide +kernel
theorem dX10_bits_29 : decode cX10_bits 29 = .ok (.iload_n 3, 1) := by decide +kernel
theorem dX10_bits_30 : decode cX10_bits 30 = .ok (.iadd, 1) := by decide +kernel
theorem dX10_bits_31 : decode cX10_bits 31 = .ok (.bipush 32, 2) := by decide +kernel
theorem dX10_bits_33 : decode cX10_bits 33 = .ok (.if_icmp .gt 13, 3) := by decide +kernel
theorem dX10_bits_36 : decode cX10_bits 36 = .ok (.aload_n 0, 1) := by decide +kernel
theorem dX10_bits_37 : decode cX10_bits 37 = .ok (.iload_n 1, 1) := by decide +kernel
theorem dX10_bits_38 : decode cX10_bits 38 = .ok (.iload_n 2, 1) := by decide +kernel
theorem dX10_bits_39 : decode cX10_bits 39 = .ok (.iload_n 3, 1) := by decide +kernel
theorem dX10_bits_40 : decode cX10_bits 40 = .ok (.invokevirtual 98, 3) := by decide +kernel
theorem dX10_bits_43 : decode cX10_bits 43 = .ok (.goto 4, 3) := by decide +kernel
theorem dX10_bits_46 : decode cX10_bits 46 = .ok (.iconst (-1), 1) := by decide +kernel
theorem dX10_bits_47 : decode cX10_bits 47 = .ok (.ireturn, 1) := by decide +kernel
set_option maxRecDepth 20000 in
theorem zl_X10_bits_0 : z_All z_tab cX10_bits 4 (some .int) RX10 pc_X10_bits 0 (k_X10_bits.drop 0) := z_cons (ok_aload_n dX10_bits_0 rfl rfl) <| z_cons (ok_iload_n dX10_bits_1 rfl rfl) <| z_cons (ok_callv ⟨by decide, by decide, by decide⟩ (ci := 8) (C := RX10) (T := TX10) rfl go_11 (k := 167) (n := 1) qw_665 qw_618 ⟨by decide +kernel, by decide +kernel, by decide +kernel⟩ (Nat.le_of_ble_eq_true rfl) qw_666 qw_667 qw_668 dX10_bits_2 rfl rfl) <| z_cons (ok_if_eq (tgt := 46) (by decide) rfl dX10_bits_5 rfl rfl) <| z_cons (ok_iload_n dX10_bits_8 rfl rfl) <| z_cons (ok_iconst (by decide) dX10_bits_9 rfl rfl) <| z_cons (ok_bipush (by decide) dX10_bits_10 rfl rfl) <| z_cons (ok_callS (k := 162) (n := 3) qw_617 qw_618 ⟨by decide +kernel, by decide +kernel, by decide +kernel⟩ (Nat.le_of_ble_eq_true rfl) qw_620 qw_619 dX10_bits_12 rfl rfl) <| z_cons (ok_if_eq (tgt := 46) (by decide) rfl dX10_bits_15 rfl rfl) <| z_cons (ok_iload_n dX10_bits_18 rfl rfl) <| z_cons (ok_iconst (by decide) dX10_bits_19 rfl rfl) <| z_cons (ok_bipush (by decide) dX10_bits_20 rfl rfl) <| z_cons (ok_callS (k := 162) (n := 3) qw_617 qw_618 ⟨by decide +kernel, by decide +kernel, by decide +kernel⟩ (Nat.le_of_ble_eq_true rfl) qw_620 qw_619 dX10_bits_22 rfl rfl) <| z_cons (ok_if_eq (tgt := 46) (by decide) rfl dX10_bits_25 rfl rfl) <| z_cons (ok_iload_n dX10_bits_28 rfl rfl) <| z_cons (ok_iload_n dX10_bits_29 rfl rfl) <| z_cons (ok_iadd dX10_bits_30 rfl rfl) <| z_cons (ok_bipush (by decide) dX10_bits_31 rfl rfl) <| z_cons (ok_icmp_gt (tgt := 46) (by decide) rfl dX10_bits_33 rfl rfl) <| z_cons (ok_aload_n dX10_bits_36 rfl rfl) <| z_cons (ok_iload_n dX10_bits_37 rfl rfl) <| z_cons (ok_iload_n dX10_bits_38 rfl rfl) <| z_cons (ok_iload_n dX10_bits_39 rfl rfl) <| z_cons (ok_callv ⟨by decide, by decide, by decide⟩ (ci := 8) (C := RX10) (T := TX10) rfl go_11 (k := 193) (n := 3) qw_696 qw_618 ⟨by decide +kernel, by decide +kernel, by decide +kernel⟩ (Nat.le_of_ble_eq_true rfl) qw_697 qw_698 qw_699 dX10_bits_40 rfl rfl) <| z_cons (ok_goto (tgt := 47) (by decide) rfl dX10_bits_43 rfl) <| z_cons (ok_iconst (by decide) dX10_bits_46 rfl rfl) <| z_cons (ok_iret rfl dX10_bits_47 rfl) <| z_nil
theorem dX10_divisor_0 : decode cX10_divisor 0 = .ok (.iload_n 1, 1) := by decide +kernel
theorem dX10_divisor_1 : decode cX10_divisor 1 = .ok (.ifCond .ne 7, 3) := by decide +kernel
theorem dX10_divisor_4 : decode cX10_divisor 4 = .ok (.iload_n 0, 1) := by decide +kernel
theorem dX10_divisor_5 : decode cX10_divisor 5 = .ok (.goto 10, 3) := by decide +kernel
theorem dX10_divisor_8 : decode cX10_divisor 8 = .ok (.iload_n 1, 1) := by decide +kernel
theorem dX10_divisor_9 : decode cX10_divisor 9 = .ok (.iload_n 0, 1) := by decide +kernel
theorem dX10_divisor_10 : decode cX10_divisor 10 = .ok (.iload_n 1, 1) := by decide +kernel
theorem dX10_divisor_11 : decode cX10_divisor 11 = .ok (.irem, 1) := by decide +kernel
theorem dX10_divisor_12 : decode cX10_divisor 12 = .ok (.invokestatic 197, 3) := by decide +kernel
theorem dX10_divisor_15 : decode cX10_divisor 15 = .ok (.ireturn, 1) := by decide +kernel
set_option maxRecDepth 20000 in
theorem zl_X10_divisor_0 : z_All z_tab cX10_divisor 2 (some .int) RX10 pc_X10_divisor 0 (k_X10_divisor.drop 0) := z_cons (ok_iload_n dX10_divisor_0 rfl rfl) <| z_cons (ok_if_ne (tgt := 8) (by decide) rfl dX10_divisor_1 rfl rfl) <| z_cons (ok_iload_n dX10_divisor_4 rfl rfl) <| z_cons (ok_goto (tgt := 15) (by decide) rfl dX10_divisor_5 rfl) <| z_cons (ok_iload_n dX10_divisor_8 rfl rfl) <| z_cons (ok_iload_n dX10_divisor_9 rfl rfl) <| z_cons (ok_iload_n dX10_divisor_10 rfl rfl) <| z_cons (ok_irem dX10_divisor_11 rfl rfl) <| z_cons (ok_callS (k := 224) (n := 2) qw_810 qw_618 ⟨by decide +kernel, by decide +kernel, by decide +kernel⟩ (Nat.le_of_ble_eq_true rfl) qw_812 qw_811 dX10_divisor_12 rfl rfl) <| z_cons (ok_iret rfl dX10_divisor_15 rfl) <| z_nil
theorem dX10_slotsOf_0 : decode cX10_slotsOf 0 = .ok (.aload_n 0, 1) := by decide +kernel
theorem dX10_slotsOf_1 : decode cX10_slotsOf 1 = .ok (.getfield 10, 3) := by decide +kernel
theorem dX10_slotsOf_4 : decode cX10_slotsOf 4 = .ok (.sipush 310, 3) := by decide +kernel
theorem dX10_slotsOf_7 : decode cX10_slotsOf 7 = .ok (.iload_n 1, 1) := by decide +kernel
theorem dX10_slotsOf_8 : decode cX10_slotsOf 8 = .ok (.iadd, 1) := by decide +kernel
theorem dX10_slotsOf_9 : decode cX10_slotsOf 9 = .ok (.iaload, 1) := by decide +kernel
theorem dX10_slotsOf_10 : decode cX10_slotsOf 10 = .ok (.aload_n 0, 1) := by decide +kernel
theorem dX10_slotsOf_11 : decode cX10_slotsOf 11 = .ok (.getfield 10, 3) := by decide +kernel
theorem dX10_slotsOf_14 : decode cX10_slotsOf 14 = .ok (.sipush 306, 3) := by decide +kernel
theorem dX10_slotsOf_17 : decode cX10_slotsOf 17 = .ok (.iload_n 1, 1) := by decide +kernel
theorem dX10_slotsOf_18 : decode cX10_slotsOf 18 = .ok (.iadd, 1) := by decide +kernel
theorem dX10_slotsOf_19 : decode cX10_slotsOf 19 = .ok (.iaload, 1) := by decide +kernel
theorem dX10_slotsOf_20 : decode cX10_slotsOf 20 = .ok (.iadd, 1) := by decide +kernel
theorem dX10_slotsOf_21 : decode cX10_slotsOf 21 = .ok (.aload_n 0, 1) := by decide +kernel
theorem dX10_slotsOf_22 : decode cX10_slotsOf 22 = .ok (.getfield 10, 3) := by decide +kernel
theorem dX10_slotsOf_25 : decode cX10_slotsOf 25 = .ok (.sipush 314, 3) := by decide +kernel
theorem dX10_slotsOf_28 : decode cX10_slotsOf 28 = .ok (.iload_n 1, 1) := by decide +kernel
theorem dX10_slotsOf_29 : decode cX10_slotsOf 29 = .ok (.iadd, 1) := by decide +kernel
theorem dX10_slotsOf_30 : decode cX10_slotsOf 30 = .ok (.iaload, 1) := by decide +kernel
theorem dX10_slotsOf_31 : decode cX10_slotsOf 31 = .ok (.iadd, 1) := by decide +kernel
theorem dX10_slotsOf_32 : decode cX10_slotsOf 32 = .ok (.ireturn, 1) := by decide +kernel
set_option maxRecDepth 20000 in
theorem zl_X10_slotsOf_0 : z_All z_tab cX10_slotsOf 2 (some .int) RX10 pc_X10_slotsOf 0 (k_X10_slotsOf.drop 0) := z_cons (ok_aload_n dX10_slotsOf_0 rfl rfl) <| z_cons (ok_getr (k := 0) ⟨by decide, by decide, by decide⟩ (ci := 8) (T := TX10) rfl rfl (Nat.le_of_ble_eq_true rfl) iw_X10 qw_616 gr_11_0 (fun _ _ => by simp) (fun w i => List.mem_of_getElem? (i := 0) rfl) dX10_slotsOf_1 rfl rfl) <| z_cons (ok_sipush (by decide) dX10_slotsOf_4 rfl rfl) <| z_cons (ok_iload_n dX10_slotsOf_7 rfl rfl) <| z_cons (ok_iadd dX10_slotsOf_8 rfl rfl) <| z_cons (ok_iald dX10_slotsOf_9 rfl rfl) <| z_cons (ok_aload_n dX10_slotsOf_10 rfl rfl) <| z_cons (ok_getr (k := 0) ⟨by decide, by decide, by decide⟩ (ci := 8) (T := TX10) rfl rfl (Nat.le_of_ble_eq_true rfl) iw_X10 qw_616 gr_11_0 (fun _ _ => by simp) (fun w i => List.mem_of_getElem? (i := 0) rfl) dX10_slotsOf_11 rfl rfl) <| z_cons (ok_sipush (by decide) dX10_slotsOf_14 rfl rfl) <| z_cons (ok_iload_n dX10_slotsOf_17 rfl rfl) <| z_cons (ok_iadd dX10_slotsOf_18 rfl rfl) <| z_cons (ok_iald dX10_slotsOf_19 rfl rfl) <| z_cons (ok_iadd dX10_slotsOf_20 rfl rfl) <| z_cons (ok_aload_n dX10_slotsOf_21 rfl rfl) <| z_cons (ok_getr (k := 0) ⟨by decide, by decide, by decide⟩ (ci := 8) (T := TX10) rfl rfl (Nat.le_of_ble_eq_true rfl) iw_X10 qw_616 gr_11_0 (fun _ _ => by simp) (fun w i => List.mem_of_getElem? (i := 0) rfl) dX10_slotsOf_22 rfl rfl) <| z_cons (ok_sipush (by decide) dX10_slotsOf_25 rfl rfl) <| z_cons (ok_iload_n dX10_slotsOf_28 rfl rfl) <| z_cons (ok_iadd dX10_slotsOf_29 rfl rfl) <| z_cons (ok_iald dX10_slotsOf_30 rfl rfl) <| z_cons (ok_iadd dX10_slotsOf_31 rfl rfl) <| z_cons (ok_iret rfl dX10_slotsOf_32 rfl) <| z_nil
