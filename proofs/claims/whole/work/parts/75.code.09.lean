theorem dX10_clashes_0 : decode cX10_clashes 0 = .ok (.aload_n 0, 1) := by decide +kernel
theorem dX10_clashes_1 : decode cX10_clashes 1 = .ok (.getfield 10, 3) := by decide +kernel
theorem dX10_clashes_4 : decode cX10_clashes 4 = .ok (.sipush 314, 3) := by decide +kernel
theorem dX10_clashes_7 : decode cX10_clashes 7 = .ok (.iload_n 1, 1) := by decide +kernel
theorem dX10_clashes_8 : decode cX10_clashes 8 = .ok (.iadd, 1) := by decide +kernel
theorem dX10_clashes_9 : decode cX10_clashes 9 = .ok (.dup2, 1) := by decide +kernel
theorem dX10_clashes_10 : decode cX10_clashes 10 = .ok (.iaload, 1) := by decide +kernel
theorem dX10_clashes_11 : decode cX10_clashes 11 = .ok (.iconst 1, 1) := by decide +kernel
theorem dX10_clashes_12 : decode cX10_clashes 12 = .ok (.iadd, 1) := by decide +kernel
theorem dX10_clashes_13 : decode cX10_clashes 13 = .ok (.iastore, 1) := by decide +kernel
theorem dX10_clashes_14 : decode cX10_clashes 14 = .ok (.aload_n 0, 1) := by decide +kernel
theorem dX10_clashes_15 : decode cX10_clashes 15 = .ok (.iconst 3, 1) := by decide +kernel
theorem dX10_clashes_16 : decode cX10_clashes 16 = .ok (.iconst 1, 1) := by decide +kernel
theorem dX10_clashes_17 : decode cX10_clashes 17 = .ok (.invokevirtual 53, 3) := by decide +kernel
theorem dX10_clashes_20 : decode cX10_clashes 20 = .ok (.aload_n 0, 1) := by decide +kernel
theorem dX10_clashes_21 : decode cX10_clashes 21 = .ok (.iload_n 1, 1) := by decide +kernel
theorem dX10_clashes_22 : decode cX10_clashes 22 = .ok (.iconst 3, 1) := by decide +kernel
theorem dX10_clashes_23 : decode cX10_clashes 23 = .ok (.aload_n 0, 1) := by decide +kernel
theorem dX10_clashes_24 : decode cX10_clashes 24 = .ok (.getfield 142, 3) := by decide +kernel
theorem dX10_clashes_27 : decode cX10_clashes 27 = .ok (.invokevirtual 86, 3) := by decide +kernel
theorem dX10_clashes_30 : decode cX10_clashes 30 = .ok (.return_, 1) := by decide +kernel
set_option maxRecDepth 20000 in
theorem zl_X10_clashes_0 : z_All z_tab cX10_clashes 2 none RX10 pc_X10_clashes 0 (k_X10_clashes.drop 0) := z_cons (ok_aload_n dX10_clashes_0 rfl rfl) <| z_cons (ok_getr (k := 0) ⟨by decide, by decide, by decide⟩ (ci := 8) (T := TX10) rfl rfl (Nat.le_of_ble_eq_true rfl) iw_X10 qw_616 gr_11_0 (fun _ _ => by simp) (fun w i => List.mem_of_getElem? (i := 0) rfl) dX10_clashes_1 rfl rfl) <| z_cons (ok_sipush (by decide) dX10_clashes_4 rfl rfl) <| z_cons (ok_iload_n dX10_clashes_7 rfl rfl) <| z_cons (ok_iadd dX10_clashes_8 rfl rfl) <| z_cons (ok_dup2 dX10_clashes_9 rfl rfl) <| z_cons (ok_iald dX10_clashes_10 rfl rfl) <| z_cons (ok_iconst (by decide) dX10_clashes_11 rfl rfl) <| z_cons (ok_iadd dX10_clashes_12 rfl rfl) <| z_cons (ok_iast dX10_clashes_13 rfl rfl) <| z_cons (ok_aload_n dX10_clashes_14 rfl rfl) <| z_cons (ok_iconst (by decide) dX10_clashes_15 rfl rfl) <| z_cons (ok_iconst (by decide) dX10_clashes_16 rfl rfl) <| z_cons (ok_callv ⟨by decide, by decide, by decide⟩ (ci := 8) (C := RX10) (T := TX10) rfl go_11 (k := 168) (n := 2) qw_638 qw_618 ⟨by decide +kernel, by decide +kernel, by decide +kernel⟩ (Nat.le_of_ble_eq_true rfl) qw_639 qw_640 qw_641 dX10_clashes_17 rfl rfl) <| z_cons (ok_aload_n dX10_clashes_20 rfl rfl) <| z_cons (ok_iload_n dX10_clashes_21 rfl rfl) <| z_cons (ok_iconst (by decide) dX10_clashes_22 rfl rfl) <| z_cons (ok_aload_n dX10_clashes_23 rfl rfl) <| z_cons (ok_get ⟨by decide, by decide, by decide⟩ (ci := 8) (T := TX10) rfl rfl (Nat.le_of_ble_eq_true rfl) iw_X10 qw_745 gv_11_5 dX10_clashes_24 rfl rfl) <| z_cons (ok_callv ⟨by decide, by decide, by decide⟩ (ci := 8) (C := RX10) (T := TX10) rfl go_11 (k := 169) (n := 3) qw_681 qw_618 ⟨by decide +kernel, by decide +kernel, by decide +kernel⟩ (Nat.le_of_ble_eq_true rfl) qw_682 qw_683 qw_684 dX10_clashes_27 rfl rfl) <| z_cons (ok_ret rfl dX10_clashes_30 rfl) <| z_nil
theorem dX10_slot_0 : decode cX10_slot 0 = .ok (.aload_n 0, 1) := by decide +kernel
theorem dX10_slot_1 : decode cX10_slot 1 = .ok (.getfield 10, 3) := by decide +kernel
theorem dX10_slot_4 : decode cX10_slot 4 = .ok (.sipush 294, 3) := by decide +kernel
theorem dX10_slot_7 : decode cX10_slot 7 = .ok (.iload_n 1, 1) := by decide +kernel
theorem dX10_slot_8 : decode cX10_slot 8 = .ok (.iadd, 1) := by decide +kernel
theorem dX10_slot_9 : decode cX10_slot 9 = .ok (.iaload, 1) := by decide +kernel
theorem dX10_slot_10 : decode cX10_slot 10 = .ok (.ifCond .ne 7, 3) := by decide +kernel
theorem dX10_slot_13 : decode cX10_slot 13 = .ok (.iconst 1, 1) := by decide +kernel
theorem dX10_slot_14 : decode cX10_slot 14 = .ok (.goto 4, 3) := by decide +kernel
theorem dX10_slot_17 : decode cX10_slot 17 = .ok (.iconst 0, 1) := by decide +kernel
theorem dX10_slot_18 : decode cX10_slot 18 = .ok (.istore_n 2, 1) := by decide +kernel
theorem dX10_slot_19 : decode cX10_slot 19 = .ok (.aload_n 0, 1) := by decide +kernel
theorem dX10_slot_20 : decode cX10_slot 20 = .ok (.iload_n 1, 1) := by decide +kernel
theorem dX10_slot_21 : decode cX10_slot 21 = .ok (.iconst 0, 1) := by decide +kernel
theorem dX10_slot_22 : decode cX10_slot 22 = .ok (.iconst 0, 1) := by decide +kernel
theorem dX10_slot_23 : decode cX10_slot 23 = .ok (.invokevirtual 152, 3) := by decide +kernel
theorem dX10_slot_26 : decode cX10_slot 26 = .ok (.aload_n 0, 1) := by decide +kernel
theorem dX10_slot_27 : decode cX10_slot 27 = .ok (.getfield 142, 3) := by decide +kernel
theorem dX10_slot_30 : decode cX10_slot 30 = .ok (.ifCond .ne 87, 3) := by decide +kernel
theorem dX10_slot_33 : decode cX10_slot 33 = .ok (.aload_n 0, 1) := by decide +kernel
theorem dX10_slot_34 : decode cX10_slot 34 = .ok (.iload_n 1, 1) := by decide +kernel
theorem dX10_slot_35 : decode cX10_slot 35 = .ok (.invokevirtual 155, 3) := by decide +kernel
theorem dX10_slot_38 : decode cX10_slot 38 = .ok (.aload_n 0, 1) := by decide +kernel
theorem dX10_slot_39 : decode cX10_slot 39 = .ok (.getfield 10, 3) := by decide +kernel
theorem dX10_slot_42 : decode cX10_slot 42 = .ok (.sipush 338, 3) := by decide +kernel
theorem dX10_slot_45 : decode cX10_slot 45 = .ok (.iload_n 1, 1) := by decide +kernel
theorem dX10_slot_46 : decode cX10_slot 46 = .ok (.iadd, 1) := by decide +kernel
theorem dX10_slot_47 : decode cX10_slot 47 = .ok (.dup2, 1) := by decide +kernel
theorem dX10_slot_48 : decode cX10_slot 48 = .ok (.iaload, 1) := by decide +kernel
theorem dX10_slot_49 : decode cX10_slot 49 = .ok (.iconst 1, 1) := by decide +kernel
theorem dX10_slot_50 : decode cX10_slot 50 = .ok (.iadd, 1) := by decide +kernel
theorem dX10_slot_51 : decode cX10_slot 51 = .ok (.iastore, 1) := by decide +kernel
theorem dX10_slot_52 : decode cX10_slot 52 = .ok (.iload_n 2, 1) := by decide +kernel
theorem dX10_slot_53 : decode cX10_slot 53 = .ok (.ifCond .eq 248, 3) := by decide +kernel
theorem dX10_slot_56 : decode cX10_slot 56 = .ok (.aload_n 0, 1) := by decide +kernel
theorem dX10_slot_57 : decode cX10_slot 57 = .ok (.getfield 10, 3) := by decide +kernel
theorem dX10_slot_60 : decode cX10_slot 60 = .ok (.sipush 266, 3) := by decide +kernel
theorem dX10_slot_63 : decode cX10_slot 63 = .ok (.iload_n 1, 1) := by decide +kernel
theorem dX10_slot_64 : decode cX10_slot 64 = .ok (.iadd, 1) := by decide +kernel
theorem dX10_slot_65 : decode cX10_slot 65 = .ok (.aload_n 0, 1) := by decide +kernel
theorem dX10_slot_66 : decode cX10_slot 66 = .ok (.getfield 10, 3) := by decide +kernel
theorem dX10_slot_69 : decode cX10_slot 69 = .ok (.sipush 266, 3) := by decide +kernel
theorem dX10_slot_72 : decode cX10_slot 72 = .ok (.iload_n 1, 1) := by decide +kernel
theorem dX10_slot_73 : decode cX10_slot 73 = .ok (.iadd, 1) := by decide +kernel
theorem dX10_slot_74 : decode cX10_slot 74 = .ok (.iaload, 1) := by decide +kernel
theorem dX10_slot_75 : decode cX10_slot 75 = .ok (.aload_n 0, 1) := by decide +kernel
theorem dX10_slot_76 : decode cX10_slot 76 = .ok (.getfield 10, 3) := by decide +kernel
theorem dX10_slot_79 : decode cX10_slot 79 = .ok (.sipush 270, 3) := by decide +kernel
theorem dX10_slot_82 : decode cX10_slot 82 = .ok (.iload_n 1, 1) := by decide +kernel
theorem dX10_slot_83 : decode cX10_slot 83 = .ok (.iadd, 1) := by decide +kernel
theorem dX10_slot_84 : decode cX10_slot 84 = .ok (.iaload, 1) := by decide +kernel
theorem dX10_slot_85 : decode cX10_slot 85 = .ok (.if_icmp .le 27, 3) := by decide +kernel
theorem dX10_slot_88 : decode cX10_slot 88 = .ok (.aload_n 0, 1) := by decide +kernel
theorem dX10_slot_89 : decode cX10_slot 89 = .ok (.getfield 10, 3) := by decide +kernel
theorem dX10_slot_92 : decode cX10_slot 92 = .ok (.sipush 266, 3) := by decide +kernel
theorem dX10_slot_95 : decode cX10_slot 95 = .ok (.iload_n 1, 1) := by decide +kernel
theorem dX10_slot_96 : decode cX10_slot 96 = .ok (.iadd, 1) := by decide +kernel
theorem dX10_slot_97 : decode cX10_slot 97 = .ok (.iaload, 1) := by decide +kernel
theorem dX10_slot_98 : decode cX10_slot 98 = .ok (.aload_n 0, 1) := by decide +kernel
theorem dX10_slot_99 : decode cX10_slot 99 = .ok (.getfield 10, 3) := by decide +kernel
theorem dX10_slot_102 : decode cX10_slot 102 = .ok (.sipush 270, 3) := by decide +kernel
theorem dX10_slot_105 : decode cX10_slot 105 = .ok (.iload_n 1, 1) := by decide +kernel
theorem dX10_slot_106 : decode cX10_slot 106 = .ok (.iadd, 1) := by decide +kernel
theorem dX10_slot_107 : decode cX10_slot 107 = .ok (.iaload, 1) := by decide +kernel
theorem dX10_slot_108 : decode cX10_slot 108 = .ok (.isub, 1) := by decide +kernel
theorem dX10_slot_109 : decode cX10_slot 109 = .ok (.goto 4, 3) := by decide +kernel
theorem dX10_slot_112 : decode cX10_slot 112 = .ok (.iconst 0, 1) := by decide +kernel
theorem dX10_slot_113 : decode cX10_slot 113 = .ok (.iastore, 1) := by decide +kernel
theorem dX10_slot_114 : decode cX10_slot 114 = .ok (.goto 187, 3) := by decide +kernel
theorem dX10_slot_117 : decode cX10_slot 117 = .ok (.aload_n 0, 1) := by decide +kernel
theorem dX10_slot_118 : decode cX10_slot 118 = .ok (.getfield 142, 3) := by decide +kernel
theorem dX10_slot_121 : decode cX10_slot 121 = .ok (.iconst 1, 1) := by decide +kernel
theorem dX10_slot_122 : decode cX10_slot 122 = .ok (.if_icmp .ne 29, 3) := by decide +kernel
theorem dX10_slot_125 : decode cX10_slot 125 = .ok (.aload_n 0, 1) := by decide +kernel
theorem dX10_slot_126 : decode cX10_slot 126 = .ok (.getfield 10, 3) := by decide +kernel
theorem dX10_slot_129 : decode cX10_slot 129 = .ok (.sipush 342, 3) := by decide +kernel
theorem dX10_slot_132 : decode cX10_slot 132 = .ok (.iload_n 1, 1) := by decide +kernel
theorem dX10_slot_133 : decode cX10_slot 133 = .ok (.iadd, 1) := by decide +kernel
theorem dX10_slot_134 : decode cX10_slot 134 = .ok (.dup2, 1) := by decide +kernel
theorem dX10_slot_135 : decode cX10_slot 135 = .ok (.iaload, 1) := by decide +kernel
theorem dX10_slot_136 : decode cX10_slot 136 = .ok (.iconst 1, 1) := by decide +kernel
theorem dX10_slot_137 : decode cX10_slot 137 = .ok (.iadd, 1) := by decide +kernel
theorem dX10_slot_138 : decode cX10_slot 138 = .ok (.iastore, 1) := by decide +kernel
theorem dX10_slot_139 : decode cX10_slot 139 = .ok (.aload_n 0, 1) := by decide +kernel
theorem dX10_slot_140 : decode cX10_slot 140 = .ok (.iload_n 1, 1) := by decide +kernel
theorem dX10_slot_141 : decode cX10_slot 141 = .ok (.aload_n 0, 1) := by decide +kernel
theorem dX10_slot_142 : decode cX10_slot 142 = .ok (.getfield 146, 3) := by decide +kernel
theorem dX10_slot_145 : decode cX10_slot 145 = .ok (.invokevirtual 158, 3) := by decide +kernel
theorem dX10_slot_148 : decode cX10_slot 148 = .ok (.goto 153, 3) := by decide +kernel
theorem dX10_slot_151 : decode cX10_slot 151 = .ok (.aload_n 0, 1) := by decide +kernel
theorem dX10_slot_152 : decode cX10_slot 152 = .ok (.iload_n 1, 1) := by decide +kernel
theorem dX10_slot_153 : decode cX10_slot 153 = .ok (.invokevirtual 161, 3) := by decide +kernel
theorem dX10_slot_156 : decode cX10_slot 156 = .ok (.aload_n 0, 1) := by decide +kernel
theorem dX10_slot_157 : decode cX10_slot 157 = .ok (.getfield 10, 3) := by decide +kernel
theorem dX10_slot_160 : decode cX10_slot 160 = .ok (.sipush 346, 3) := by decide +kernel
theorem dX10_slot_163 : decode cX10_slot 163 = .ok (.iload_n 1, 1) := by decide +kernel
theorem dX10_slot_164 : decode cX10_slot 164 = .ok (.iadd, 1) := by decide +kernel
theorem dX10_slot_165 : decode cX10_slot 165 = .ok (.dup2, 1) := by decide +kernel
theorem dX10_slot_166 : decode cX10_slot 166 = .ok (.iaload, 1) := by decide +kernel
theorem dX10_slot_167 : decode cX10_slot 167 = .ok (.iconst 1, 1) := by decide +kernel
theorem dX10_slot_168 : decode cX10_slot 168 = .ok (.iadd, 1) := by decide +kernel
theorem dX10_slot_169 : decode cX10_slot 169 = .ok (.iastore, 1) := by decide +kernel
theorem dX10_slot_170 : decode cX10_slot 170 = .ok (.iconst 0, 1) := by decide +kernel
theorem dX10_slot_171 : decode cX10_slot 171 = .ok (.istore_n 3, 1) := by decide +kernel
theorem dX10_slot_172 : decode cX10_slot 172 = .ok (.iload_n 3, 1) := by decide +kernel
theorem dX10_slot_173 : decode cX10_slot 173 = .ok (.bipush 24, 2) := by decide +kernel
theorem dX10_slot_175 : decode cX10_slot 175 = .ok (.if_icmp .ge 60, 3) := by decide +kernel
theorem dX10_slot_178 : decode cX10_slot 178 = .ok (.aload_n 0, 1) := by decide +kernel
theorem dX10_slot_179 : decode cX10_slot 179 = .ok (.getfield 10, 3) := by decide +kernel
theorem dX10_slot_182 : decode cX10_slot 182 = .ok (.sipush 550, 3) := by decide +kernel
theorem dX10_slot_185 : decode cX10_slot 185 = .ok (.iload_n 3, 1) := by decide +kernel
theorem dX10_slot_186 : decode cX10_slot 186 = .ok (.iadd, 1) := by decide +kernel
theorem dX10_slot_187 : decode cX10_slot 187 = .ok (.iaload, 1) := by decide +kernel
theorem dX10_slot_188 : decode cX10_slot 188 = .ok (.iload_n 1, 1) := by decide +kernel
theorem dX10_slot_189 : decode cX10_slot 189 = .ok (.if_icmp .ne 40, 3) := by decide +kernel
theorem dX10_slot_192 : decode cX10_slot 192 = .ok (.aload_n 0, 1) := by decide +kernel
theorem dX10_slot_193 : decode cX10_slot 193 = .ok (.getfield 10, 3) := by decide +kernel
theorem dX10_slot_196 : decode cX10_slot 196 = .ok (.sipush 694, 3) := by decide +kernel
theorem dX10_slot_199 : decode cX10_slot 199 = .ok (.iload_n 3, 1) := by decide +kernel
theorem dX10_slot_200 : decode cX10_slot 200 = .ok (.iadd, 1) := by decide +kernel
theorem dX10_slot_201 : decode cX10_slot 201 = .ok (.iaload, 1) := by decide +kernel
theorem dX10_slot_202 : decode cX10_slot 202 = .ok (.ifCond .ne 27, 3) := by decide +kernel
theorem dX10_slot_205 : decode cX10_slot 205 = .ok (.aload_n 0, 1) := by decide +kernel
theorem dX10_slot_206 : decode cX10_slot 206 = .ok (.getfield 10, 3) := by decide +kernel
theorem dX10_slot_209 : decode cX10_slot 209 = .ok (.sipush 574, 3) := by decide +kernel
theorem dX10_slot_212 : decode cX10_slot 212 = .ok (.iload_n 3, 1) := by decide +kernel
theorem dX10_slot_213 : decode cX10_slot 213 = .ok (.iadd, 1) := by decide +kernel
theorem dX10_slot_214 : decode cX10_slot 214 = .ok (.iaload, 1) := by decide +kernel
theorem dX10_slot_215 : decode cX10_slot 215 = .ok (.ifCond .ne 14, 3) := by decide +kernel
theorem dX10_slot_218 : decode cX10_slot 218 = .ok (.aload_n 0, 1) := by decide +kernel
theorem dX10_slot_219 : decode cX10_slot 219 = .ok (.getfield 10, 3) := by decide +kernel
theorem dX10_slot_222 : decode cX10_slot 222 = .ok (.sipush 574, 3) := by decide +kernel
theorem dX10_slot_225 : decode cX10_slot 225 = .ok (.iload_n 3, 1) := by decide +kernel
theorem dX10_slot_226 : decode cX10_slot 226 = .ok (.iadd, 1) := by decide +kernel
theorem dX10_slot_227 : decode cX10_slot 227 = .ok (.iconst (-1), 1) := by decide +kernel
theorem dX10_slot_228 : decode cX10_slot 228 = .ok (.iastore, 1) := by decide +kernel
theorem dX10_slot_229 : decode cX10_slot 229 = .ok (.iinc 3 1, 3) := by decide +kernel
theorem dX10_slot_232 : decode cX10_slot 232 = .ok (.goto (-60), 3) := by decide +kernel
theorem dX10_slot_235 : decode cX10_slot 235 = .ok (.iload_n 2, 1) := by decide +kernel
theorem dX10_slot_236 : decode cX10_slot 236 = .ok (.ifCond .eq 65, 3) := by decide +kernel
theorem dX10_slot_239 : decode cX10_slot 239 = .ok (.aload_n 0, 1) := by decide +kernel
theorem dX10_slot_240 : decode cX10_slot 240 = .ok (.getfield 10, 3) := by decide +kernel
theorem dX10_slot_243 : decode cX10_slot 243 = .ok (.sipush 266, 3) := by decide +kernel
theorem dX10_slot_246 : decode cX10_slot 246 = .ok (.iload_n 1, 1) := by decide +kernel
theorem dX10_slot_247 : decode cX10_slot 247 = .ok (.iadd, 1) := by decide +kernel
theorem dX10_slot_248 : decode cX10_slot 248 = .ok (.aload_n 0, 1) := by decide +kernel
theorem dX10_slot_249 : decode cX10_slot 249 = .ok (.getfield 10, 3) := by decide +kernel
theorem dX10_slot_252 : decode cX10_slot 252 = .ok (.sipush 266, 3) := by decide +kernel
theorem dX10_slot_255 : decode cX10_slot 255 = .ok (.iload_n 1, 1) := by decide +kernel
theorem dX10_slot_256 : decode cX10_slot 256 = .ok (.iadd, 1) := by decide +kernel
theorem dX10_slot_257 : decode cX10_slot 257 = .ok (.iaload, 1) := by decide +kernel
theorem dX10_slot_258 : decode cX10_slot 258 = .ok (.aload_n 0, 1) := by decide +kernel
theorem dX10_slot_259 : decode cX10_slot 259 = .ok (.getfield 10, 3) := by decide +kernel
theorem dX10_slot_262 : decode cX10_slot 262 = .ok (.sipush 270, 3) := by decide +kernel
theorem dX10_slot_265 : decode cX10_slot 265 = .ok (.iload_n 1, 1) := by decide +kernel
theorem dX10_slot_266 : decode cX10_slot 266 = .ok (.iadd, 1) := by decide +kernel
theorem dX10_slot_267 : decode cX10_slot 267 = .ok (.iaload, 1) := by decide +kernel
theorem dX10_slot_268 : decode cX10_slot 268 = .ok (.iadd, 1) := by decide +kernel
theorem dX10_slot_269 : decode cX10_slot 269 = .ok (.bipush 64, 2) := by decide +kernel
theorem dX10_slot_271 : decode cX10_slot 271 = .ok (.if_icmp .ge 27, 3) := by decide +kernel
theorem dX10_slot_274 : decode cX10_slot 274 = .ok (.aload_n 0, 1) := by decide +kernel
theorem dX10_slot_275 : decode cX10_slot 275 = .ok (.getfield 10, 3) := by decide +kernel
theorem dX10_slot_278 : decode cX10_slot 278 = .ok (.sipush 266, 3) := by decide +kernel
theorem dX10_slot_281 : decode cX10_slot 281 = .ok (.iload_n 1, 1) := by decide +kernel
theorem dX10_slot_282 : decode cX10_slot 282 = .ok (.iadd, 1) := by decide +kernel
theorem dX10_slot_283 : decode cX10_slot 283 = .ok (.iaload, 1) := by decide +kernel
theorem dX10_slot_284 : decode cX10_slot 284 = .ok (.aload_n 0, 1) := by decide +kernel
theorem dX10_slot_285 : decode cX10_slot 285 = .ok (.getfield 10, 3) := by decide +kernel
theorem dX10_slot_288 : decode cX10_slot 288 = .ok (.sipush 270, 3) := by decide +kernel
theorem dX10_slot_291 : decode cX10_slot 291 = .ok (.iload_n 1, 1) := by decide +kernel
theorem dX10_slot_292 : decode cX10_slot 292 = .ok (.iadd, 1) := by decide +kernel
theorem dX10_slot_293 : decode cX10_slot 293 = .ok (.iaload, 1) := by decide +kernel
theorem dX10_slot_294 : decode cX10_slot 294 = .ok (.iadd, 1) := by decide +kernel
theorem dX10_slot_295 : decode cX10_slot 295 = .ok (.goto 5, 3) := by decide +kernel
theorem dX10_slot_298 : decode cX10_slot 298 = .ok (.bipush 64, 2) := by decide +kernel
theorem dX10_slot_300 : decode cX10_slot 300 = .ok (.iastore, 1) := by decide +kernel
theorem dX10_slot_301 : decode cX10_slot 301 = .ok (.aload_n 0, 1) := by decide +kernel
theorem dX10_slot_302 : decode cX10_slot 302 = .ok (.getfield 10, 3) := by decide +kernel
theorem dX10_slot_305 : decode cX10_slot 305 = .ok (.sipush 302, 3) := by decide +kernel
theorem dX10_slot_308 : decode cX10_slot 308 = .ok (.iload_n 1, 1) := by decide +kernel
theorem dX10_slot_309 : decode cX10_slot 309 = .ok (.iadd, 1) := by decide +kernel
theorem dX10_slot_310 : decode cX10_slot 310 = .ok (.dup2, 1) := by decide +kernel
theorem dX10_slot_311 : decode cX10_slot 311 = .ok (.iaload, 1) := by decide +kernel
theorem dX10_slot_312 : decode cX10_slot 312 = .ok (.iconst 1, 1) := by decide +kernel
theorem dX10_slot_313 : decode cX10_slot 313 = .ok (.iadd, 1) := by decide +kernel
theorem dX10_slot_314 : decode cX10_slot 314 = .ok (.iastore, 1) := by decide +kernel
theorem dX10_slot_315 : decode cX10_slot 315 = .ok (.iload_n 2, 1) := by decide +kernel
theorem dX10_slot_316 : decode cX10_slot 316 = .ok (.ifCond .eq 34, 3) := by decide +kernel
theorem dX10_slot_319 : decode cX10_slot 319 = .ok (.aload_n 0, 1) := by decide +kernel
theorem dX10_slot_320 : decode cX10_slot 320 = .ok (.iload_n 1, 1) := by decide +kernel
theorem dX10_slot_321 : decode cX10_slot 321 = .ok (.invokevirtual 130, 3) := by decide +kernel
theorem dX10_slot_324 : decode cX10_slot 324 = .ok (.aload_n 0, 1) := by decide +kernel
theorem dX10_slot_325 : decode cX10_slot 325 = .ok (.getfield 10, 3) := by decide +kernel
theorem dX10_slot_328 : decode cX10_slot 328 = .ok (.sipush 298, 3) := by decide +kernel
theorem dX10_slot_331 : decode cX10_slot 331 = .ok (.iload_n 1, 1) := by decide +kernel
theorem dX10_slot_332 : decode cX10_slot 332 = .ok (.iadd, 1) := by decide +kernel
theorem dX10_slot_333 : decode cX10_slot 333 = .ok (.iaload, 1) := by decide +kernel
theorem dX10_slot_334 : decode cX10_slot 334 = .ok (.if_icmp .eq 16, 3) := by decide +kernel
theorem dX10_slot_337 : decode cX10_slot 337 = .ok (.aload_n 0, 1) := by decide +kernel
theorem dX10_slot_338 : decode cX10_slot 338 = .ok (.iload_n 1, 1) := by decide +kernel
theorem dX10_slot_339 : decode cX10_slot 339 = .ok (.aload_n 0, 1) := by decide +kernel
theorem dX10_slot_340 : decode cX10_slot 340 = .ok (.iload_n 1, 1) := by decide +kernel
theorem dX10_slot_341 : decode cX10_slot 341 = .ok (.invokevirtual 130, 3) := by decide +kernel
theorem dX10_slot_344 : decode cX10_slot 344 = .ok (.invokevirtual 133, 3) := by decide +kernel
theorem dX10_slot_347 : decode cX10_slot 347 = .ok (.goto 104, 3) := by decide +kernel
theorem dX10_slot_350 : decode cX10_slot 350 = .ok (.aload_n 0, 1) := by decide +kernel
theorem dX10_slot_351 : decode cX10_slot 351 = .ok (.getfield 10, 3) := by decide +kernel
theorem dX10_slot_354 : decode cX10_slot 354 = .ok (.sipush 302, 3) := by decide +kernel
theorem dX10_slot_357 : decode cX10_slot 357 = .ok (.iload_n 1, 1) := by decide +kernel
theorem dX10_slot_358 : decode cX10_slot 358 = .ok (.iadd, 1) := by decide +kernel
theorem dX10_slot_359 : decode cX10_slot 359 = .ok (.iaload, 1) := by decide +kernel
theorem dX10_slot_360 : decode cX10_slot 360 = .ok (.iconst 1, 1) := by decide +kernel
theorem dX10_slot_361 : decode cX10_slot 361 = .ok (.aload_n 0, 1) := by decide +kernel
theorem dX10_slot_362 : decode cX10_slot 362 = .ok (.getfield 10, 3) := by decide +kernel
theorem dX10_slot_365 : decode cX10_slot 365 = .ok (.sipush 298, 3) := by decide +kernel
theorem dX10_slot_368 : decode cX10_slot 368 = .ok (.iload_n 1, 1) := by decide +kernel
theorem dX10_slot_369 : decode cX10_slot 369 = .ok (.iadd, 1) := by decide +kernel
theorem dX10_slot_370 : decode cX10_slot 370 = .ok (.iaload, 1) := by decide +kernel
theorem dX10_slot_371 : decode cX10_slot 371 = .ok (.ishl, 1) := by decide +kernel
theorem dX10_slot_372 : decode cX10_slot 372 = .ok (.if_icmp .ne 11, 3) := by decide +kernel
theorem dX10_slot_375 : decode cX10_slot 375 = .ok (.aload_n 0, 1) := by decide +kernel
theorem dX10_slot_376 : decode cX10_slot 376 = .ok (.iload_n 1, 1) := by decide +kernel
theorem dX10_slot_377 : decode cX10_slot 377 = .ok (.invokevirtual 164, 3) := by decide +kernel
theorem dX10_slot_380 : decode cX10_slot 380 = .ok (.goto 71, 3) := by decide +kernel
theorem dX10_slot_383 : decode cX10_slot 383 = .ok (.iconst 0, 1) := by decide +kernel
theorem dX10_slot_384 : decode cX10_slot 384 = .ok (.istore_n 3, 1) := by decide +kernel
theorem dX10_slot_385 : decode cX10_slot 385 = .ok (.iload_n 3, 1) := by decide +kernel
theorem dX10_slot_386 : decode cX10_slot 386 = .ok (.bipush 24, 2) := by decide +kernel
theorem dX10_slot_388 : decode cX10_slot 388 = .ok (.if_icmp .ge 63, 3) := by decide +kernel
theorem dX10_slot_391 : decode cX10_slot 391 = .ok (.aload_n 0, 1) := by decide +kernel
theorem dX10_slot_392 : decode cX10_slot 392 = .ok (.getfield 10, 3) := by decide +kernel
theorem dX10_slot_395 : decode cX10_slot 395 = .ok (.sipush 550, 3) := by decide +kernel
theorem dX10_slot_398 : decode cX10_slot 398 = .ok (.iload_n 3, 1) := by decide +kernel
theorem dX10_slot_399 : decode cX10_slot 399 = .ok (.iadd, 1) := by decide +kernel
theorem dX10_slot_400 : decode cX10_slot 400 = .ok (.iaload, 1) := by decide +kernel
theorem dX10_slot_401 : decode cX10_slot 401 = .ok (.iload_n 1, 1) := by decide +kernel
theorem dX10_slot_402 : decode cX10_slot 402 = .ok (.if_icmp .ne 43, 3) := by decide +kernel
theorem dX10_slot_405 : decode cX10_slot 405 = .ok (.aload_n 0, 1) := by decide +kernel
theorem dX10_slot_406 : decode cX10_slot 406 = .ok (.getfield 10, 3) := by decide +kernel
theorem dX10_slot_409 : decode cX10_slot 409 = .ok (.sipush 694, 3) := by decide +kernel
theorem dX10_slot_412 : decode cX10_slot 412 = .ok (.iload_n 3, 1) := by decide +kernel
theorem dX10_slot_413 : decode cX10_slot 413 = .ok (.iadd, 1) := by decide +kernel
theorem dX10_slot_414 : decode cX10_slot 414 = .ok (.iaload, 1) := by decide +kernel
theorem dX10_slot_415 : decode cX10_slot 415 = .ok (.ifCond .ne 30, 3) := by decide +kernel
theorem dX10_slot_418 : decode cX10_slot 418 = .ok (.aload_n 0, 1) := by decide +kernel
theorem dX10_slot_419 : decode cX10_slot 419 = .ok (.getfield 10, 3) := by decide +kernel
theorem dX10_slot_422 : decode cX10_slot 422 = .ok (.sipush 574, 3) := by decide +kernel
theorem dX10_slot_425 : decode cX10_slot 425 = .ok (.iload_n 3, 1) := by decide +kernel
theorem dX10_slot_426 : decode cX10_slot 426 = .ok (.iadd, 1) := by decide +kernel
theorem dX10_slot_427 : decode cX10_slot 427 = .ok (.iaload, 1) := by decide +kernel
theorem dX10_slot_428 : decode cX10_slot 428 = .ok (.ifCond .le 17, 3) := by decide +kernel
theorem dX10_slot_431 : decode cX10_slot 431 = .ok (.aload_n 0, 1) := by decide +kernel
theorem dX10_slot_432 : decode cX10_slot 432 = .ok (.getfield 10, 3) := by decide +kernel
theorem dX10_slot_435 : decode cX10_slot 435 = .ok (.sipush 574, 3) := by decide +kernel
theorem dX10_slot_438 : decode cX10_slot 438 = .ok (.iload_n 3, 1) := by decide +kernel
theorem dX10_slot_439 : decode cX10_slot 439 = .ok (.iadd, 1) := by decide +kernel
theorem dX10_slot_440 : decode cX10_slot 440 = .ok (.dup2, 1) := by decide +kernel
theorem dX10_slot_441 : decode cX10_slot 441 = .ok (.iaload, 1) := by decide +kernel
theorem dX10_slot_442 : decode cX10_slot 442 = .ok (.iconst 1, 1) := by decide +kernel
theorem dX10_slot_443 : decode cX10_slot 443 = .ok (.isub, 1) := by decide +kernel
theorem dX10_slot_444 : decode cX10_slot 444 = .ok (.iastore, 1) := by decide +kernel
theorem dX10_slot_445 : decode cX10_slot 445 = .ok (.iinc 3 1, 3) := by decide +kernel
theorem dX10_slot_448 : decode cX10_slot 448 = .ok (.goto (-63), 3) := by decide +kernel
theorem dX10_slot_451 : decode cX10_slot 451 = .ok (.return_, 1) := by decide +kernel
set_option maxRecDepth 20000 in
theorem zl_X10_slot_6 : z_All z_tab cX10_slot 4 none RX10 pc_X10_slot 240 (k_X10_slot.drop 240) := z_cons (ok_iload_n dX10_slot_412 rfl rfl) <| z_cons (ok_iadd dX10_slot_413 rfl rfl) <| z_cons (ok_iald dX10_slot_414 rfl rfl) <| z_cons (ok_if_ne (tgt := 445) (by decide) rfl dX10_slot_415 rfl rfl) <| z_cons (ok_aload_n dX10_slot_418 rfl rfl) <| z_cons (ok_getr (k := 0) ⟨by decide, by decide, by decide⟩ (ci := 8) (T := TX10) rfl rfl (Nat.le_of_ble_eq_true rfl) iw_X10 qw_616 gr_11_0 (fun _ _ => by simp) (fun w i => List.mem_of_getElem? (i := 0) rfl) dX10_slot_419 rfl rfl) <| z_cons (ok_sipush (by decide) dX10_slot_422 rfl rfl) <| z_cons (ok_iload_n dX10_slot_425 rfl rfl) <| z_cons (ok_iadd dX10_slot_426 rfl rfl) <| z_cons (ok_iald dX10_slot_427 rfl rfl) <| z_cons (ok_if_le (tgt := 445) (by decide) rfl dX10_slot_428 rfl rfl) <| z_cons (ok_aload_n dX10_slot_431 rfl rfl) <| z_cons (ok_getr (k := 0) ⟨by decide, by decide, by decide⟩ (ci := 8) (T := TX10) rfl rfl (Nat.le_of_ble_eq_true rfl) iw_X10 qw_616 gr_11_0 (fun _ _ => by simp) (fun w i => List.mem_of_getElem? (i := 0) rfl) dX10_slot_432 rfl rfl) <| z_cons (ok_sipush (by decide) dX10_slot_435 rfl rfl) <| z_cons (ok_iload_n dX10_slot_438 rfl rfl) <| z_cons (ok_iadd dX10_slot_439 rfl rfl) <| z_cons (ok_dup2 dX10_slot_440 rfl rfl) <| z_cons (ok_iald dX10_slot_441 rfl rfl) <| z_cons (ok_iconst (by decide) dX10_slot_442 rfl rfl) <| z_cons (ok_isub dX10_slot_443 rfl rfl) <| z_cons (ok_iast dX10_slot_444 rfl rfl) <| z_cons (ok_iinc (by decide) (Nat.le_of_ble_eq_true rfl) dX10_slot_445 rfl rfl) <| z_cons (ok_goto (tgt := 385) (by decide) rfl dX10_slot_448 rfl) <| z_cons (ok_ret rfl dX10_slot_451 rfl) <| z_nil
set_option maxRecDepth 20000 in
theorem zl_X10_slot_5 : z_All z_tab cX10_slot 4 none RX10 pc_X10_slot 200 (k_X10_slot.drop 200) := z_cons (ok_aload_n dX10_slot_339 rfl rfl) <| z_cons (ok_iload_n dX10_slot_340 rfl rfl) <| z_cons (ok_callv ⟨by decide, by decide, by decide⟩ (ci := 8) (C := RX10) (T := TX10) rfl go_11 (k := 204) (n := 1) qw_730 qw_618 ⟨by decide +kernel, by decide +kernel, by decide +kernel⟩ (Nat.le_of_ble_eq_true rfl) qw_731 qw_732 qw_733 dX10_slot_341 rfl rfl) <| z_cons (ok_callv ⟨by decide, by decide, by decide⟩ (ci := 8) (C := RX10) (T := TX10) rfl go_11 (k := 205) (n := 2) qw_734 qw_618 ⟨by decide +kernel, by decide +kernel, by decide +kernel⟩ (Nat.le_of_ble_eq_true rfl) qw_735 qw_736 qw_737 dX10_slot_344 rfl rfl) <| z_cons (ok_goto (tgt := 451) (by decide) rfl dX10_slot_347 rfl) <| z_cons (ok_aload_n dX10_slot_350 rfl rfl) <| z_cons (ok_getr (k := 0) ⟨by decide, by decide, by decide⟩ (ci := 8) (T := TX10) rfl rfl (Nat.le_of_ble_eq_true rfl) iw_X10 qw_616 gr_11_0 (fun _ _ => by simp) (fun w i => List.mem_of_getElem? (i := 0) rfl) dX10_slot_351 rfl rfl) <| z_cons (ok_sipush (by decide) dX10_slot_354 rfl rfl) <| z_cons (ok_iload_n dX10_slot_357 rfl rfl) <| z_cons (ok_iadd dX10_slot_358 rfl rfl) <| z_cons (ok_iald dX10_slot_359 rfl rfl) <| z_cons (ok_iconst (by decide) dX10_slot_360 rfl rfl) <| z_cons (ok_aload_n dX10_slot_361 rfl rfl) <| z_cons (ok_getr (k := 0) ⟨by decide, by decide, by decide⟩ (ci := 8) (T := TX10) rfl rfl (Nat.le_of_ble_eq_true rfl) iw_X10 qw_616 gr_11_0 (fun _ _ => by simp) (fun w i => List.mem_of_getElem? (i := 0) rfl) dX10_slot_362 rfl rfl) <| z_cons (ok_sipush (by decide) dX10_slot_365 rfl rfl) <| z_cons (ok_iload_n dX10_slot_368 rfl rfl) <| z_cons (ok_iadd dX10_slot_369 rfl rfl) <| z_cons (ok_iald dX10_slot_370 rfl rfl) <| z_cons (ok_ishl dX10_slot_371 rfl rfl) <| z_cons (ok_icmp_ne (tgt := 383) (by decide) rfl dX10_slot_372 rfl rfl) <| z_cons (ok_aload_n dX10_slot_375 rfl rfl) <| z_cons (ok_iload_n dX10_slot_376 rfl rfl) <| z_cons (ok_callv ⟨by decide, by decide, by decide⟩ (ci := 8) (C := RX10) (T := TX10) rfl go_11 (k := 215) (n := 1) qw_767 qw_618 ⟨by decide +kernel, by decide +kernel, by decide +kernel⟩ (Nat.le_of_ble_eq_true rfl) qw_768 qw_769 qw_770 dX10_slot_377 rfl rfl) <| z_cons (ok_goto (tgt := 451) (by decide) rfl dX10_slot_380 rfl) <| z_cons (ok_iconst (by decide) dX10_slot_383 rfl rfl) <| z_cons (ok_istore_n (Nat.le_of_ble_eq_true rfl) dX10_slot_384 rfl rfl) <| z_cons (ok_iload_n dX10_slot_385 rfl rfl) <| z_cons (ok_bipush (by decide) dX10_slot_386 rfl rfl) <| z_cons (ok_icmp_ge (tgt := 451) (by decide) rfl dX10_slot_388 rfl rfl) <| z_cons (ok_aload_n dX10_slot_391 rfl rfl) <| z_cons (ok_getr (k := 0) ⟨by decide, by decide, by decide⟩ (ci := 8) (T := TX10) rfl rfl (Nat.le_of_ble_eq_true rfl) iw_X10 qw_616 gr_11_0 (fun _ _ => by simp) (fun w i => List.mem_of_getElem? (i := 0) rfl) dX10_slot_392 rfl rfl) <| z_cons (ok_sipush (by decide) dX10_slot_395 rfl rfl) <| z_cons (ok_iload_n dX10_slot_398 rfl rfl) <| z_cons (ok_iadd dX10_slot_399 rfl rfl) <| z_cons (ok_iald dX10_slot_400 rfl rfl) <| z_cons (ok_iload_n dX10_slot_401 rfl rfl) <| z_cons (ok_icmp_ne (tgt := 445) (by decide) rfl dX10_slot_402 rfl rfl) <| z_cons (ok_aload_n dX10_slot_405 rfl rfl) <| z_cons (ok_getr (k := 0) ⟨by decide, by decide, by decide⟩ (ci := 8) (T := TX10) rfl rfl (Nat.le_of_ble_eq_true rfl) iw_X10 qw_616 gr_11_0 (fun _ _ => by simp) (fun w i => List.mem_of_getElem? (i := 0) rfl) dX10_slot_406 rfl rfl) <| z_cons (ok_sipush (by decide) dX10_slot_409 rfl rfl) <| zl_X10_slot_6
set_option maxRecDepth 20000 in
theorem zl_X10_slot_4 : z_All z_tab cX10_slot 4 none RX10 pc_X10_slot 160 (k_X10_slot.drop 160) := z_cons (ok_aload_n dX10_slot_274 rfl rfl) <| z_cons (ok_getr (k := 0) ⟨by decide, by decide, by decide⟩ (ci := 8) (T := TX10) rfl rfl (Nat.le_of_ble_eq_true rfl) iw_X10 qw_616 gr_11_0 (fun _ _ => by simp) (fun w i => List.mem_of_getElem? (i := 0) rfl) dX10_slot_275 rfl rfl) <| z_cons (ok_sipush (by decide) dX10_slot_278 rfl rfl) <| z_cons (ok_iload_n dX10_slot_281 rfl rfl) <| z_cons (ok_iadd dX10_slot_282 rfl rfl) <| z_cons (ok_iald dX10_slot_283 rfl rfl) <| z_cons (ok_aload_n dX10_slot_284 rfl rfl) <| z_cons (ok_getr (k := 0) ⟨by decide, by decide, by decide⟩ (ci := 8) (T := TX10) rfl rfl (Nat.le_of_ble_eq_true rfl) iw_X10 qw_616 gr_11_0 (fun _ _ => by simp) (fun w i => List.mem_of_getElem? (i := 0) rfl) dX10_slot_285 rfl rfl) <| z_cons (ok_sipush (by decide) dX10_slot_288 rfl rfl) <| z_cons (ok_iload_n dX10_slot_291 rfl rfl) <| z_cons (ok_iadd dX10_slot_292 rfl rfl) <| z_cons (ok_iald dX10_slot_293 rfl rfl) <| z_cons (ok_iadd dX10_slot_294 rfl rfl) <| z_cons (ok_goto (tgt := 300) (by decide) rfl dX10_slot_295 rfl) <| z_cons (ok_bipush (by decide) dX10_slot_298 rfl rfl) <| z_cons (ok_iast dX10_slot_300 rfl rfl) <| z_cons (ok_aload_n dX10_slot_301 rfl rfl) <| z_cons (ok_getr (k := 0) ⟨by decide, by decide, by decide⟩ (ci := 8) (T := TX10) rfl rfl (Nat.le_of_ble_eq_true rfl) iw_X10 qw_616 gr_11_0 (fun _ _ => by simp) (fun w i => List.mem_of_getElem? (i := 0) rfl) dX10_slot_302 rfl rfl) <| z_cons (ok_sipush (by decide) dX10_slot_305 rfl rfl) <| z_cons (ok_iload_n dX10_slot_308 rfl rfl) <| z_cons (ok_iadd dX10_slot_309 rfl rfl) <| z_cons (ok_dup2 dX10_slot_310 rfl rfl) <| z_cons (ok_iald dX10_slot_311 rfl rfl) <| z_cons (ok_iconst (by decide) dX10_slot_312 rfl rfl) <| z_cons (ok_iadd dX10_slot_313 rfl rfl) <| z_cons (ok_iast dX10_slot_314 rfl rfl) <| z_cons (ok_iload_n dX10_slot_315 rfl rfl) <| z_cons (ok_if_eq (tgt := 350) (by decide) rfl dX10_slot_316 rfl rfl) <| z_cons (ok_aload_n dX10_slot_319 rfl rfl) <| z_cons (ok_iload_n dX10_slot_320 rfl rfl) <| z_cons (ok_callv ⟨by decide, by decide, by decide⟩ (ci := 8) (C := RX10) (T := TX10) rfl go_11 (k := 204) (n := 1) qw_730 qw_618 ⟨by decide +kernel, by decide +kernel, by decide +kernel⟩ (Nat.le_of_ble_eq_true rfl) qw_731 qw_732 qw_733 dX10_slot_321 rfl rfl) <| z_cons (ok_aload_n dX10_slot_324 rfl rfl) <| z_cons (ok_getr (k := 0) ⟨by decide, by decide, by decide⟩ (ci := 8) (T := TX10) rfl rfl (Nat.le_of_ble_eq_true rfl) iw_X10 qw_616 gr_11_0 (fun _ _ => by simp) (fun w i => List.mem_of_getElem? (i := 0) rfl) dX10_slot_325 rfl rfl) <| z_cons (ok_sipush (by decide) dX10_slot_328 rfl rfl) <| z_cons (ok_iload_n dX10_slot_331 rfl rfl) <| z_cons (ok_iadd dX10_slot_332 rfl rfl) <| z_cons (ok_iald dX10_slot_333 rfl rfl) <| z_cons (ok_icmp_eq (tgt := 350) (by decide) rfl dX10_slot_334 rfl rfl) <| z_cons (ok_aload_n dX10_slot_337 rfl rfl) <| z_cons (ok_iload_n dX10_slot_338 rfl rfl) <| zl_X10_slot_5
set_option maxRecDepth 20000 in
theorem zl_X10_slot_3 : z_All z_tab cX10_slot 4 none RX10 pc_X10_slot 120 (k_X10_slot.drop 120) := z_cons (ok_iald dX10_slot_201 rfl rfl) <| z_cons (ok_if_ne (tgt := 229) (by decide) rfl dX10_slot_202 rfl rfl) <| z_cons (ok_aload_n dX10_slot_205 rfl rfl) <| z_cons (ok_getr (k := 0) ⟨by decide, by decide, by decide⟩ (ci := 8) (T := TX10) rfl rfl (Nat.le_of_ble_eq_true rfl) iw_X10 qw_616 gr_11_0 (fun _ _ => by simp) (fun w i => List.mem_of_getElem? (i := 0) rfl) dX10_slot_206 rfl rfl) <| z_cons (ok_sipush (by decide) dX10_slot_209 rfl rfl) <| z_cons (ok_iload_n dX10_slot_212 rfl rfl) <| z_cons (ok_iadd dX10_slot_213 rfl rfl) <| z_cons (ok_iald dX10_slot_214 rfl rfl) <| z_cons (ok_if_ne (tgt := 229) (by decide) rfl dX10_slot_215 rfl rfl) <| z_cons (ok_aload_n dX10_slot_218 rfl rfl) <| z_cons (ok_getr (k := 0) ⟨by decide, by decide, by decide⟩ (ci := 8) (T := TX10) rfl rfl (Nat.le_of_ble_eq_true rfl) iw_X10 qw_616 gr_11_0 (fun _ _ => by simp) (fun w i => List.mem_of_getElem? (i := 0) rfl) dX10_slot_219 rfl rfl) <| z_cons (ok_sipush (by decide) dX10_slot_222 rfl rfl) <| z_cons (ok_iload_n dX10_slot_225 rfl rfl) <| z_cons (ok_iadd dX10_slot_226 rfl rfl) <| z_cons (ok_iconst (by decide) dX10_slot_227 rfl rfl) <| z_cons (ok_iast dX10_slot_228 rfl rfl) <| z_cons (ok_iinc (by decide) (Nat.le_of_ble_eq_true rfl) dX10_slot_229 rfl rfl) <| z_cons (ok_goto (tgt := 172) (by decide) rfl dX10_slot_232 rfl) <| z_cons (ok_iload_n dX10_slot_235 rfl rfl) <| z_cons (ok_if_eq (tgt := 301) (by decide) rfl dX10_slot_236 rfl rfl) <| z_cons (ok_aload_n dX10_slot_239 rfl rfl) <| z_cons (ok_getr (k := 0) ⟨by decide, by decide, by decide⟩ (ci := 8) (T := TX10) rfl rfl (Nat.le_of_ble_eq_true rfl) iw_X10 qw_616 gr_11_0 (fun _ _ => by simp) (fun w i => List.mem_of_getElem? (i := 0) rfl) dX10_slot_240 rfl rfl) <| z_cons (ok_sipush (by decide) dX10_slot_243 rfl rfl) <| z_cons (ok_iload_n dX10_slot_246 rfl rfl) <| z_cons (ok_iadd dX10_slot_247 rfl rfl) <| z_cons (ok_aload_n dX10_slot_248 rfl rfl) <| z_cons (ok_getr (k := 0) ⟨by decide, by decide, by decide⟩ (ci := 8) (T := TX10) rfl rfl (Nat.le_of_ble_eq_true rfl) iw_X10 qw_616 gr_11_0 (fun _ _ => by simp) (fun w i => List.mem_of_getElem? (i := 0) rfl) dX10_slot_249 rfl rfl) <| z_cons (ok_sipush (by decide) dX10_slot_252 rfl rfl) <| z_cons (ok_iload_n dX10_slot_255 rfl rfl) <| z_cons (ok_iadd dX10_slot_256 rfl rfl) <| z_cons (ok_iald dX10_slot_257 rfl rfl) <| z_cons (ok_aload_n dX10_slot_258 rfl rfl) <| z_cons (ok_getr (k := 0) ⟨by decide, by decide, by decide⟩ (ci := 8) (T := TX10) rfl rfl (Nat.le_of_ble_eq_true rfl) iw_X10 qw_616 gr_11_0 (fun _ _ => by simp) (fun w i => List.mem_of_getElem? (i := 0) rfl) dX10_slot_259 rfl rfl) <| z_cons (ok_sipush (by decide) dX10_slot_262 rfl rfl) <| z_cons (ok_iload_n dX10_slot_265 rfl rfl) <| z_cons (ok_iadd dX10_slot_266 rfl rfl) <| z_cons (ok_iald dX10_slot_267 rfl rfl) <| z_cons (ok_iadd dX10_slot_268 rfl rfl) <| z_cons (ok_bipush (by decide) dX10_slot_269 rfl rfl) <| z_cons (ok_icmp_ge (tgt := 298) (by decide) rfl dX10_slot_271 rfl rfl) <| zl_X10_slot_4
set_option maxRecDepth 20000 in
theorem zl_X10_slot_2 : z_All z_tab cX10_slot 4 none RX10 pc_X10_slot 80 (k_X10_slot.drop 80) := z_cons (ok_iconst (by decide) dX10_slot_136 rfl rfl) <| z_cons (ok_iadd dX10_slot_137 rfl rfl) <| z_cons (ok_iast dX10_slot_138 rfl rfl) <| z_cons (ok_aload_n dX10_slot_139 rfl rfl) <| z_cons (ok_iload_n dX10_slot_140 rfl rfl) <| z_cons (ok_aload_n dX10_slot_141 rfl rfl) <| z_cons (ok_get ⟨by decide, by decide, by decide⟩ (ci := 8) (T := TX10) rfl rfl (Nat.le_of_ble_eq_true rfl) iw_X10 qw_746 gv_11_6 dX10_slot_142 rfl rfl) <| z_cons (ok_callv ⟨by decide, by decide, by decide⟩ (ci := 8) (C := RX10) (T := TX10) rfl go_11 (k := 209) (n := 2) qw_759 qw_618 ⟨by decide +kernel, by decide +kernel, by decide +kernel⟩ (Nat.le_of_ble_eq_true rfl) qw_760 qw_761 qw_762 dX10_slot_145 rfl rfl) <| z_cons (ok_goto (tgt := 301) (by decide) rfl dX10_slot_148 rfl) <| z_cons (ok_aload_n dX10_slot_151 rfl rfl) <| z_cons (ok_iload_n dX10_slot_152 rfl rfl) <| z_cons (ok_callv ⟨by decide, by decide, by decide⟩ (ci := 8) (C := RX10) (T := TX10) rfl go_11 (k := 213) (n := 1) qw_763 qw_618 ⟨by decide +kernel, by decide +kernel, by decide +kernel⟩ (Nat.le_of_ble_eq_true rfl) qw_764 qw_765 qw_766 dX10_slot_153 rfl rfl) <| z_cons (ok_aload_n dX10_slot_156 rfl rfl) <| z_cons (ok_getr (k := 0) ⟨by decide, by decide, by decide⟩ (ci := 8) (T := TX10) rfl rfl (Nat.le_of_ble_eq_true rfl) iw_X10 qw_616 gr_11_0 (fun _ _ => by simp) (fun w i => List.mem_of_getElem? (i := 0) rfl) dX10_slot_157 rfl rfl) <| z_cons (ok_sipush (by decide) dX10_slot_160 rfl rfl) <| z_cons (ok_iload_n dX10_slot_163 rfl rfl) <| z_cons (ok_iadd dX10_slot_164 rfl rfl) <| z_cons (ok_dup2 dX10_slot_165 rfl rfl) <| z_cons (ok_iald dX10_slot_166 rfl rfl) <| z_cons (ok_iconst (by decide) dX10_slot_167 rfl rfl) <| z_cons (ok_iadd dX10_slot_168 rfl rfl) <| z_cons (ok_iast dX10_slot_169 rfl rfl) <| z_cons (ok_iconst (by decide) dX10_slot_170 rfl rfl) <| z_cons (ok_istore_n (Nat.le_of_ble_eq_true rfl) dX10_slot_171 rfl rfl) <| z_cons (ok_iload_n dX10_slot_172 rfl rfl) <| z_cons (ok_bipush (by decide) dX10_slot_173 rfl rfl) <| z_cons (ok_icmp_ge (tgt := 235) (by decide) rfl dX10_slot_175 rfl rfl) <| z_cons (ok_aload_n dX10_slot_178 rfl rfl) <| z_cons (ok_getr (k := 0) ⟨by decide, by decide, by decide⟩ (ci := 8) (T := TX10) rfl rfl (Nat.le_of_ble_eq_true rfl) iw_X10 qw_616 gr_11_0 (fun _ _ => by simp) (fun w i => List.mem_of_getElem? (i := 0) rfl) dX10_slot_179 rfl rfl) <| z_cons (ok_sipush (by decide) dX10_slot_182 rfl rfl) <| z_cons (ok_iload_n dX10_slot_185 rfl rfl) <| z_cons (ok_iadd dX10_slot_186 rfl rfl) <| z_cons (ok_iald dX10_slot_187 rfl rfl) <| z_cons (ok_iload_n dX10_slot_188 rfl rfl) <| z_cons (ok_icmp_ne (tgt := 229) (by decide) rfl dX10_slot_189 rfl rfl) <| z_cons (ok_aload_n dX10_slot_192 rfl rfl) <| z_cons (ok_getr (k := 0) ⟨by decide, by decide, by decide⟩ (ci := 8) (T := TX10) rfl rfl (Nat.le_of_ble_eq_true rfl) iw_X10 qw_616 gr_11_0 (fun _ _ => by simp) (fun w i => List.mem_of_getElem? (i := 0) rfl) dX10_slot_193 rfl rfl) <| z_cons (ok_sipush (by decide) dX10_slot_196 rfl rfl) <| z_cons (ok_iload_n dX10_slot_199 rfl rfl) <| z_cons (ok_iadd dX10_slot_200 rfl rfl) <| zl_X10_slot_3
set_option maxRecDepth 20000 in
theorem zl_X10_slot_1 : z_All z_tab cX10_slot 4 none RX10 pc_X10_slot 40 (k_X10_slot.drop 40) := z_cons (ok_getr (k := 0) ⟨by decide, by decide, by decide⟩ (ci := 8) (T := TX10) rfl rfl (Nat.le_of_ble_eq_true rfl) iw_X10 qw_616 gr_11_0 (fun _ _ => by simp) (fun w i => List.mem_of_getElem? (i := 0) rfl) dX10_slot_66 rfl rfl) <| z_cons (ok_sipush (by decide) dX10_slot_69 rfl rfl) <| z_cons (ok_iload_n dX10_slot_72 rfl rfl) <| z_cons (ok_iadd dX10_slot_73 rfl rfl) <| z_cons (ok_iald dX10_slot_74 rfl rfl) <| z_cons (ok_aload_n dX10_slot_75 rfl rfl) <| z_cons (ok_getr (k := 0) ⟨by decide, by decide, by decide⟩ (ci := 8) (T := TX10) rfl rfl (Nat.le_of_ble_eq_true rfl) iw_X10 qw_616 gr_11_0 (fun _ _ => by simp) (fun w i => List.mem_of_getElem? (i := 0) rfl) dX10_slot_76 rfl rfl) <| z_cons (ok_sipush (by decide) dX10_slot_79 rfl rfl) <| z_cons (ok_iload_n dX10_slot_82 rfl rfl) <| z_cons (ok_iadd dX10_slot_83 rfl rfl) <| z_cons (ok_iald dX10_slot_84 rfl rfl) <| z_cons (ok_icmp_le (tgt := 112) (by decide) rfl dX10_slot_85 rfl rfl) <| z_cons (ok_aload_n dX10_slot_88 rfl rfl) <| z_cons (ok_getr (k := 0) ⟨by decide, by decide, by decide⟩ (ci := 8) (T := TX10) rfl rfl (Nat.le_of_ble_eq_true rfl) iw_X10 qw_616 gr_11_0 (fun _ _ => by simp) (fun w i => List.mem_of_getElem? (i := 0) rfl) dX10_slot_89 rfl rfl) <| z_cons (ok_sipush (by decide) dX10_slot_92 rfl rfl) <| z_cons (ok_iload_n dX10_slot_95 rfl rfl) <| z_cons (ok_iadd dX10_slot_96 rfl rfl) <| z_cons (ok_iald dX10_slot_97 rfl rfl) <| z_cons (ok_aload_n dX10_slot_98 rfl rfl) <| z_cons (ok_getr (k := 0) ⟨by decide, by decide, by decide⟩ (ci := 8) (T := TX10) rfl rfl (Nat.le_of_ble_eq_true rfl) iw_X10 qw_616 gr_11_0 (fun _ _ => by simp) (fun w i => List.mem_of_getElem? (i := 0) rfl) dX10_slot_99 rfl rfl) <| z_cons (ok_sipush (by decide) dX10_slot_102 rfl rfl) <| z_cons (ok_iload_n dX10_slot_105 rfl rfl) <| z_cons (ok_iadd dX10_slot_106 rfl rfl) <| z_cons (ok_iald dX10_slot_107 rfl rfl) <| z_cons (ok_isub dX10_slot_108 rfl rfl) <| z_cons (ok_goto (tgt := 113) (by decide) rfl dX10_slot_109 rfl) <| z_cons (ok_iconst (by decide) dX10_slot_112 rfl rfl) <| z_cons (ok_iast dX10_slot_113 rfl rfl) <| z_cons (ok_goto (tgt := 301) (by decide) rfl dX10_slot_114 rfl) <| z_cons (ok_aload_n dX10_slot_117 rfl rfl) <| z_cons (ok_get ⟨by decide, by decide, by decide⟩ (ci := 8) (T := TX10) rfl rfl (Nat.le_of_ble_eq_true rfl) iw_X10 qw_745 gv_11_5 dX10_slot_118 rfl rfl) <| z_cons (ok_iconst (by decide) dX10_slot_121 rfl rfl) <| z_cons (ok_icmp_ne (tgt := 151) (by decide) rfl dX10_slot_122 rfl rfl) <| z_cons (ok_aload_n dX10_slot_125 rfl rfl) <| z_cons (ok_getr (k := 0) ⟨by decide, by decide, by decide⟩ (ci := 8) (T := TX10) rfl rfl (Nat.le_of_ble_eq_true rfl) iw_X10 qw_616 gr_11_0 (fun _ _ => by simp) (fun w i => List.mem_of_getElem? (i := 0) rfl) dX10_slot_126 rfl rfl) <| z_cons (ok_sipush (by decide) dX10_slot_129 rfl rfl) <| z_cons (ok_iload_n dX10_slot_132 rfl rfl) <| z_cons (ok_iadd dX10_slot_133 rfl rfl) <| z_cons (ok_dup2 dX10_slot_134 rfl rfl) <| z_cons (ok_iald dX10_slot_135 rfl rfl) <| zl_X10_slot_2
set_option maxRecDepth 20000 in
theorem zl_X10_slot_0 : z_All z_tab cX10_slot 4 none RX10 pc_X10_slot 0 (k_X10_slot.drop 0) := z_cons (ok_aload_n dX10_slot_0 rfl rfl) <| z_cons (ok_getr (k := 0) ⟨by decide, by decide, by decide⟩ (ci := 8) (T := TX10) rfl rfl (Nat.le_of_ble_eq_true rfl) iw_X10 qw_616 gr_11_0 (fun _ _ => by simp) (fun w i => List.mem_of_getElem? (i := 0) rfl) dX10_slot_1 rfl rfl) <| z_cons (ok_sipush (by decide) dX10_slot_4 rfl rfl) <| z_cons (ok_iload_n dX10_slot_7 rfl rfl) <| z_cons (ok_iadd dX10_slot_8 rfl rfl) <| z_cons (ok_iald dX10_slot_9 rfl rfl) <| z_cons (ok_if_ne (tgt := 17) (by decide) rfl dX10_slot_10 rfl rfl) <| z_cons (ok_iconst (by decide) dX10_slot_13 rfl rfl) <| z_cons (ok_goto (tgt := 18) (by decide) rfl dX10_slot_14 rfl) <| z_cons (ok_iconst (by decide) dX10_slot_17 rfl rfl) <| z_cons (ok_istore_n (Nat.le_of_ble_eq_true rfl) dX10_slot_18 rfl rfl) <| z_cons (ok_aload_n dX10_slot_19 rfl rfl) <| z_cons (ok_iload_n dX10_slot_20 rfl rfl) <| z_cons (ok_iconst (by decide) dX10_slot_21 rfl rfl) <| z_cons (ok_iconst (by decide) dX10_slot_22 rfl rfl) <| z_cons (ok_callv ⟨by decide, by decide, by decide⟩ (ci := 8) (C := RX10) (T := TX10) rfl go_11 (k := 211) (n := 3) qw_751 qw_618 ⟨by decide +kernel, by decide +kernel, by decide +kernel⟩ (Nat.le_of_ble_eq_true rfl) qw_752 qw_753 qw_754 dX10_slot_23 rfl rfl) <| z_cons (ok_aload_n dX10_slot_26 rfl rfl) <| z_cons (ok_get ⟨by decide, by decide, by decide⟩ (ci := 8) (T := TX10) rfl rfl (Nat.le_of_ble_eq_true rfl) iw_X10 qw_745 gv_11_5 dX10_slot_27 rfl rfl) <| z_cons (ok_if_ne (tgt := 117) (by decide) rfl dX10_slot_30 rfl rfl) <| z_cons (ok_aload_n dX10_slot_33 rfl rfl) <| z_cons (ok_iload_n dX10_slot_34 rfl rfl) <| z_cons (ok_callv ⟨by decide, by decide, by decide⟩ (ci := 8) (C := RX10) (T := TX10) rfl go_11 (k := 212) (n := 1) qw_755 qw_618 ⟨by decide +kernel, by decide +kernel, by decide +kernel⟩ (Nat.le_of_ble_eq_true rfl) qw_756 qw_757 qw_758 dX10_slot_35 rfl rfl) <| z_cons (ok_aload_n dX10_slot_38 rfl rfl) <| z_cons (ok_getr (k := 0) ⟨by decide, by decide, by decide⟩ (ci := 8) (T := TX10) rfl rfl (Nat.le_of_ble_eq_true rfl) iw_X10 qw_616 gr_11_0 (fun _ _ => by simp) (fun w i => List.mem_of_getElem? (i := 0) rfl) dX10_slot_39 rfl rfl) <| z_cons (ok_sipush (by decide) dX10_slot_42 rfl rfl) <| z_cons (ok_iload_n dX10_slot_45 rfl rfl) <| z_cons (ok_iadd dX10_slot_46 rfl rfl) <| z_cons (ok_dup2 dX10_slot_47 rfl rfl) <| z_cons (ok_iald dX10_slot_48 rfl rfl) <| z_cons (ok_iconst (by decide) dX10_slot_49 rfl rfl) <| z_cons (ok_iadd dX10_slot_50 rfl rfl) <| z_cons (ok_iast dX10_slot_51 rfl rfl) <| z_cons (ok_iload_n dX10_slot_52 rfl rfl) <| z_cons (ok_if_eq (tgt := 301) (by decide) rfl dX10_slot_53 rfl rfl) <| z_cons (ok_aload_n dX10_slot_56 rfl rfl) <| z_cons (ok_getr (k := 0) ⟨by decide, by decide, by decide⟩ (ci := 8) (T := TX10) rfl rfl (Nat.le_of_ble_eq_true rfl) iw_X10 qw_616 gr_11_0 (fun _ _ => by simp) (fun w i => List.mem_of_getElem? (i := 0) rfl) dX10_slot_57 rfl rfl) <| z_cons (ok_sipush (by decide) dX10_slot_60 rfl rfl) <| z_cons (ok_iload_n dX10_slot_63 rfl rfl) <| z_cons (ok_iadd dX10_slot_64 rfl rfl) <| z_cons (ok_aload_n dX10_slot_65 rfl rfl) <| zl_X10_slot_1
theorem dX10_endsFrame_0 : decode cX10_endsFrame 0 = .ok (.aload_n 0, 1) := by decide +kernel
theorem dX10_endsFrame_1 : decode cX10_endsFrame 1 = .ok (.iload_n 1, 1) := by decide +kernel
theorem dX10_endsFrame_2 : decode cX10_endsFrame 2 = .ok (.invokevirtual 139, 3) := by decide +kernel
theorem dX10_endsFrame_5 : decode cX10_endsFrame 5 = .ok (.ifCond .ne 9, 3) := by decide +kernel
theorem dX10_endsFrame_8 : decode cX10_endsFrame 8 = .ok (.aload_n 0, 1) := by decide +kernel
theorem dX10_endsFrame_9 : decode cX10_endsFrame 9 = .ok (.iload_n 1, 1) := by decide +kernel
theorem dX10_endsFrame_10 : decode cX10_endsFrame 10 = .ok (.invokevirtual 167, 3) := by decide +kernel
theorem dX10_endsFrame_13 : decode cX10_endsFrame 13 = .ok (.return_, 1) := by decide +kernel
theorem dX10_endsFrame_14 : decode cX10_endsFrame 14 = .ok (.aload_n 0, 1) := by decide +kernel
theorem dX10_endsFrame_15 : decode cX10_endsFrame 15 = .ok (.getfield 10, 3) := by decide +kernel
theorem dX10_endsFrame_18 : decode cX10_endsFrame 18 = .ok (.sipush 294, 3) := by decide +kernel
theorem dX10_endsFrame_21 : decode cX10_endsFrame 21 = .ok (.iload_n 1, 1) := by decide +kernel
theorem dX10_endsFrame_22 : decode cX10_endsFrame 22 = .ok (.iadd, 1) := by decide +kernel
theorem dX10_endsFrame_23 : decode cX10_endsFrame 23 = .ok (.iaload, 1) := by decide +kernel
theorem dX10_endsFrame_24 : decode cX10_endsFrame 24 = .ok (.ifCond .ne 19, 3) := by decide +kernel
theorem dX10_endsFrame_27 : decode cX10_endsFrame 27 = .ok (.aload_n 0, 1) := by decide +kernel
theorem dX10_endsFrame_28 : decode cX10_endsFrame 28 = .ok (.iload_n 1, 1) := by decide +kernel
theorem dX10_endsFrame_29 : decode cX10_endsFrame 29 = .ok (.aload_n 0, 1) := by decide +kernel
theorem dX10_endsFrame_30 : decode cX10_endsFrame 30 = .ok (.getfield 10, 3) := by decide +kernel
theorem dX10_endsFrame_33 : decode cX10_endsFrame 33 = .ok (.sipush 298, 3) := by decide +kernel
theorem dX10_endsFrame_36 : decode cX10_endsFrame 36 = .ok (.iload_n 1, 1) := by decide +kernel
theorem dX10_endsFrame_37 : decode cX10_endsFrame 37 = .ok (.iadd, 1) := by decide +kernel
theorem dX10_endsFrame_38 : decode cX10_endsFrame 38 = .ok (.iaload, 1) := by decide +kernel
theorem dX10_endsFrame_39 : decode cX10_endsFrame 39 = .ok (.invokevirtual 133, 3) := by decide +kernel
theorem dX10_endsFrame_42 : decode cX10_endsFrame 42 = .ok (.return_, 1) := by decide +kernel
theorem dX10_endsFrame_43 : decode cX10_endsFrame 43 = .ok (.aload_n 0, 1) := by decide +kernel
theorem dX10_endsFrame_44 : decode cX10_endsFrame 44 = .ok (.aload_n 0, 1) := by decide +kernel
theorem dX10_endsFrame_45 : decode cX10_endsFrame 45 = .ok (.getfield 10, 3) := by decide +kernel
theorem dX10_endsFrame_48 : decode cX10_endsFrame 48 = .ok (.sipush 338, 3) := by decide +kernel
theorem dX10_endsFrame_51 : decode cX10_endsFrame 51 = .ok (.iload_n 1, 1) := by decide +kernel
theorem dX10_endsFrame_52 : decode cX10_endsFrame 52 = .ok (.iadd, 1) := by decide +kernel
theorem dX10_endsFrame_53 : decode cX10_endsFrame 53 = .ok (.iaload, 1) := by decide +kernel
theorem dX10_endsFrame_54 : decode cX10_endsFrame 54 = .ok (.aload_n 0, 1) := by decide +kernel
theorem dX10_endsFrame_55 : decode cX10_endsFrame 55 = .ok (.getfield 10, 3) := by decide +kernel
theorem dX10_endsFrame_58 : decode cX10_endsFrame 58 = .ok (.sipush 342, 3) := by decide +kernel
theorem dX10_endsFrame_61 : decode cX10_endsFrame 61 = .ok (.iload_n 1, 1) := by decide +kernel
theorem dX10_endsFrame_62 : decode cX10_endsFrame 62 = .ok (.iadd, 1) := by decide +kernel
theorem dX10_endsFrame_63 : decode cX10_endsFrame 63 = .ok (.iaload, 1) := by decide +kernel
theorem dX10_endsFrame_64 : decode cX10_endsFrame 64 = .ok (.aload_n 0, 1) := by decide +kernel
theorem dX10_endsFrame_65 : decode cX10_endsFrame 65 = .ok (.getfield 10, 3) := by decide +kernel
theorem dX10_endsFrame_68 : decode cX10_endsFrame 68 = .ok (.sipush 346, 3) := by decide +kernel
theorem dX10_endsFrame_71 : decode cX10_endsFrame 71 = .ok (.iload_n 1, 1) := by decide +kernel
theorem dX10_endsFrame_72 : decode cX10_endsFrame 72 = .ok (.iadd, 1) := by decide +kernel
theorem dX10_endsFrame_73 : decode cX10_endsFrame 73 = .ok (.iaload, 1) := by decide +kernel
theorem dX10_endsFrame_74 : decode cX10_endsFrame 74 = .ok (.invokevirtual 170, 3) := by decide +kernel
theorem dX10_endsFrame_77 : decode cX10_endsFrame 77 = .ok (.istore_n 2, 1) := by decide +kernel
theorem dX10_endsFrame_78 : decode cX10_endsFrame 78 = .ok (.iload_n 2, 1) := by decide +kernel
theorem dX10_endsFrame_79 : decode cX10_endsFrame 79 = .ok (.aload_n 0, 1) := by decide +kernel
theorem dX10_endsFrame_80 : decode cX10_endsFrame 80 = .ok (.getfield 10, 3) := by decide +kernel
theorem dX10_endsFrame_83 : decode cX10_endsFrame 83 = .ok (.sipush 342, 3) := by decide +kernel
theorem dX10_endsFrame_86 : decode cX10_endsFrame 86 = .ok (.iload_n 1, 1) := by decide +kernel
theorem dX10_endsFrame_87 : decode cX10_endsFrame 87 = .ok (.iadd, 1) := by decide +kernel
theorem dX10_endsFrame_88 : decode cX10_endsFrame 88 = .ok (.iaload, 1) := by decide +kernel
theorem dX10_endsFrame_89 : decode cX10_endsFrame 89 = .ok (.isub, 1) := by decide +kernel
theorem dX10_endsFrame_90 : decode cX10_endsFrame 90 = .ok (.istore_n 3, 1) := by decide +kernel
theorem dX10_endsFrame_91 : decode cX10_endsFrame 91 = .ok (.aload_n 0, 1) := by decide +kernel
theorem dX10_endsFrame_92 : decode cX10_endsFrame 92 = .ok (.getfield 10, 3) := by decide +kernel
theorem dX10_endsFrame_95 : decode cX10_endsFrame 95 = .ok (.sipush 298, 3) := by decide +kernel
theorem dX10_endsFrame_98 : decode cX10_endsFrame 98 = .ok (.iload_n 1, 1) := by decide +kernel
theorem dX10_endsFrame_99 : decode cX10_endsFrame 99 = .ok (.iadd, 1) := by decide +kernel
theorem dX10_endsFrame_100 : decode cX10_endsFrame 100 = .ok (.iaload, 1) := by decide +kernel
theorem dX10_endsFrame_101 : decode cX10_endsFrame 101 = .ok (.iconst 4, 1) := by decide +kernel
theorem dX10_endsFrame_102 : decode cX10_endsFrame 102 = .ok (.if_icmp .ge 18, 3) := by decide +kernel
theorem dX10_endsFrame_105 : decode cX10_endsFrame 105 = .ok (.aload_n 0, 1) := by decide +kernel
theorem dX10_endsFrame_106 : decode cX10_endsFrame 106 = .ok (.getfield 10, 3) := by decide +kernel
theorem dX10_endsFrame_109 : decode cX10_endsFrame 109 = .ok (.sipush 298, 3) := by decide +kernel
theorem dX10_endsFrame_112 : decode cX10_endsFrame 112 = .ok (.iload_n 1, 1) := by decide +kernel
theorem dX10_endsFrame_113 : decode cX10_endsFrame 113 = .ok (.iadd, 1) := by decide +kernel
theorem dX10_endsFrame_114 : decode cX10_endsFrame 114 = .ok (.iaload, 1) := by decide +kernel
theorem dX10_endsFrame_115 : decode cX10_endsFrame 115 = .ok (.iconst 1, 1) := by decide +kernel
theorem dX10_endsFrame_116 : decode cX10_endsFrame 116 = .ok (.iadd, 1) := by decide +kernel
theorem dX10_endsFrame_117 : decode cX10_endsFrame 117 = .ok (.goto 4, 3) := by decide +kernel
theorem dX10_endsFrame_120 : decode cX10_endsFrame 120 = .ok (.iconst 4, 1) := by decide +kernel
theorem dX10_endsFrame_121 : decode cX10_endsFrame 121 = .ok (.istore 4, 2) := by decide +kernel
theorem dX10_endsFrame_123 : decode cX10_endsFrame 123 = .ok (.aload_n 0, 1) := by decide +kernel
theorem dX10_endsFrame_124 : decode cX10_endsFrame 124 = .ok (.iload_n 1, 1) := by decide +kernel
theorem dX10_endsFrame_125 : decode cX10_endsFrame 125 = .ok (.iload_n 2, 1) := by decide +kernel
theorem dX10_endsFrame_126 : decode cX10_endsFrame 126 = .ok (.iconst (-1), 1) := by decide +kernel
theorem dX10_endsFrame_127 : decode cX10_endsFrame 127 = .ok (.if_icmp .ne 8, 3) := by decide +kernel
theorem dX10_endsFrame_130 : decode cX10_endsFrame 130 = .ok (.iload 4, 2) := by decide +kernel
theorem dX10_endsFrame_132 : decode cX10_endsFrame 132 = .ok (.goto 16, 3) := by decide +kernel
theorem dX10_endsFrame_135 : decode cX10_endsFrame 135 = .ok (.iload_n 3, 1) := by decide +kernel
theorem dX10_endsFrame_136 : decode cX10_endsFrame 136 = .ok (.iconst 1, 1) := by decide +kernel
theorem dX10_endsFrame_137 : decode cX10_endsFrame 137 = .ok (.if_icmp .ge 7, 3) := by decide +kernel
theorem dX10_endsFrame_140 : decode cX10_endsFrame 140 = .ok (.iconst 1, 1) := by decide +kernel
theorem dX10_endsFrame_141 : decode cX10_endsFrame 141 = .ok (.goto 4, 3) := by decide +kernel
theorem dX10_endsFrame_144 : decode cX10_endsFrame 144 = .ok (.iload_n 3, 1) := by decide +kernel
theorem dX10_endsFrame_145 : decode cX10_endsFrame 145 = .ok (.invokestatic 173, 3) := by decide +kernel
theorem dX10_endsFrame_148 : decode cX10_endsFrame 148 = .ok (.invokevirtual 133, 3) := by decide +kernel
theorem dX10_endsFrame_151 : decode cX10_endsFrame 151 = .ok (.return_, 1) := by decide +kernel
set_option maxRecDepth 20000 in
theorem zl_X10_endsFrame_2 : z_All z_tab cX10_endsFrame 5 none RX10 pc_X10_endsFrame 80 (k_X10_endsFrame.drop 80) := z_cons (ok_goto (tgt := 148) (by decide) rfl dX10_endsFrame_132 rfl) <| z_cons (ok_iload_n dX10_endsFrame_135 rfl rfl) <| z_cons (ok_iconst (by decide) dX10_endsFrame_136 rfl rfl) <| z_cons (ok_icmp_ge (tgt := 144) (by decide) rfl dX10_endsFrame_137 rfl rfl) <| z_cons (ok_iconst (by decide) dX10_endsFrame_140 rfl rfl) <| z_cons (ok_goto (tgt := 145) (by decide) rfl dX10_endsFrame_141 rfl) <| z_cons (ok_iload_n dX10_endsFrame_144 rfl rfl) <| z_cons (ok_callS (k := 249) (n := 1) qw_779 qw_618 ⟨by decide +kernel, by decide +kernel, by decide +kernel⟩ (Nat.le_of_ble_eq_true rfl) qw_781 qw_780 dX10_endsFrame_145 rfl rfl) <| z_cons (ok_callv ⟨by decide, by decide, by decide⟩ (ci := 8) (C := RX10) (T := TX10) rfl go_11 (k := 205) (n := 2) qw_734 qw_618 ⟨by decide +kernel, by decide +kernel, by decide +kernel⟩ (Nat.le_of_ble_eq_true rfl) qw_735 qw_736 qw_737 dX10_endsFrame_148 rfl rfl) <| z_cons (ok_ret rfl dX10_endsFrame_151 rfl) <| z_nil
set_option maxRecDepth 20000 in
theorem zl_X10_endsFrame_1 : z_All z_tab cX10_endsFrame 5 none RX10 pc_X10_endsFrame 40 (k_X10_endsFrame.drop 40) := z_cons (ok_sipush (by decide) dX10_endsFrame_68 rfl rfl) <| z_cons (ok_iload_n dX10_endsFrame_71 rfl rfl) <| z_cons (ok_iadd dX10_endsFrame_72 rfl rfl) <| z_cons (ok_iald dX10_endsFrame_73 rfl rfl) <| z_cons (ok_callv ⟨by decide, by decide, by decide⟩ (ci := 8) (C := RX10) (T := TX10) rfl go_11 (k := 251) (n := 3) qw_775 qw_618 ⟨by decide +kernel, by decide +kernel, by decide +kernel⟩ (Nat.le_of_ble_eq_true rfl) qw_776 qw_777 qw_778 dX10_endsFrame_74 rfl rfl) <| z_cons (ok_istore_n (Nat.le_of_ble_eq_true rfl) dX10_endsFrame_77 rfl rfl) <| z_cons (ok_iload_n dX10_endsFrame_78 rfl rfl) <| z_cons (ok_aload_n dX10_endsFrame_79 rfl rfl) <| z_cons (ok_getr (k := 0) ⟨by decide, by decide, by decide⟩ (ci := 8) (T := TX10) rfl rfl (Nat.le_of_ble_eq_true rfl) iw_X10 qw_616 gr_11_0 (fun _ _ => by simp) (fun w i => List.mem_of_getElem? (i := 0) rfl) dX10_endsFrame_80 rfl rfl) <| z_cons (ok_sipush (by decide) dX10_endsFrame_83 rfl rfl) <| z_cons (ok_iload_n dX10_endsFrame_86 rfl rfl) <| z_cons (ok_iadd dX10_endsFrame_87 rfl rfl) <| z_cons (ok_iald dX10_endsFrame_88 rfl rfl) <| z_cons (ok_isub dX10_endsFrame_89 rfl rfl) <| z_cons (ok_istore_n (Nat.le_of_ble_eq_true rfl) dX10_endsFrame_90 rfl rfl) <| z_cons (ok_aload_n dX10_endsFrame_91 rfl rfl) <| z_cons (ok_getr (k := 0) ⟨by decide, by decide, by decide⟩ (ci := 8) (T := TX10) rfl rfl (Nat.le_of_ble_eq_true rfl) iw_X10 qw_616 gr_11_0 (fun _ _ => by simp) (fun w i => List.mem_of_getElem? (i := 0) rfl) dX10_endsFrame_92 rfl rfl) <| z_cons (ok_sipush (by decide) dX10_endsFrame_95 rfl rfl) <| z_cons (ok_iload_n dX10_endsFrame_98 rfl rfl) <| z_cons (ok_iadd dX10_endsFrame_99 rfl rfl) <| z_cons (ok_iald dX10_endsFrame_100 rfl rfl) <| z_cons (ok_iconst (by decide) dX10_endsFrame_101 rfl rfl) <| z_cons (ok_icmp_ge (tgt := 120) (by decide) rfl dX10_endsFrame_102 rfl rfl) <| z_cons (ok_aload_n dX10_endsFrame_105 rfl rfl) <| z_cons (ok_getr (k := 0) ⟨by decide, by decide, by decide⟩ (ci := 8) (T := TX10) rfl rfl (Nat.le_of_ble_eq_true rfl) iw_X10 qw_616 gr_11_0 (fun _ _ => by simp) (fun w i => List.mem_of_getElem? (i := 0) rfl) dX10_endsFrame_106 rfl rfl) <| z_cons (ok_sipush (by decide) dX10_endsFrame_109 rfl rfl) <| z_cons (ok_iload_n dX10_endsFrame_112 rfl rfl) <| z_cons (ok_iadd dX10_endsFrame_113 rfl rfl) <| z_cons (ok_iald dX10_endsFrame_114 rfl rfl) <| z_cons (ok_iconst (by decide) dX10_endsFrame_115 rfl rfl) <| z_cons (ok_iadd dX10_endsFrame_116 rfl rfl) <| z_cons (ok_goto (tgt := 121) (by decide) rfl dX10_endsFrame_117 rfl) <| z_cons (ok_iconst (by decide) dX10_endsFrame_120 rfl rfl) <| z_cons (ok_istore (Nat.le_of_ble_eq_true rfl) dX10_endsFrame_121 rfl rfl) <| z_cons (ok_aload_n dX10_endsFrame_123 rfl rfl) <| z_cons (ok_iload_n dX10_endsFrame_124 rfl rfl) <| z_cons (ok_iload_n dX10_endsFrame_125 rfl rfl) <| z_cons (ok_iconst (by decide) dX10_endsFrame_126 rfl rfl) <| z_cons (ok_icmp_ne (tgt := 135) (by decide) rfl dX10_endsFrame_127 rfl rfl) <| z_cons (ok_iload dX10_endsFrame_130 rfl rfl) <| zl_X10_endsFrame_2
set_option maxRecDepth 20000 in
theorem zl_X10_endsFrame_0 : z_All z_tab cX10_endsFrame 5 none RX10 pc_X10_endsFrame 0 (k_X10_endsFrame.drop 0) := z_cons (ok_aload_n dX10_endsFrame_0 rfl rfl) <| z_cons (ok_iload_n dX10_endsFrame_1 rfl rfl) <| z_cons (ok_callv ⟨by decide, by decide, by decide⟩ (ci := 8) (C := RX10) (T := TX10) rfl go_11 (k := 187) (n := 1) qw_741 qw_618 ⟨by decide +kernel, by decide +kernel, by decide +kernel⟩ (Nat.le_of_ble_eq_true rfl) qw_742 qw_743 qw_744 dX10_endsFrame_2 rfl rfl) <| z_cons (ok_if_ne (tgt := 14) (by decide) rfl dX10_endsFrame_5 rfl rfl) <| z_cons (ok_aload_n dX10_endsFrame_8 rfl rfl) <| z_cons (ok_iload_n dX10_endsFrame_9 rfl rfl) <| z_cons (ok_callv ⟨by decide, by decide, by decide⟩ (ci := 8) (C := RX10) (T := TX10) rfl go_11 (k := 210) (n := 1) qw_771 qw_618 ⟨by decide +kernel, by decide +kernel, by decide +kernel⟩ (Nat.le_of_ble_eq_true rfl) qw_772 qw_773 qw_774 dX10_endsFrame_10 rfl rfl) <| z_cons (ok_ret rfl dX10_endsFrame_13 rfl) <| z_cons (ok_aload_n dX10_endsFrame_14 rfl rfl) <| z_cons (ok_getr (k := 0) ⟨by decide, by decide, by decide⟩ (ci := 8) (T := TX10) rfl rfl (Nat.le_of_ble_eq_true rfl) iw_X10 qw_616 gr_11_0 (fun _ _ => by simp) (fun w i => List.mem_of_getElem? (i := 0) rfl) dX10_endsFrame_15 rfl rfl) <| z_cons (ok_sipush (by decide) dX10_endsFrame_18 rfl rfl) <| z_cons (ok_iload_n dX10_endsFrame_21 rfl rfl) <| z_cons (ok_iadd dX10_endsFrame_22 rfl rfl) <| z_cons (ok_iald dX10_endsFrame_23 rfl rfl) <| z_cons (ok_if_ne (tgt := 43) (by decide) rfl dX10_endsFrame_24 rfl rfl) <| z_cons (ok_aload_n dX10_endsFrame_27 rfl rfl) <| z_cons (ok_iload_n dX10_endsFrame_28 rfl rfl) <| z_cons (ok_aload_n dX10_endsFrame_29 rfl rfl) <| z_cons (ok_getr (k := 0) ⟨by decide, by decide, by decide⟩ (ci := 8) (T := TX10) rfl rfl (Nat.le_of_ble_eq_true rfl) iw_X10 qw_616 gr_11_0 (fun _ _ => by simp) (fun w i => List.mem_of_getElem? (i := 0) rfl) dX10_endsFrame_30 rfl rfl) <| z_cons (ok_sipush (by decide) dX10_endsFrame_33 rfl rfl) <| z_cons (ok_iload_n dX10_endsFrame_36 rfl rfl) <| z_cons (ok_iadd dX10_endsFrame_37 rfl rfl) <| z_cons (ok_iald dX10_endsFrame_38 rfl rfl) <| z_cons (ok_callv ⟨by decide, by decide, by decide⟩ (ci := 8) (C := RX10) (T := TX10) rfl go_11 (k := 205) (n := 2) qw_734 qw_618 ⟨by decide +kernel, by decide +kernel, by decide +kernel⟩ (Nat.le_of_ble_eq_true rfl) qw_735 qw_736 qw_737 dX10_endsFrame_39 rfl rfl) <| z_cons (ok_ret rfl dX10_endsFrame_42 rfl) <| z_cons (ok_aload_n dX10_endsFrame_43 rfl rfl) <| z_cons (ok_aload_n dX10_endsFrame_44 rfl rfl) <| z_cons (ok_getr (k := 0) ⟨by decide, by decide, by decide⟩ (ci := 8) (T := TX10) rfl rfl (Nat.le_of_ble_eq_true rfl) iw_X10 qw_616 gr_11_0 (fun _ _ => by simp) (fun w i => List.mem_of_getElem? (i := 0) rfl) dX10_endsFrame_45 rfl rfl) <| z_cons (ok_sipush (by decide) dX10_endsFrame_48 rfl rfl) <| z_cons (ok_iload_n dX10_endsFrame_51 rfl rfl) <| z_cons (ok_iadd dX10_endsFrame_52 rfl rfl) <| z_cons (ok_iald dX10_endsFrame_53 rfl rfl) <| z_cons (ok_aload_n dX10_endsFrame_54 rfl rfl) <| z_cons (ok_getr (k := 0) ⟨by decide, by decide, by decide⟩ (ci := 8) (T := TX10) rfl rfl (Nat.le_of_ble_eq_true rfl) iw_X10 qw_616 gr_11_0 (fun _ _ => by simp) (fun w i => List.mem_of_getElem? (i := 0) rfl) dX10_endsFrame_55 rfl rfl) <| z_cons (ok_sipush (by decide) dX10_endsFrame_58 rfl rfl) <| z_cons (ok_iload_n dX10_endsFrame_61 rfl rfl) <| z_cons (ok_iadd dX10_endsFrame_62 rfl rfl) <| z_cons (ok_iald dX10_endsFrame_63 rfl rfl) <| z_cons (ok_aload_n dX10_endsFrame_64 rfl rfl) <| z_cons (ok_getr (k := 0) ⟨by decide, by decide, by decide⟩ (ci := 8) (T := TX10) rfl rfl (Nat.le_of_ble_eq_true rfl) iw_X10 qw_616 gr_11_0 (fun _ _ => by simp) (fun w i => List.mem_of_getElem? (i := 0) rfl) dX10_endsFrame_65 rfl rfl) <| zl_X10_endsFrame_1
theorem dX10_query_0 : decode cX10_query 0 = .ok (.aload_n 0, 1) := by decide +kernel
theorem dX10_query_1 : decode cX10_query 1 = .ok (.getfield 10, 3) := by decide +kernel
theorem dX10_query_4 : decode cX10_query 4 = .ok (.sipush 326, 3) := by decide +kernel
theorem dX10_query_7 : decode cX10_query 7 = .ok (.iload_n 1, 1) := by decide +kernel
theorem dX10_query_8 : decode cX10_query 8 = .ok (.iadd, 1) := by decide +kernel
theorem dX10_query_9 : decode cX10_query 9 = .ok (.iaload, 1) := by decide +kernel
theorem dX10_query_10 : decode cX10_query 10 = .ok (.istore_n 2, 1) := by decide +kernel
theorem dX10_query_11 : decode cX10_query 11 = .ok (.aload_n 0, 1) := by decide +kernel
theorem dX10_query_12 : decode cX10_query 12 = .ok (.getfield 10, 3) := by decide +kernel
theorem dX10_query_15 : decode cX10_query 15 = .ok (.sipush 814, 3) := by decide +kernel
theorem dX10_query_18 : decode cX10_query 18 = .ok (.iload_n 1, 1) := by decide +kernel
theorem dX10_query_19 : decode cX10_query 19 = .ok (.iconst 0, 1) := by decide +kernel
theorem dX10_query_20 : decode cX10_query 20 = .ok (.invokestatic 136, 3) := by decide +kernel
theorem dX10_query_23 : decode cX10_query 23 = .ok (.iaload, 1) := by decide +kernel
theorem dX10_query_24 : decode cX10_query 24 = .ok (.istore_n 3, 1) := by decide +kernel
theorem dX10_query_25 : decode cX10_query 25 = .ok (.aload_n 0, 1) := by decide +kernel
theorem dX10_query_26 : decode cX10_query 26 = .ok (.getfield 10, 3) := by decide +kernel
theorem dX10_query_29 : decode cX10_query 29 = .ok (.sipush 814, 3) := by decide +kernel
theorem dX10_query_32 : decode cX10_query 32 = .ok (.iload_n 1, 1) := by decide +kernel
theorem dX10_query_33 : decode cX10_query 33 = .ok (.iconst 0, 1) := by decide +kernel
theorem dX10_query_34 : decode cX10_query 34 = .ok (.invokestatic 136, 3) := by decide +kernel
theorem dX10_query_37 : decode cX10_query 37 = .ok (.iconst 1, 1) := by decide +kernel
theorem dX10_query_38 : decode cX10_query 38 = .ok (.iadd, 1) := by decide +kernel
theorem dX10_query_39 : decode cX10_query 39 = .ok (.iaload, 1) := by decide +kernel
theorem dX10_query_40 : decode cX10_query 40 = .ok (.istore 4, 2) := by decide +kernel
theorem dX10_query_42 : decode cX10_query 42 = .ok (.aload_n 0, 1) := by decide +kernel
theorem dX10_query_43 : decode cX10_query 43 = .ok (.iload_n 1, 1) := by decide +kernel
theorem dX10_query_44 : decode cX10_query 44 = .ok (.iload_n 3, 1) := by decide +kernel
theorem dX10_query_45 : decode cX10_query 45 = .ok (.iload 4, 2) := by decide +kernel
theorem dX10_query_47 : decode cX10_query 47 = .ok (.invokevirtual 152, 3) := by decide +kernel
theorem dX10_query_50 : decode cX10_query 50 = .ok (.aload_n 0, 1) := by decide +kernel
theorem dX10_query_51 : decode cX10_query 51 = .ok (.getfield 142, 3) := by decide +kernel
theorem dX10_query_54 : decode cX10_query 54 = .ok (.iconst 1, 1) := by decide +kernel
theorem dX10_query_55 : decode cX10_query 55 = .ok (.if_icmp .le 125, 3) := by decide +kernel
theorem dX10_query_58 : decode cX10_query 58 = .ok (.aload_n 0, 1) := by decide +kernel
theorem dX10_query_59 : decode cX10_query 59 = .ok (.iload_n 1, 1) := by decide +kernel
theorem dX10_query_60 : decode cX10_query 60 = .ok (.invokevirtual 161, 3) := by decide +kernel
theorem dX10_query_63 : decode cX10_query 63 = .ok (.sipush 814, 3) := by decide +kernel
theorem dX10_query_66 : decode cX10_query 66 = .ok (.iload_n 1, 1) := by decide +kernel
theorem dX10_query_67 : decode cX10_query 67 = .ok (.iload_n 2, 1) := by decide +kernel
theorem dX10_query_68 : decode cX10_query 68 = .ok (.invokestatic 136, 3) := by decide +kernel
theorem dX10_query_71 : decode cX10_query 71 = .ok (.iconst 1, 1) := by decide +kernel
theorem dX10_query_72 : decode cX10_query 72 = .ok (.isub, 1) := by decide +kernel
theorem dX10_query_73 : decode cX10_query 73 = .ok (.istore 5, 2) := by decide +kernel
theorem dX10_query_75 : decode cX10_query 75 = .ok (.iload 5, 2) := by decide +kernel
theorem dX10_query_77 : decode cX10_query 77 = .ok (.sipush 814, 3) := by decide +kernel
theorem dX10_query_80 : decode cX10_query 80 = .ok (.iload_n 1, 1) := by decide +kernel
theorem dX10_query_81 : decode cX10_query 81 = .ok (.iconst 1, 1) := by decide +kernel
theorem dX10_query_82 : decode cX10_query 82 = .ok (.invokestatic 136, 3) := by decide +kernel
theorem dX10_query_85 : decode cX10_query 85 = .ok (.if_icmp .lt 25, 3) := by decide +kernel
theorem dX10_query_88 : decode cX10_query 88 = .ok (.aload_n 0, 1) := by decide +kernel
theorem dX10_query_89 : decode cX10_query 89 = .ok (.getfield 10, 3) := by decide +kernel
theorem dX10_query_92 : decode cX10_query 92 = .ok (.iload 5, 2) := by decide +kernel
theorem dX10_query_94 : decode cX10_query 94 = .ok (.iconst 3, 1) := by decide +kernel
theorem dX10_query_95 : decode cX10_query 95 = .ok (.iadd, 1) := by decide +kernel
theorem dX10_query_96 : decode cX10_query 96 = .ok (.aload_n 0, 1) := by decide +kernel
theorem dX10_query_97 : decode cX10_query 97 = .ok (.getfield 10, 3) := by decide +kernel
theorem dX10_query_100 : decode cX10_query 100 = .ok (.iload 5, 2) := by decide +kernel
theorem dX10_query_102 : decode cX10_query 102 = .ok (.iaload, 1) := by decide +kernel
theorem dX10_query_103 : decode cX10_query 103 = .ok (.iastore, 1) := by decide +kernel
theorem dX10_query_104 : decode cX10_query 104 = .ok (.iinc 5 (-1), 3) := by decide +kernel
theorem dX10_query_107 : decode cX10_query 107 = .ok (.goto (-32), 3) := by decide +kernel
theorem dX10_query_110 : decode cX10_query 110 = .ok (.iconst 0, 1) := by decide +kernel
theorem dX10_query_111 : decode cX10_query 111 = .ok (.istore 5, 2) := by decide +kernel
theorem dX10_query_113 : decode cX10_query 113 = .ok (.iload 5, 2) := by decide +kernel
theorem dX10_query_115 : decode cX10_query 115 = .ok (.iconst 2, 1) := by decide +kernel
theorem dX10_query_116 : decode cX10_query 116 = .ok (.if_icmp .ge 49, 3) := by decide +kernel
theorem dX10_query_119 : decode cX10_query 119 = .ok (.aload_n 0, 1) := by decide +kernel
theorem dX10_query_120 : decode cX10_query 120 = .ok (.getfield 10, 3) := by decide +kernel
theorem dX10_query_123 : decode cX10_query 123 = .ok (.sipush 814, 3) := by decide +kernel
theorem dX10_query_126 : decode cX10_query 126 = .ok (.iload_n 1, 1) := by decide +kernel
theorem dX10_query_127 : decode cX10_query 127 = .ok (.iload 5, 2) := by decide +kernel
theorem dX10_query_129 : decode cX10_query 129 = .ok (.invokestatic 136, 3) := by decide +kernel
theorem dX10_query_132 : decode cX10_query 132 = .ok (.iload_n 3, 1) := by decide +kernel
theorem dX10_query_133 : decode cX10_query 133 = .ok (.iconst 1, 1) := by decide +kernel
theorem dX10_query_134 : decode cX10_query 134 = .ok (.iadd, 1) := by decide +kernel
theorem dX10_query_135 : decode cX10_query 135 = .ok (.iastore, 1) := by decide +kernel
theorem dX10_query_136 : decode cX10_query 136 = .ok (.aload_n 0, 1) := by decide +kernel
theorem dX10_query_137 : decode cX10_query 137 = .ok (.getfield 10, 3) := by decide +kernel
theorem dX10_query_140 : decode cX10_query 140 = .ok (.sipush 814, 3) := by decide +kernel
theorem dX10_query_143 : decode cX10_query 143 = .ok (.iload_n 1, 1) := by decide +kernel
theorem dX10_query_144 : decode cX10_query 144 = .ok (.iload 5, 2) := by decide +kernel
theorem dX10_query_146 : decode cX10_query 146 = .ok (.invokestatic 136, 3) := by decide +kernel
theorem dX10_query_149 : decode cX10_query 149 = .ok (.iconst 1, 1) := by decide +kernel
theorem dX10_query_150 : decode cX10_query 150 = .ok (.iadd, 1) := by decide +kernel
theorem dX10_query_151 : decode cX10_query 151 = .ok (.iconst 2, 1) := by decide +kernel
theorem dX10_query_152 : decode cX10_query 152 = .ok (.iload 4, 2) := by decide +kernel
theorem dX10_query_154 : decode cX10_query 154 = .ok (.imul, 1) := by decide +kernel
theorem dX10_query_155 : decode cX10_query 155 = .ok (.iload 5, 2) := by decide +kernel
theorem dX10_query_157 : decode cX10_query 157 = .ok (.iadd, 1) := by decide +kernel
theorem dX10_query_158 : decode cX10_query 158 = .ok (.iastore, 1) := by decide +kernel
theorem dX10_query_159 : decode cX10_query 159 = .ok (.iinc 5 1, 3) := by decide +kernel
theorem dX10_query_162 : decode cX10_query 162 = .ok (.goto (-49), 3) := by decide +kernel
theorem dX10_query_165 : decode cX10_query 165 = .ok (.aload_n 0, 1) := by decide +kernel
theorem dX10_query_166 : decode cX10_query 166 = .ok (.getfield 10, 3) := by decide +kernel
theorem dX10_query_169 : decode cX10_query 169 = .ok (.sipush 326, 3) := by decide +kernel
theorem dX10_query_172 : decode cX10_query 172 = .ok (.iload_n 1, 1) := by decide +kernel
theorem dX10_query_173 : decode cX10_query 173 = .ok (.iadd, 1) := by decide +kernel
theorem dX10_query_174 : decode cX10_query 174 = .ok (.dup2, 1) := by decide +kernel
theorem dX10_query_175 : decode cX10_query 175 = .ok (.iaload, 1) := by decide +kernel
theorem dX10_query_176 : decode cX10_query 176 = .ok (.iconst 1, 1) := by decide +kernel
theorem dX10_query_177 : decode cX10_query 177 = .ok (.iadd, 1) := by decide +kernel
theorem dX10_query_178 : decode cX10_query 178 = .ok (.iastore, 1) := by decide +kernel
theorem dX10_query_179 : decode cX10_query 179 = .ok (.return_, 1) := by decide +kernel
theorem dX10_query_180 : decode cX10_query 180 = .ok (.sipush 22414, 3) := by decide +kernel
theorem dX10_query_183 : decode cX10_query 183 = .ok (.iload_n 1, 1) := by decide +kernel
theorem dX10_query_184 : decode cX10_query 184 = .ok (.aload_n 0, 1) := by decide +kernel
theorem dX10_query_185 : decode cX10_query 185 = .ok (.getfield 10, 3) := by decide +kernel
theorem dX10_query_188 : decode cX10_query 188 = .ok (.sipush 334, 3) := by decide +kernel
theorem dX10_query_191 : decode cX10_query 191 = .ok (.iload_n 1, 1) := by decide +kernel
theorem dX10_query_192 : decode cX10_query 192 = .ok (.iadd, 1) := by decide +kernel
theorem dX10_query_193 : decode cX10_query 193 = .ok (.iaload, 1) := by decide +kernel
theorem dX10_query_194 : decode cX10_query 194 = .ok (.invokestatic 136, 3) := by decide +kernel
theorem dX10_query_197 : decode cX10_query 197 = .ok (.istore 5, 2) := by decide +kernel
theorem dX10_query_199 : decode cX10_query 199 = .ok (.aload_n 0, 1) := by decide +kernel
theorem dX10_query_200 : decode cX10_query 200 = .ok (.getfield 10, 3) := by decide +kernel
theorem dX10_query_203 : decode cX10_query 203 = .ok (.iload 5, 2) := by decide +kernel
theorem dX10_query_205 : decode cX10_query 205 = .ok (.iload_n 3, 1) := by decide +kernel
theorem dX10_query_206 : decode cX10_query 206 = .ok (.iastore, 1) := by decide +kernel
theorem dX10_query_207 : decode cX10_query 207 = .ok (.aload_n 0, 1) := by decide +kernel
theorem dX10_query_208 : decode cX10_query 208 = .ok (.getfield 10, 3) := by decide +kernel
theorem dX10_query_211 : decode cX10_query 211 = .ok (.iload 5, 2) := by decide +kernel
theorem dX10_query_213 : decode cX10_query 213 = .ok (.iconst 1, 1) := by decide +kernel
theorem dX10_query_214 : decode cX10_query 214 = .ok (.iadd, 1) := by decide +kernel
theorem dX10_query_215 : decode cX10_query 215 = .ok (.iload 4, 2) := by decide +kernel
theorem dX10_query_217 : decode cX10_query 217 = .ok (.iastore, 1) := by decide +kernel
theorem dX10_query_218 : decode cX10_query 218 = .ok (.aload_n 0, 1) := by decide +kernel
theorem dX10_query_219 : decode cX10_query 219 = .ok (.getfield 10, 3) := by decide +kernel
theorem dX10_query_222 : decode cX10_query 222 = .ok (.iload 5, 2) := by decide +kernel
theorem dX10_query_224 : decode cX10_query 224 = .ok (.iconst 2, 1) := by decide +kernel
theorem dX10_query_225 : decode cX10_query 225 = .ok (.iadd, 1) := by decide +kernel
theorem dX10_query_226 : decode cX10_query 226 = .ok (.aload_n 0, 1) := by decide +kernel
theorem dX10_query_227 : decode cX10_query 227 = .ok (.getfield 142, 3) := by decide +kernel
theorem dX10_query_230 : decode cX10_query 230 = .ok (.ifCond .ne 7, 3) := by decide +kernel
theorem dX10_query_233 : decode cX10_query 233 = .ok (.iconst 1, 1) := by decide +kernel
theorem dX10_query_234 : decode cX10_query 234 = .ok (.goto 4, 3) := by decide +kernel
theorem dX10_query_237 : decode cX10_query 237 = .ok (.iconst 0, 1) := by decide +kernel
theorem dX10_query_238 : decode cX10_query 238 = .ok (.iastore, 1) := by decide +kernel
theorem dX10_query_239 : decode cX10_query 239 = .ok (.aload_n 0, 1) := by decide +kernel
theorem dX10_query_240 : decode cX10_query 240 = .ok (.getfield 10, 3) := by decide +kernel
theorem dX10_query_243 : decode cX10_query 243 = .ok (.sipush 334, 3) := by decide +kernel
theorem dX10_query_246 : decode cX10_query 246 = .ok (.iload_n 1, 1) := by decide +kernel
theorem dX10_query_247 : decode cX10_query 247 = .ok (.iadd, 1) := by decide +kernel
theorem dX10_query_248 : decode cX10_query 248 = .ok (.dup2, 1) := by decide +kernel
theorem dX10_query_249 : decode cX10_query 249 = .ok (.iaload, 1) := by decide +kernel
theorem dX10_query_250 : decode cX10_query 250 = .ok (.iconst 1, 1) := by decide +kernel
theorem dX10_query_251 : decode cX10_query 251 = .ok (.iadd, 1) := by decide +kernel
theorem dX10_query_252 : decode cX10_query 252 = .ok (.iastore, 1) := by decide +kernel
theorem dX10_query_253 : decode cX10_query 253 = .ok (.sipush 814, 3) := by decide +kernel
theorem dX10_query_256 : decode cX10_query 256 = .ok (.iload_n 1, 1) := by decide +kernel
theorem dX10_query_257 : decode cX10_query 257 = .ok (.iconst 1, 1) := by decide +kernel
theorem dX10_query_258 : decode cX10_query 258 = .ok (.invokestatic 136, 3) := by decide +kernel
theorem dX10_query_261 : decode cX10_query 261 = .ok (.istore 6, 2) := by decide +kernel
theorem dX10_query_263 : decode cX10_query 263 = .ok (.iload 6, 2) := by decide +kernel
theorem dX10_query_265 : decode cX10_query 265 = .ok (.sipush 814, 3) := by decide +kernel
theorem dX10_query_268 : decode cX10_query 268 = .ok (.iload_n 1, 1) := by decide +kernel
theorem dX10_query_269 : decode cX10_query 269 = .ok (.iload_n 2, 1) := by decide +kernel
theorem dX10_query_270 : decode cX10_query 270 = .ok (.invokestatic 136, 3) := by decide +kernel
theorem dX10_query_273 : decode cX10_query 273 = .ok (.if_icmp .ge 25, 3) := by decide +kernel
theorem dX10_query_276 : decode cX10_query 276 = .ok (.aload_n 0, 1) := by decide +kernel
theorem dX10_query_277 : decode cX10_query 277 = .ok (.getfield 10, 3) := by decide +kernel
theorem dX10_query_280 : decode cX10_query 280 = .ok (.iload 6, 2) := by decide +kernel
theorem dX10_query_282 : decode cX10_query 282 = .ok (.iconst 3, 1) := by decide +kernel
theorem dX10_query_283 : decode cX10_query 283 = .ok (.isub, 1) := by decide +kernel
theorem dX10_query_284 : decode cX10_query 284 = .ok (.aload_n 0, 1) := by decide +kernel
theorem dX10_query_285 : decode cX10_query 285 = .ok (.getfield 10, 3) := by decide +kernel
theorem dX10_query_288 : decode cX10_query 288 = .ok (.iload 6, 2) := by decide +kernel
theorem dX10_query_290 : decode cX10_query 290 = .ok (.iaload, 1) := by decide +kernel
theorem dX10_query_291 : decode cX10_query 291 = .ok (.iastore, 1) := by decide +kernel
theorem dX10_query_292 : decode cX10_query 292 = .ok (.iinc 6 1, 3) := by decide +kernel
theorem dX10_query_295 : decode cX10_query 295 = .ok (.goto (-32), 3) := by decide +kernel
theorem dX10_query_298 : decode cX10_query 298 = .ok (.aload_n 0, 1) := by decide +kernel
theorem dX10_query_299 : decode cX10_query 299 = .ok (.getfield 10, 3) := by decide +kernel
theorem dX10_query_302 : decode cX10_query 302 = .ok (.sipush 326, 3) := by decide +kernel
theorem dX10_query_305 : decode cX10_query 305 = .ok (.iload_n 1, 1) := by decide +kernel
theorem dX10_query_306 : decode cX10_query 306 = .ok (.iadd, 1) := by decide +kernel
theorem dX10_query_307 : decode cX10_query 307 = .ok (.dup2, 1) := by decide +kernel
theorem dX10_query_308 : decode cX10_query 308 = .ok (.iaload, 1) := by decide +kernel
theorem dX10_query_309 : decode cX10_query 309 = .ok (.iconst 1, 1) := by decide +kernel
theorem dX10_query_310 : decode cX10_query 310 = .ok (.isub, 1) := by decide +kernel
theorem dX10_query_311 : decode cX10_query 311 = .ok (.iastore, 1) := by decide +kernel
theorem dX10_query_312 : decode cX10_query 312 = .ok (.aload_n 0, 1) := by decide +kernel
theorem dX10_query_313 : decode cX10_query 313 = .ok (.getfield 142, 3) := by decide +kernel
theorem dX10_query_316 : decode cX10_query 316 = .ok (.ifCond .ne 11, 3) := by decide +kernel
theorem dX10_query_319 : decode cX10_query 319 = .ok (.aload_n 0, 1) := by decide +kernel
theorem dX10_query_320 : decode cX10_query 320 = .ok (.iload_n 1, 1) := by decide +kernel
theorem dX10_query_321 : decode cX10_query 321 = .ok (.invokevirtual 155, 3) := by decide +kernel
theorem dX10_query_324 : decode cX10_query 324 = .ok (.goto 12, 3) := by decide +kernel
theorem dX10_query_327 : decode cX10_query 327 = .ok (.aload_n 0, 1) := by decide +kernel
theorem dX10_query_328 : decode cX10_query 328 = .ok (.iload_n 1, 1) := by decide +kernel
theorem dX10_query_329 : decode cX10_query 329 = .ok (.aload_n 0, 1) := by decide +kernel
theorem dX10_query_330 : decode cX10_query 330 = .ok (.getfield 146, 3) := by decide +kernel
theorem dX10_query_333 : decode cX10_query 333 = .ok (.invokevirtual 158, 3) := by decide +kernel
theorem dX10_query_336 : decode cX10_query 336 = .ok (.aload_n 0, 1) := by decide +kernel
theorem dX10_query_337 : decode cX10_query 337 = .ok (.getfield 10, 3) := by decide +kernel
theorem dX10_query_340 : decode cX10_query 340 = .ok (.sipush 326, 3) := by decide +kernel
theorem dX10_query_343 : decode cX10_query 343 = .ok (.iload_n 1, 1) := by decide +kernel
theorem dX10_query_344 : decode cX10_query 344 = .ok (.iadd, 1) := by decide +kernel
theorem dX10_query_345 : decode cX10_query 345 = .ok (.iaload, 1) := by decide +kernel
theorem dX10_query_346 : decode cX10_query 346 = .ok (.ifCond .le 4, 3) := by decide +kernel
theorem dX10_query_349 : decode cX10_query 349 = .ok (.return_, 1) := by decide +kernel
theorem dX10_query_350 : decode cX10_query 350 = .ok (.aload_n 0, 1) := by decide +kernel
theorem dX10_query_351 : decode cX10_query 351 = .ok (.getfield 10, 3) := by decide +kernel
theorem dX10_query_354 : decode cX10_query 354 = .ok (.sipush 294, 3) := by decide +kernel
theorem dX10_query_357 : decode cX10_query 357 = .ok (.iload_n 1, 1) := by decide +kernel
theorem dX10_query_358 : decode cX10_query 358 = .ok (.iadd, 1) := by decide +kernel
theorem dX10_query_359 : decode cX10_query 359 = .ok (.iaload, 1) := by decide +kernel
theorem dX10_query_360 : decode cX10_query 360 = .ok (.iconst 1, 1) := by decide +kernel
theorem dX10_query_361 : decode cX10_query 361 = .ok (.if_icmp .ne 73, 3) := by decide +kernel
theorem dX10_query_364 : decode cX10_query 364 = .ok (.aload_n 0, 1) := by decide +kernel
theorem dX10_query_365 : decode cX10_query 365 = .ok (.getfield 10, 3) := by decide +kernel
theorem dX10_query_368 : decode cX10_query 368 = .ok (.sipush 350, 3) := by decide +kernel
theorem dX10_query_371 : decode cX10_query 371 = .ok (.iload_n 1, 1) := by decide +kernel
theorem dX10_query_372 : decode cX10_query 372 = .ok (.iadd, 1) := by decide +kernel
theorem dX10_query_373 : decode cX10_query 373 = .ok (.iaload, 1) := by decide +kernel
theorem dX10_query_374 : decode cX10_query 374 = .ok (.iconst 1, 1) := by decide +kernel
theorem dX10_query_375 : decode cX10_query 375 = .ok (.if_icmp .ne 59, 3) := by decide +kernel
theorem dX10_query_378 : decode cX10_query 378 = .ok (.aload_n 0, 1) := by decide +kernel
theorem dX10_query_379 : decode cX10_query 379 = .ok (.getfield 10, 3) := by decide +kernel
theorem dX10_query_382 : decode cX10_query 382 = .ok (.sipush 310, 3) := by decide +kernel
theorem dX10_query_385 : decode cX10_query 385 = .ok (.iload_n 1, 1) := by decide +kernel
theorem dX10_query_386 : decode cX10_query 386 = .ok (.iadd, 1) := by decide +kernel
theorem dX10_query_387 : decode cX10_query 387 = .ok (.iaload, 1) := by decide +kernel
theorem dX10_query_388 : decode cX10_query 388 = .ok (.aload_n 0, 1) := by decide +kernel
theorem dX10_query_389 : decode cX10_query 389 = .ok (.getfield 10, 3) := by decide +kernel
theorem dX10_query_392 : decode cX10_query 392 = .ok (.sipush 306, 3) := by decide +kernel
theorem dX10_query_395 : decode cX10_query 395 = .ok (.iload_n 1, 1) := by decide +kernel
theorem dX10_query_396 : decode cX10_query 396 = .ok (.iadd, 1) := by decide +kernel
theorem dX10_query_397 : decode cX10_query 397 = .ok (.iaload, 1) := by decide +kernel
theorem dX10_query_398 : decode cX10_query 398 = .ok (.iadd, 1) := by decide +kernel
theorem dX10_query_399 : decode cX10_query 399 = .ok (.aload_n 0, 1) := by decide +kernel
theorem dX10_query_400 : decode cX10_query 400 = .ok (.getfield 10, 3) := by decide +kernel
theorem dX10_query_403 : decode cX10_query 403 = .ok (.sipush 314, 3) := by decide +kernel
theorem dX10_query_406 : decode cX10_query 406 = .ok (.iload_n 1, 1) := by decide +kernel
theorem dX10_query_407 : decode cX10_query 407 = .ok (.iadd, 1) := by decide +kernel
theorem dX10_query_408 : decode cX10_query 408 = .ok (.iaload, 1) := by decide +kernel
theorem dX10_query_409 : decode cX10_query 409 = .ok (.iadd, 1) := by decide +kernel
theorem dX10_query_410 : decode cX10_query 410 = .ok (.aload_n 0, 1) := by decide +kernel
theorem dX10_query_411 : decode cX10_query 411 = .ok (.getfield 10, 3) := by decide +kernel
theorem dX10_query_414 : decode cX10_query 414 = .ok (.sipush 354, 3) := by decide +kernel
theorem dX10_query_417 : decode cX10_query 417 = .ok (.iload_n 1, 1) := by decide +kernel
theorem dX10_query_418 : decode cX10_query 418 = .ok (.iadd, 1) := by decide +kernel
theorem dX10_query_419 : decode cX10_query 419 = .ok (.iaload, 1) := by decide +kernel
theorem dX10_query_420 : decode cX10_query 420 = .ok (.if_icmp .eq 14, 3) := by decide +kernel
theorem dX10_query_423 : decode cX10_query 423 = .ok (.aload_n 0, 1) := by decide +kernel
theorem dX10_query_424 : decode cX10_query 424 = .ok (.getfield 10, 3) := by decide +kernel
theorem dX10_query_427 : decode cX10_query 427 = .ok (.bipush 20, 2) := by decide +kernel
theorem dX10_query_429 : decode cX10_query 429 = .ok (.dup2, 1) := by decide +kernel
theorem dX10_query_430 : decode cX10_query 430 = .ok (.iaload, 1) := by decide +kernel
theorem dX10_query_431 : decode cX10_query 431 = .ok (.iconst 1, 1) := by decide +kernel
theorem dX10_query_432 : decode cX10_query 432 = .ok (.iadd, 1) := by decide +kernel
theorem dX10_query_433 : decode cX10_query 433 = .ok (.iastore, 1) := by decide +kernel
theorem dX10_query_434 : decode cX10_query 434 = .ok (.aload_n 0, 1) := by decide +kernel
theorem dX10_query_435 : decode cX10_query 435 = .ok (.iload_n 1, 1) := by decide +kernel
theorem dX10_query_436 : decode cX10_query 436 = .ok (.invokevirtual 176, 3) := by decide +kernel
theorem dX10_query_439 : decode cX10_query 439 = .ok (.aload_n 0, 1) := by decide +kernel
theorem dX10_query_440 : decode cX10_query 440 = .ok (.iload_n 1, 1) := by decide +kernel
theorem dX10_query_441 : decode cX10_query 441 = .ok (.invokevirtual 167, 3) := by decide +kernel
theorem dX10_query_444 : decode cX10_query 444 = .ok (.return_, 1) := by decide +kernel
set_option maxRecDepth 20000 in
theorem zl_X10_query_6 : z_All z_tab cX10_query 7 none RX10 pc_X10_query 240 (k_X10_query.drop 240) := z_cons (ok_iload_n dX10_query_417 rfl rfl) <| z_cons (ok_iadd dX10_query_418 rfl rfl) <| z_cons (ok_iald dX10_query_419 rfl rfl) <| z_cons (ok_icmp_eq (tgt := 434) (by decide) rfl dX10_query_420 rfl rfl) <| z_cons (ok_aload_n dX10_query_423 rfl rfl) <| z_cons (ok_getr (k := 0) ⟨by decide, by decide, by decide⟩ (ci := 8) (T := TX10) rfl rfl (Nat.le_of_ble_eq_true rfl) iw_X10 qw_616 gr_11_0 (fun _ _ => by simp) (fun w i => List.mem_of_getElem? (i := 0) rfl) dX10_query_424 rfl rfl) <| z_cons (ok_bipush (by decide) dX10_query_427 rfl rfl) <| z_cons (ok_dup2 dX10_query_429 rfl rfl) <| z_cons (ok_iald dX10_query_430 rfl rfl) <| z_cons (ok_iconst (by decide) dX10_query_431 rfl rfl) <| z_cons (ok_iadd dX10_query_432 rfl rfl) <| z_cons (ok_iast dX10_query_433 rfl rfl) <| z_cons (ok_aload_n dX10_query_434 rfl rfl) <| z_cons (ok_iload_n dX10_query_435 rfl rfl) <| z_cons (ok_callv ⟨by decide, by decide, by decide⟩ (ci := 8) (C := RX10) (T := TX10) rfl go_11 (k := 218) (n := 1) qw_782 qw_618 ⟨by decide +kernel, by decide +kernel, by decide +kernel⟩ (Nat.le_of_ble_eq_true rfl) qw_783 qw_784 qw_785 dX10_query_436 rfl rfl) <| z_cons (ok_aload_n dX10_query_439 rfl rfl) <| z_cons (ok_iload_n dX10_query_440 rfl rfl) <| z_cons (ok_callv ⟨by decide, by decide, by decide⟩ (ci := 8) (C := RX10) (T := TX10) rfl go_11 (k := 210) (n := 1) qw_771 qw_618 ⟨by decide +kernel, by decide +kernel, by decide +kernel⟩ (Nat.le_of_ble_eq_true rfl) qw_772 qw_773 qw_774 dX10_query_441 rfl rfl) <| z_cons (ok_ret rfl dX10_query_444 rfl) <| z_nil
set_option maxRecDepth 20000 in
theorem zl_X10_query_5 : z_All z_tab cX10_query 7 none RX10 pc_X10_query 200 (k_X10_query.drop 200) := z_cons (ok_ret rfl dX10_query_349 rfl) <| z_cons (ok_aload_n dX10_query_350 rfl rfl) <| z_cons (ok_getr (k := 0) ⟨by decide, by decide, by decide⟩ (ci := 8) (T := TX10) rfl rfl (Nat.le_of_ble_eq_true rfl) iw_X10 qw_616 gr_11_0 (fun _ _ => by simp) (fun w i => List.mem_of_getElem? (i := 0) rfl) dX10_query_351 rfl rfl) <| z_cons (ok_sipush (by decide) dX10_query_354 rfl rfl) <| z_cons (ok_iload_n dX10_query_357 rfl rfl) <| z_cons (ok_iadd dX10_query_358 rfl rfl) <| z_cons (ok_iald dX10_query_359 rfl rfl) <| z_cons (ok_iconst (by decide) dX10_query_360 rfl rfl) <| z_cons (ok_icmp_ne (tgt := 434) (by decide) rfl dX10_query_361 rfl rfl) <| z_cons (ok_aload_n dX10_query_364 rfl rfl) <| z_cons (ok_getr (k := 0) ⟨by decide, by decide, by decide⟩ (ci := 8) (T := TX10) rfl rfl (Nat.le_of_ble_eq_true rfl) iw_X10 qw_616 gr_11_0 (fun _ _ => by simp) (fun w i => List.mem_of_getElem? (i := 0) rfl) dX10_query_365 rfl rfl) <| z_cons (ok_sipush (by decide) dX10_query_368 rfl rfl) <| z_cons (ok_iload_n dX10_query_371 rfl rfl) <| z_cons (ok_iadd dX10_query_372 rfl rfl) <| z_cons (ok_iald dX10_query_373 rfl rfl) <| z_cons (ok_iconst (by decide) dX10_query_374 rfl rfl) <| z_cons (ok_icmp_ne (tgt := 434) (by decide) rfl dX10_query_375 rfl rfl) <| z_cons (ok_aload_n dX10_query_378 rfl rfl) <| z_cons (ok_getr (k := 0) ⟨by decide, by decide, by decide⟩ (ci := 8) (T := TX10) rfl rfl (Nat.le_of_ble_eq_true rfl) iw_X10 qw_616 gr_11_0 (fun _ _ => by simp) (fun w i => List.mem_of_getElem? (i := 0) rfl) dX10_query_379 rfl rfl) <| z_cons (ok_sipush (by decide) dX10_query_382 rfl rfl) <| z_cons (ok_iload_n dX10_query_385 rfl rfl) <| z_cons (ok_iadd dX10_query_386 rfl rfl) <| z_cons (ok_iald dX10_query_387 rfl rfl) <| z_cons (ok_aload_n dX10_query_388 rfl rfl) <| z_cons (ok_getr (k := 0) ⟨by decide, by decide, by decide⟩ (ci := 8) (T := TX10) rfl rfl (Nat.le_of_ble_eq_true rfl) iw_X10 qw_616 gr_11_0 (fun _ _ => by simp) (fun w i => List.mem_of_getElem? (i := 0) rfl) dX10_query_389 rfl rfl) <| z_cons (ok_sipush (by decide) dX10_query_392 rfl rfl) <| z_cons (ok_iload_n dX10_query_395 rfl rfl) <| z_cons (ok_iadd dX10_query_396 rfl rfl) <| z_cons (ok_iald dX10_query_397 rfl rfl) <| z_cons (ok_iadd dX10_query_398 rfl rfl) <| z_cons (ok_aload_n dX10_query_399 rfl rfl) <| z_cons (ok_getr (k := 0) ⟨by decide, by decide, by decide⟩ (ci := 8) (T := TX10) rfl rfl (Nat.le_of_ble_eq_true rfl) iw_X10 qw_616 gr_11_0 (fun _ _ => by simp) (fun w i => List.mem_of_getElem? (i := 0) rfl) dX10_query_400 rfl rfl) <| z_cons (ok_sipush (by decide) dX10_query_403 rfl rfl) <| z_cons (ok_iload_n dX10_query_406 rfl rfl) <| z_cons (ok_iadd dX10_query_407 rfl rfl) <| z_cons (ok_iald dX10_query_408 rfl rfl) <| z_cons (ok_iadd dX10_query_409 rfl rfl) <| z_cons (ok_aload_n dX10_query_410 rfl rfl) <| z_cons (ok_getr (k := 0) ⟨by decide, by decide, by decide⟩ (ci := 8) (T := TX10) rfl rfl (Nat.le_of_ble_eq_true rfl) iw_X10 qw_616 gr_11_0 (fun _ _ => by simp) (fun w i => List.mem_of_getElem? (i := 0) rfl) dX10_query_411 rfl rfl) <| z_cons (ok_sipush (by decide) dX10_query_414 rfl rfl) <| zl_X10_query_6
set_option maxRecDepth 20000 in
theorem zl_X10_query_4 : z_All z_tab cX10_query 7 none RX10 pc_X10_query 160 (k_X10_query.drop 160) := z_cons (ok_getr (k := 0) ⟨by decide, by decide, by decide⟩ (ci := 8) (T := TX10) rfl rfl (Nat.le_of_ble_eq_true rfl) iw_X10 qw_616 gr_11_0 (fun _ _ => by simp) (fun w i => List.mem_of_getElem? (i := 0) rfl) dX10_query_277 rfl rfl) <| z_cons (ok_iload dX10_query_280 rfl rfl) <| z_cons (ok_iconst (by decide) dX10_query_282 rfl rfl) <| z_cons (ok_isub dX10_query_283 rfl rfl) <| z_cons (ok_aload_n dX10_query_284 rfl rfl) <| z_cons (ok_getr (k := 0) ⟨by decide, by decide, by decide⟩ (ci := 8) (T := TX10) rfl rfl (Nat.le_of_ble_eq_true rfl) iw_X10 qw_616 gr_11_0 (fun _ _ => by simp) (fun w i => List.mem_of_getElem? (i := 0) rfl) dX10_query_285 rfl rfl) <| z_cons (ok_iload dX10_query_288 rfl rfl) <| z_cons (ok_iald dX10_query_290 rfl rfl) <| z_cons (ok_iast dX10_query_291 rfl rfl) <| z_cons (ok_iinc (by decide) (Nat.le_of_ble_eq_true rfl) dX10_query_292 rfl rfl) <| z_cons (ok_goto (tgt := 263) (by decide) rfl dX10_query_295 rfl) <| z_cons (ok_aload_n dX10_query_298 rfl rfl) <| z_cons (ok_getr (k := 0) ⟨by decide, by decide, by decide⟩ (ci := 8) (T := TX10) rfl rfl (Nat.le_of_ble_eq_true rfl) iw_X10 qw_616 gr_11_0 (fun _ _ => by simp) (fun w i => List.mem_of_getElem? (i := 0) rfl) dX10_query_299 rfl rfl) <| z_cons (ok_sipush (by decide) dX10_query_302 rfl rfl) <| z_cons (ok_iload_n dX10_query_305 rfl rfl) <| z_cons (ok_iadd dX10_query_306 rfl rfl) <| z_cons (ok_dup2 dX10_query_307 rfl rfl) <| z_cons (ok_iald dX10_query_308 rfl rfl) <| z_cons (ok_iconst (by decide) dX10_query_309 rfl rfl) <| z_cons (ok_isub dX10_query_310 rfl rfl) <| z_cons (ok_iast dX10_query_311 rfl rfl) <| z_cons (ok_aload_n dX10_query_312 rfl rfl) <| z_cons (ok_get ⟨by decide, by decide, by decide⟩ (ci := 8) (T := TX10) rfl rfl (Nat.le_of_ble_eq_true rfl) iw_X10 qw_745 gv_11_5 dX10_query_313 rfl rfl) <| z_cons (ok_if_ne (tgt := 327) (by decide) rfl dX10_query_316 rfl rfl) <| z_cons (ok_aload_n dX10_query_319 rfl rfl) <| z_cons (ok_iload_n dX10_query_320 rfl rfl) <| z_cons (ok_callv ⟨by decide, by decide, by decide⟩ (ci := 8) (C := RX10) (T := TX10) rfl go_11 (k := 212) (n := 1) qw_755 qw_618 ⟨by decide +kernel, by decide +kernel, by decide +kernel⟩ (Nat.le_of_ble_eq_true rfl) qw_756 qw_757 qw_758 dX10_query_321 rfl rfl) <| z_cons (ok_goto (tgt := 336) (by decide) rfl dX10_query_324 rfl) <| z_cons (ok_aload_n dX10_query_327 rfl rfl) <| z_cons (ok_iload_n dX10_query_328 rfl rfl) <| z_cons (ok_aload_n dX10_query_329 rfl rfl) <| z_cons (ok_get ⟨by decide, by decide, by decide⟩ (ci := 8) (T := TX10) rfl rfl (Nat.le_of_ble_eq_true rfl) iw_X10 qw_746 gv_11_6 dX10_query_330 rfl rfl) <| z_cons (ok_callv ⟨by decide, by decide, by decide⟩ (ci := 8) (C := RX10) (T := TX10) rfl go_11 (k := 209) (n := 2) qw_759 qw_618 ⟨by decide +kernel, by decide +kernel, by decide +kernel⟩ (Nat.le_of_ble_eq_true rfl) qw_760 qw_761 qw_762 dX10_query_333 rfl rfl) <| z_cons (ok_aload_n dX10_query_336 rfl rfl) <| z_cons (ok_getr (k := 0) ⟨by decide, by decide, by decide⟩ (ci := 8) (T := TX10) rfl rfl (Nat.le_of_ble_eq_true rfl) iw_X10 qw_616 gr_11_0 (fun _ _ => by simp) (fun w i => List.mem_of_getElem? (i := 0) rfl) dX10_query_337 rfl rfl) <| z_cons (ok_sipush (by decide) dX10_query_340 rfl rfl) <| z_cons (ok_iload_n dX10_query_343 rfl rfl) <| z_cons (ok_iadd dX10_query_344 rfl rfl) <| z_cons (ok_iald dX10_query_345 rfl rfl) <| z_cons (ok_if_le (tgt := 350) (by decide) rfl dX10_query_346 rfl rfl) <| zl_X10_query_5
set_option maxRecDepth 20000 in
theorem zl_X10_query_3 : z_All z_tab cX10_query 7 none RX10 pc_X10_query 120 (k_X10_query.drop 120) := z_cons (ok_getr (k := 0) ⟨by decide, by decide, by decide⟩ (ci := 8) (T := TX10) rfl rfl (Nat.le_of_ble_eq_true rfl) iw_X10 qw_616 gr_11_0 (fun _ _ => by simp) (fun w i => List.mem_of_getElem? (i := 0) rfl) dX10_query_208 rfl rfl) <| z_cons (ok_iload dX10_query_211 rfl rfl) <| z_cons (ok_iconst (by decide) dX10_query_213 rfl rfl) <| z_cons (ok_iadd dX10_query_214 rfl rfl) <| z_cons (ok_iload dX10_query_215 rfl rfl) <| z_cons (ok_iast dX10_query_217 rfl rfl) <| z_cons (ok_aload_n dX10_query_218 rfl rfl) <| z_cons (ok_getr (k := 0) ⟨by decide, by decide, by decide⟩ (ci := 8) (T := TX10) rfl rfl (Nat.le_of_ble_eq_true rfl) iw_X10 qw_616 gr_11_0 (fun _ _ => by simp) (fun w i => List.mem_of_getElem? (i := 0) rfl) dX10_query_219 rfl rfl) <| z_cons (ok_iload dX10_query_222 rfl rfl) <| z_cons (ok_iconst (by decide) dX10_query_224 rfl rfl) <| z_cons (ok_iadd dX10_query_225 rfl rfl) <| z_cons (ok_aload_n dX10_query_226 rfl rfl) <| z_cons (ok_get ⟨by decide, by decide, by decide⟩ (ci := 8) (T := TX10) rfl rfl (Nat.le_of_ble_eq_true rfl) iw_X10 qw_745 gv_11_5 dX10_query_227 rfl rfl) <| z_cons (ok_if_ne (tgt := 237) (by decide) rfl dX10_query_230 rfl rfl) <| z_cons (ok_iconst (by decide) dX10_query_233 rfl rfl) <| z_cons (ok_goto (tgt := 238) (by decide) rfl dX10_query_234 rfl) <| z_cons (ok_iconst (by decide) dX10_query_237 rfl rfl) <| z_cons (ok_iast dX10_query_238 rfl rfl) <| z_cons (ok_aload_n dX10_query_239 rfl rfl) <| z_cons (ok_getr (k := 0) ⟨by decide, by decide, by decide⟩ (ci := 8) (T := TX10) rfl rfl (Nat.le_of_ble_eq_true rfl) iw_X10 qw_616 gr_11_0 (fun _ _ => by simp) (fun w i => List.mem_of_getElem? (i := 0) rfl) dX10_query_240 rfl rfl) <| z_cons (ok_sipush (by decide) dX10_query_243 rfl rfl) <| z_cons (ok_iload_n dX10_query_246 rfl rfl) <| z_cons (ok_iadd dX10_query_247 rfl rfl) <| z_cons (ok_dup2 dX10_query_248 rfl rfl) <| z_cons (ok_iald dX10_query_249 rfl rfl) <| z_cons (ok_iconst (by decide) dX10_query_250 rfl rfl) <| z_cons (ok_iadd dX10_query_251 rfl rfl) <| z_cons (ok_iast dX10_query_252 rfl rfl) <| z_cons (ok_sipush (by decide) dX10_query_253 rfl rfl) <| z_cons (ok_iload_n dX10_query_256 rfl rfl) <| z_cons (ok_iconst (by decide) dX10_query_257 rfl rfl) <| z_cons (ok_callS (k := 207) (n := 3) qw_738 qw_618 ⟨by decide +kernel, by decide +kernel, by decide +kernel⟩ (Nat.le_of_ble_eq_true rfl) qw_740 qw_739 dX10_query_258 rfl rfl) <| z_cons (ok_istore (Nat.le_of_ble_eq_true rfl) dX10_query_261 rfl rfl) <| z_cons (ok_iload dX10_query_263 rfl rfl) <| z_cons (ok_sipush (by decide) dX10_query_265 rfl rfl) <| z_cons (ok_iload_n dX10_query_268 rfl rfl) <| z_cons (ok_iload_n dX10_query_269 rfl rfl) <| z_cons (ok_callS (k := 207) (n := 3) qw_738 qw_618 ⟨by decide +kernel, by decide +kernel, by decide +kernel⟩ (Nat.le_of_ble_eq_true rfl) qw_740 qw_739 dX10_query_270 rfl rfl) <| z_cons (ok_icmp_ge (tgt := 298) (by decide) rfl dX10_query_273 rfl rfl) <| z_cons (ok_aload_n dX10_query_276 rfl rfl) <| zl_X10_query_4
set_option maxRecDepth 20000 in
theorem zl_X10_query_2 : z_All z_tab cX10_query 7 none RX10 pc_X10_query 80 (k_X10_query.drop 80) := z_cons (ok_iload_n dX10_query_143 rfl rfl) <| z_cons (ok_iload dX10_query_144 rfl rfl) <| z_cons (ok_callS (k := 207) (n := 3) qw_738 qw_618 ⟨by decide +kernel, by decide +kernel, by decide +kernel⟩ (Nat.le_of_ble_eq_true rfl) qw_740 qw_739 dX10_query_146 rfl rfl) <| z_cons (ok_iconst (by decide) dX10_query_149 rfl rfl) <| z_cons (ok_iadd dX10_query_150 rfl rfl) <| z_cons (ok_iconst (by decide) dX10_query_151 rfl rfl) <| z_cons (ok_iload dX10_query_152 rfl rfl) <| z_cons (ok_imul dX10_query_154 rfl rfl) <| z_cons (ok_iload dX10_query_155 rfl rfl) <| z_cons (ok_iadd dX10_query_157 rfl rfl) <| z_cons (ok_iast dX10_query_158 rfl rfl) <| z_cons (ok_iinc (by decide) (Nat.le_of_ble_eq_true rfl) dX10_query_159 rfl rfl) <| z_cons (ok_goto (tgt := 113) (by decide) rfl dX10_query_162 rfl) <| z_cons (ok_aload_n dX10_query_165 rfl rfl) <| z_cons (ok_getr (k := 0) ⟨by decide, by decide, by decide⟩ (ci := 8) (T := TX10) rfl rfl (Nat.le_of_ble_eq_true rfl) iw_X10 qw_616 gr_11_0 (fun _ _ => by simp) (fun w i => List.mem_of_getElem? (i := 0) rfl) dX10_query_166 rfl rfl) <| z_cons (ok_sipush (by decide) dX10_query_169 rfl rfl) <| z_cons (ok_iload_n dX10_query_172 rfl rfl) <| z_cons (ok_iadd dX10_query_173 rfl rfl) <| z_cons (ok_dup2 dX10_query_174 rfl rfl) <| z_cons (ok_iald dX10_query_175 rfl rfl) <| z_cons (ok_iconst (by decide) dX10_query_176 rfl rfl) <| z_cons (ok_iadd dX10_query_177 rfl rfl) <| z_cons (ok_iast dX10_query_178 rfl rfl) <| z_cons (ok_ret rfl dX10_query_179 rfl) <| z_cons (ok_sipush (by decide) dX10_query_180 rfl rfl) <| z_cons (ok_iload_n dX10_query_183 rfl rfl) <| z_cons (ok_aload_n dX10_query_184 rfl rfl) <| z_cons (ok_getr (k := 0) ⟨by decide, by decide, by decide⟩ (ci := 8) (T := TX10) rfl rfl (Nat.le_of_ble_eq_true rfl) iw_X10 qw_616 gr_11_0 (fun _ _ => by simp) (fun w i => List.mem_of_getElem? (i := 0) rfl) dX10_query_185 rfl rfl) <| z_cons (ok_sipush (by decide) dX10_query_188 rfl rfl) <| z_cons (ok_iload_n dX10_query_191 rfl rfl) <| z_cons (ok_iadd dX10_query_192 rfl rfl) <| z_cons (ok_iald dX10_query_193 rfl rfl) <| z_cons (ok_callS (k := 207) (n := 3) qw_738 qw_618 ⟨by decide +kernel, by decide +kernel, by decide +kernel⟩ (Nat.le_of_ble_eq_true rfl) qw_740 qw_739 dX10_query_194 rfl rfl) <| z_cons (ok_istore (Nat.le_of_ble_eq_true rfl) dX10_query_197 rfl rfl) <| z_cons (ok_aload_n dX10_query_199 rfl rfl) <| z_cons (ok_getr (k := 0) ⟨by decide, by decide, by decide⟩ (ci := 8) (T := TX10) rfl rfl (Nat.le_of_ble_eq_true rfl) iw_X10 qw_616 gr_11_0 (fun _ _ => by simp) (fun w i => List.mem_of_getElem? (i := 0) rfl) dX10_query_200 rfl rfl) <| z_cons (ok_iload dX10_query_203 rfl rfl) <| z_cons (ok_iload_n dX10_query_205 rfl rfl) <| z_cons (ok_iast dX10_query_206 rfl rfl) <| z_cons (ok_aload_n dX10_query_207 rfl rfl) <| zl_X10_query_3
set_option maxRecDepth 20000 in
theorem zl_X10_query_1 : z_All z_tab cX10_query 7 none RX10 pc_X10_query 40 (k_X10_query.drop 40) := z_cons (ok_callS (k := 207) (n := 3) qw_738 qw_618 ⟨by decide +kernel, by decide +kernel, by decide +kernel⟩ (Nat.le_of_ble_eq_true rfl) qw_740 qw_739 dX10_query_68 rfl rfl) <| z_cons (ok_iconst (by decide) dX10_query_71 rfl rfl) <| z_cons (ok_isub dX10_query_72 rfl rfl) <| z_cons (ok_istore (Nat.le_of_ble_eq_true rfl) dX10_query_73 rfl rfl) <| z_cons (ok_iload dX10_query_75 rfl rfl) <| z_cons (ok_sipush (by decide) dX10_query_77 rfl rfl) <| z_cons (ok_iload_n dX10_query_80 rfl rfl) <| z_cons (ok_iconst (by decide) dX10_query_81 rfl rfl) <| z_cons (ok_callS (k := 207) (n := 3) qw_738 qw_618 ⟨by decide +kernel, by decide +kernel, by decide +kernel⟩ (Nat.le_of_ble_eq_true rfl) qw_740 qw_739 dX10_query_82 rfl rfl) <| z_cons (ok_icmp_lt (tgt := 110) (by decide) rfl dX10_query_85 rfl rfl) <| z_cons (ok_aload_n dX10_query_88 rfl rfl) <| z_cons (ok_getr (k := 0) ⟨by decide, by decide, by decide⟩ (ci := 8) (T := TX10) rfl rfl (Nat.le_of_ble_eq_true rfl) iw_X10 qw_616 gr_11_0 (fun _ _ => by simp) (fun w i => List.mem_of_getElem? (i := 0) rfl) dX10_query_89 rfl rfl) <| z_cons (ok_iload dX10_query_92 rfl rfl) <| z_cons (ok_iconst (by decide) dX10_query_94 rfl rfl) <| z_cons (ok_iadd dX10_query_95 rfl rfl) <| z_cons (ok_aload_n dX10_query_96 rfl rfl) <| z_cons (ok_getr (k := 0) ⟨by decide, by decide, by decide⟩ (ci := 8) (T := TX10) rfl rfl (Nat.le_of_ble_eq_true rfl) iw_X10 qw_616 gr_11_0 (fun _ _ => by simp) (fun w i => List.mem_of_getElem? (i := 0) rfl) dX10_query_97 rfl rfl) <| z_cons (ok_iload dX10_query_100 rfl rfl) <| z_cons (ok_iald dX10_query_102 rfl rfl) <| z_cons (ok_iast dX10_query_103 rfl rfl) <| z_cons (ok_iinc (by decide) (Nat.le_of_ble_eq_true rfl) dX10_query_104 rfl rfl) <| z_cons (ok_goto (tgt := 75) (by decide) rfl dX10_query_107 rfl) <| z_cons (ok_iconst (by decide) dX10_query_110 rfl rfl) <| z_cons (ok_istore (Nat.le_of_ble_eq_true rfl) dX10_query_111 rfl rfl) <| z_cons (ok_iload dX10_query_113 rfl rfl) <| z_cons (ok_iconst (by decide) dX10_query_115 rfl rfl) <| z_cons (ok_icmp_ge (tgt := 165) (by decide) rfl dX10_query_116 rfl rfl) <| z_cons (ok_aload_n dX10_query_119 rfl rfl) <| z_cons (ok_getr (k := 0) ⟨by decide, by decide, by decide⟩ (ci := 8) (T := TX10) rfl rfl (Nat.le_of_ble_eq_true rfl) iw_X10 qw_616 gr_11_0 (fun _ _ => by simp) (fun w i => List.mem_of_getElem? (i := 0) rfl) dX10_query_120 rfl rfl) <| z_cons (ok_sipush (by decide) dX10_query_123 rfl rfl) <| z_cons (ok_iload_n dX10_query_126 rfl rfl) <| z_cons (ok_iload dX10_query_127 rfl rfl) <| z_cons (ok_callS (k := 207) (n := 3) qw_738 qw_618 ⟨by decide +kernel, by decide +kernel, by decide +kernel⟩ (Nat.le_of_ble_eq_true rfl) qw_740 qw_739 dX10_query_129 rfl rfl) <| z_cons (ok_iload_n dX10_query_132 rfl rfl) <| z_cons (ok_iconst (by decide) dX10_query_133 rfl rfl) <| z_cons (ok_iadd dX10_query_134 rfl rfl) <| z_cons (ok_iast dX10_query_135 rfl rfl) <| z_cons (ok_aload_n dX10_query_136 rfl rfl) <| z_cons (ok_getr (k := 0) ⟨by decide, by decide, by decide⟩ (ci := 8) (T := TX10) rfl rfl (Nat.le_of_ble_eq_true rfl) iw_X10 qw_616 gr_11_0 (fun _ _ => by simp) (fun w i => List.mem_of_getElem? (i := 0) rfl) dX10_query_137 rfl rfl) <| z_cons (ok_sipush (by decide) dX10_query_140 rfl rfl) <| zl_X10_query_2
set_option maxRecDepth 20000 in
theorem zl_X10_query_0 : z_All z_tab cX10_query 7 none RX10 pc_X10_query 0 (k_X10_query.drop 0) := z_cons (ok_aload_n dX10_query_0 rfl rfl) <| z_cons (ok_getr (k := 0) ⟨by decide, by decide, by decide⟩ (ci := 8) (T := TX10) rfl rfl (Nat.le_of_ble_eq_true rfl) iw_X10 qw_616 gr_11_0 (fun _ _ => by simp) (fun w i => List.mem_of_getElem? (i := 0) rfl) dX10_query_1 rfl rfl) <| z_cons (ok_sipush (by decide) dX10_query_4 rfl rfl) <| z_cons (ok_iload_n dX10_query_7 rfl rfl) <| z_cons (ok_iadd dX10_query_8 rfl rfl) <| z_cons (ok_iald dX10_query_9 rfl rfl) <| z_cons (ok_istore_n (Nat.le_of_ble_eq_true rfl) dX10_query_10 rfl rfl) <| z_cons (ok_aload_n dX10_query_11 rfl rfl) <| z_cons (ok_getr (k := 0) ⟨by decide, by decide, by decide⟩ (ci := 8) (T := TX10) rfl rfl (Nat.le_of_ble_eq_true rfl) iw_X10 qw_616 gr_11_0 (fun _ _ => by simp) (fun w i => List.mem_of_getElem? (i := 0) rfl) dX10_query_12 rfl rfl) <| z_cons (ok_sipush (by decide) dX10_query_15 rfl rfl) <| z_cons (ok_iload_n dX10_query_18 rfl rfl) <| z_cons (ok_iconst (by decide) dX10_query_19 rfl rfl) <| z_cons (ok_callS (k := 207) (n := 3) qw_738 qw_618 ⟨by decide +kernel, by decide +kernel, by decide +kernel⟩ (Nat.le_of_ble_eq_true rfl) qw_740 qw_739 dX10_query_20 rfl rfl) <| z_cons (ok_iald dX10_query_23 rfl rfl) <| z_cons (ok_istore_n (Nat.le_of_ble_eq_true rfl) dX10_query_24 rfl rfl) <| z_cons (ok_aload_n dX10_query_25 rfl rfl) <| z_cons (ok_getr (k := 0) ⟨by decide, by decide, by decide⟩ (ci := 8) (T := TX10) rfl rfl (Nat.le_of_ble_eq_true rfl) iw_X10 qw_616 gr_11_0 (fun _ _ => by simp) (fun w i => List.mem_of_getElem? (i := 0) rfl) dX10_query_26 rfl rfl) <| z_cons (ok_sipush (by decide) dX10_query_29 rfl rfl) <| z_cons (ok_iload_n dX10_query_32 rfl rfl) <| z_cons (ok_iconst (by decide) dX10_query_33 rfl rfl) <| z_cons (ok_callS (k := 207) (n := 3) qw_738 qw_618 ⟨by decide +kernel, by decide +kernel, by decide +kernel⟩ (Nat.le_of_ble_eq_true rfl) qw_740 qw_739 dX10_query_34 rfl rfl) <| z_cons (ok_iconst (by decide) dX10_query_37 rfl rfl) <| z_cons (ok_iadd dX10_query_38 rfl rfl) <| z_cons (ok_iald dX10_query_39 rfl rfl) <| z_cons (ok_istore (Nat.le_of_ble_eq_true rfl) dX10_query_40 rfl rfl) <| z_cons (ok_aload_n dX10_query_42 rfl rfl) <| z_cons (ok_iload_n dX10_query_43 rfl rfl) <| z_cons (ok_iload_n dX10_query_44 rfl rfl) <| z_cons (ok_iload dX10_query_45 rfl rfl) <| z_cons (ok_callv ⟨by decide, by decide, by decide⟩ (ci := 8) (C := RX10) (T := TX10) rfl go_11 (k := 211) (n := 3) qw_751 qw_618 ⟨by decide +kernel, by decide +kernel, by decide +kernel⟩ (Nat.le_of_ble_eq_true rfl) qw_752 qw_753 qw_754 dX10_query_47 rfl rfl) <| z_cons (ok_aload_n dX10_query_50 rfl rfl) <| z_cons (ok_get ⟨by decide, by decide, by decide⟩ (ci := 8) (T := TX10) rfl rfl (Nat.le_of_ble_eq_true rfl) iw_X10 qw_745 gv_11_5 dX10_query_51 rfl rfl) <| z_cons (ok_iconst (by decide) dX10_query_54 rfl rfl) <| z_cons (ok_icmp_le (tgt := 180) (by decide) rfl dX10_query_55 rfl rfl) <| z_cons (ok_aload_n dX10_query_58 rfl rfl) <| z_cons (ok_iload_n dX10_query_59 rfl rfl) <| z_cons (ok_callv ⟨by decide, by decide, by decide⟩ (ci := 8) (C := RX10) (T := TX10) rfl go_11 (k := 213) (n := 1) qw_763 qw_618 ⟨by decide +kernel, by decide +kernel, by decide +kernel⟩ (Nat.le_of_ble_eq_true rfl) qw_764 qw_765 qw_766 dX10_query_60 rfl rfl) <| z_cons (ok_sipush (by decide) dX10_query_63 rfl rfl) <| z_cons (ok_iload_n dX10_query_66 rfl rfl) <| z_cons (ok_iload_n dX10_query_67 rfl rfl) <| zl_X10_query_1
