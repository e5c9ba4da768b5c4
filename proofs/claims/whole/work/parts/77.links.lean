/-! every method is linked -/
theorem z_All_get {tab : Nat → zT} {b : ByteArray} {nL : Nat} {ret : Option FieldType} {own : String} {pcs : List Nat} : ∀ (l : List zOp) (n : Nat), z_All tab b nL ret own pcs n l → ∀ (i : Nat) (op : zOp), l[i]? = some op → z_OpOk tab b nL ret own pcs (n + i) op
  | [], _, _, i, op, h => by simp at h
  | a :: l, n, hA, 0, op, h => by
    have e : a = op := by simpa using h
    rw [← e]
    exact hA.1
  | a :: l, n, hA, i + 1, op, h => by
    have h2 := z_All_get l (n + 1) hA.2 i op (by simpa using h)
    rw [show n + (i + 1) = n + 1 + i by omega]
    exact h2
def z_fds : List String := ["(D)D", "(DD)D", "(DDD)D", "(F)F", "(FF)F", "(FFF)F"]
theorem z_mrows : (Jvm.natives.all fun r => r.cls != "java/lang/Math" || z_fds.contains r.desc) = true := by decide +kernel
theorem z_mathPlain {x : MethodName} (hc : x.cls = "java/lang/Math") (hd : z_fds.contains x.desc = false) : plainFor x = true := by
  unfold plainFor
  rw [Bool.or_eq_true]; right
  rw [Option.isNone_iff_eq_none, NativeRow.find?, List.find?_eq_none]
  intro r hr h
  have := List.all_eq_true.mp z_mrows r hr
  simp only [Bool.and_eq_true, beq_iff_eq] at h
  rw [h.1.2, h.2, hc, hd] at this
  simp at this
theorem z_lk {k : Nat} {b : ByteArray} {nL : Nat} {ret : Option FieldType} {y : MethodName} {pcs : List Nat} {l : List zOp} (h1 : plainFor y = true) (ht : z_tab k = (y, b, nL, ret)) (hl : (z_cods.getD (k / 16) []).getD (k % 16) [] = l) (hp : pcs.getD 0 0 = 0) (hA : z_All z_tab b nL ret y.cls pcs 0 l) : z_Link k := by
  refine ⟨by rw [ht]; exact h1, pcs, hp, fun i op ho => ?_⟩
  rw [hl] at ho
  rw [ht]
  have h := z_All_get l 0 hA i op ho
  rw [Nat.zero_add] at h
  exact h
def z_LA (n m : Nat) : Prop := ∀ k, n ≤ k → k < n + m → z_Link k
theorem z_LA0 {n : Nat} : z_LA n 0 := fun k h1 h2 => by omega
theorem z_LA1 {n m : Nat} (h : z_Link n) (h2 : z_LA (n + 1) m) : z_LA n (m + 1) := fun k h3 h4 => by
  rcases Nat.eq_or_lt_of_le h3 with e | e
  · rw [← e]; exact h
  · exact h2 k e (by omega)
theorem zk_0 : z_Link 0 := z_lk (y := yX0_cell) (plainFor_of_name (by decide +kernel)) rfl rfl rfl zl_X0_cell_0
theorem zk_1 : z_Link 1 := z_lk (y := yX0_fill) (plainFor_of_name (by decide +kernel)) rfl rfl rfl zl_X0_fill_0
theorem zk_2 : z_Link 2 := z_lk (y := yX0_choose) (plainFor_of_name (by decide +kernel)) rfl rfl rfl zl_X0_choose_0
theorem zk_3 : z_Link 3 := z_lk (y := yX0_inRow) (plainFor_of_name (by decide +kernel)) rfl rfl rfl zl_X0_inRow_0
theorem zk_4 : z_Link 4 := z_lk (y := yX0_raised) (plainFor_of_name (by decide +kernel)) rfl rfl rfl zl_X0_raised_0
theorem zk_5 : z_Link 5 := z_lk (y := yX0_isKnown) (plainFor_of_name (by decide +kernel)) rfl rfl rfl zl_X0_isKnown_0
theorem zk_6 : z_Link 6 := z_lk (y := yX0_waysOf) (plainFor_of_name (by decide +kernel)) rfl rfl rfl zl_X0_waysOf_0
theorem zk_7 : z_Link 7 := z_lk (y := yX0_hopeAbove) (plainFor_of_name (by decide +kernel)) rfl rfl rfl zl_X0_hopeAbove_0
theorem zk_8 : z_Link 8 := z_lk (y := yX0_hopeOf) (plainFor_of_name (by decide +kernel)) rfl rfl rfl zl_X0_hopeOf_0
theorem zk_9 : z_Link 9 := z_lk (y := yX0_bestFor) (plainFor_of_name (by decide +kernel)) rfl rfl rfl zl_X0_bestFor_0
theorem zk_10 : z_Link 10 := z_lk (y := yX0_hopeInSixteenths) (plainFor_of_name (by decide +kernel)) rfl rfl rfl zl_X0_hopeInSixteenths_0
theorem zk_11 : z_Link 11 := z_lk (y := yX0_guessBy) (plainFor_of_name (by decide +kernel)) rfl rfl rfl zl_X0_guessBy_0
theorem zk_12 : z_Link 12 := z_lk (y := yX1_add) (plainFor_of_name (by decide +kernel)) rfl rfl rfl zl_X1_add_0
theorem zk_13 : z_Link 13 := z_lk (y := yX1_tells) (plainFor_of_name (by decide +kernel)) rfl rfl rfl zl_X1_tells_0
theorem zk_14 : z_Link 14 := z_lk (y := yX1_copyFrom) (plainFor_of_name (by decide +kernel)) rfl rfl rfl zl_X1_copyFrom_0
theorem zk_15 : z_Link 15 := z_lk (y := yX2_lengthOf) (plainFor_of_name (by decide +kernel)) rfl rfl rfl zl_X2_lengthOf_0
theorem zk_16 : z_Link 16 := z_lk (y := yX2_bitsOf) (plainFor_of_name (by decide +kernel)) rfl rfl rfl zl_X2_bitsOf_0
theorem zk_17 : z_Link 17 := z_lk (y := yX2_longer) (plainFor_of_name (by decide +kernel)) rfl rfl rfl zl_X2_longer_0
theorem zk_18 : z_Link 18 := z_lk (y := yX2_begins) (plainFor_of_name (by decide +kernel)) rfl rfl rfl zl_X2_begins_0
theorem zk_19 : z_Link 19 := z_lk (y := yX2_clear) (plainFor_of_name (by decide +kernel)) rfl rfl rfl zl_X2_clear_0
theorem zk_20 : z_Link 20 := z_lk (y := yX2_add) (plainFor_of_name (by decide +kernel)) rfl rfl rfl zl_X2_add_0
theorem zk_21 : z_Link 21 := z_lk (y := yX2_takeLast) (plainFor_of_name (by decide +kernel)) rfl rfl rfl zl_X2_takeLast_0
theorem zk_22 : z_Link 22 := z_lk (y := yX2_at) (plainFor_of_name (by decide +kernel)) rfl rfl rfl zl_X2_at_0
theorem zk_23 : z_Link 23 := z_lk (y := yX2_tells) (plainFor_of_name (by decide +kernel)) rfl rfl rfl zl_X2_tells_0
theorem zk_24 : z_Link 24 := z_lk (y := yX2_backwardsFrom) (plainFor_of_name (by decide +kernel)) rfl rfl rfl zl_X2_backwardsFrom_0
theorem zk_25 : z_Link 25 := z_lk (y := yX2_joinedFrom) (plainFor_of_name (by decide +kernel)) rfl rfl rfl zl_X2_joinedFrom_0
theorem zk_26 : z_Link 26 := z_lk (y := yX2_endsInEmptyPair) (plainFor_of_name (by decide +kernel)) rfl rfl rfl zl_X2_endsInEmptyPair_0
theorem zk_27 : z_Link 27 := z_lk (y := yX2_copyFrom) (plainFor_of_name (by decide +kernel)) rfl rfl rfl zl_X2_copyFrom_0
theorem zk_28 : z_Link 28 := z_lk (y := yX3_isFree) (plainFor_of_name (by decide +kernel)) rfl rfl rfl zl_X3_isFree_0
theorem zk_29 : z_Link 29 := z_lk (y := yX3_hasSlots) (plainFor_of_name (by decide +kernel)) rfl rfl rfl zl_X3_hasSlots_0
theorem zk_30 : z_Link 30 := z_lk (y := yX3_qByQf) (plainFor_of_name (by decide +kernel)) rfl rfl rfl zl_X3_qByQf_0
theorem zk_31 : z_Link 31 := z_lk (y := yX3_tell) (plainFor_of_name (by decide +kernel)) rfl rfl rfl zl_X3_tell_0
theorem zk_32 : z_Link 32 := z_lk (y := yX3_start) (plainFor_of_name (by decide +kernel)) rfl rfl rfl zl_X3_start_0
theorem zk_33 : z_Link 33 := z_lk (y := yX3_rest) (plainFor_of_name (by decide +kernel)) rfl rfl rfl zl_X3_rest_0
theorem zk_34 : z_Link 34 := z_lk (y := yX3_noteRead) (plainFor_of_name (by decide +kernel)) rfl rfl rfl zl_X3_noteRead_0
theorem zk_35 : z_Link 35 := z_lk (y := yX3_readSet) (plainFor_of_name (by decide +kernel)) rfl rfl rfl zl_X3_readSet_0
theorem zk_36 : z_Link 36 := z_lk (y := yX3_share) (plainFor_of_name (by decide +kernel)) rfl rfl rfl zl_X3_share_0
theorem zk_37 : z_Link 37 := z_lk (y := yX3_tells) (plainFor_of_name (by decide +kernel)) rfl rfl rfl zl_X3_tells_0
theorem zk_38 : z_Link 38 := z_lk (y := yX3_tellsLatest) (plainFor_of_name (by decide +kernel)) rfl rfl rfl zl_X3_tellsLatest_0
theorem zk_39 : z_Link 39 := z_lk (y := yX3_copyFrom) (plainFor_of_name (by decide +kernel)) rfl rfl rfl zl_X3_copyFrom_0
theorem zk_40 : z_Link 40 := z_lk (y := yX4_start) (plainFor_of_name (by decide +kernel)) rfl rfl rfl zl_X4_start_0
theorem zk_41 : z_Link 41 := z_lk (y := yX4_interrupt) (plainFor_of_name (by decide +kernel)) rfl rfl rfl zl_X4_interrupt_0
theorem zk_42 : z_Link 42 := z_lk (y := yX4_ask) (plainFor_of_name (by decide +kernel)) rfl rfl rfl zl_X4_ask_0
theorem zk_43 : z_Link 43 := z_lk (y := yX4_newFrame) (plainFor_of_name (by decide +kernel)) rfl rfl rfl zl_X4_newFrame_0
theorem zk_44 : z_Link 44 := z_lk (y := yX4_inSlotZero) (plainFor_of_name (by decide +kernel)) rfl rfl rfl zl_X4_inSlotZero_0
theorem zk_45 : z_Link 45 := z_lk (y := yX4_begunBy) (plainFor_of_name (by decide +kernel)) rfl rfl rfl zl_X4_begunBy_0
theorem zk_46 : z_Link 46 := z_lk (y := yX4_hear) (plainFor_of_name (by decide +kernel)) rfl rfl rfl zl_X4_hear_0
theorem zk_47 : z_Link 47 := z_lk (y := yX4_readTag) (plainFor_of_name (by decide +kernel)) rfl rfl rfl zl_X4_readTag_0
theorem zk_48 : z_Link 48 := z_lk (y := yX4_afterSlot) (plainFor_of_name (by decide +kernel)) rfl rfl rfl zl_X4_afterSlot_0
theorem zk_49 : z_Link 49 := z_lk (y := yX4_stepQf) (plainFor_of_name (by decide +kernel)) rfl rfl rfl zl_X4_stepQf_0
theorem zk_50 : z_Link 50 := z_lk (y := yX4_qByGuess) (plainFor_of_name (by decide +kernel)) rfl rfl rfl zl_X4_qByGuess_0
theorem zk_51 : z_Link 51 := z_lk (y := yX4_dropSlots) (plainFor_of_name (by decide +kernel)) rfl rfl rfl zl_X4_dropSlots_0
theorem zk_52 : z_Link 52 := z_lk (y := yX4_countDown) (plainFor_of_name (by decide +kernel)) rfl rfl rfl zl_X4_countDown_0
theorem zk_53 : z_Link 53 := z_lk (y := yX4_afterQuery) (plainFor_of_name (by decide +kernel)) rfl rfl rfl zl_X4_afterQuery_0
theorem zk_54 : z_Link 54 := z_lk (y := yX4_finish) (plainFor_of_name (by decide +kernel)) rfl rfl rfl zl_X4_finish_0
theorem zk_55 : z_Link 55 := z_lk (y := yX4_releaseAll) (plainFor_of_name (by decide +kernel)) rfl rfl rfl zl_X4_releaseAll_0
theorem zk_56 : z_Link 56 := z_lk (y := yX5_channelTold) (plainFor_of_name (by decide +kernel)) rfl rfl rfl zl_X5_channelTold_0
theorem zk_57 : z_Link 57 := z_lk (y := yX5_fewestChannels) (plainFor_of_name (by decide +kernel)) rfl rfl rfl zl_X5_fewestChannels_0
theorem zk_58 : z_Link 58 := z_lk (y := yX5_channelIn) (plainFor_of_name (by decide +kernel)) rfl rfl rfl zl_X5_channelIn_0
theorem zk_59 : z_Link 59 := z_lk (y := yX5_greatestIn) (plainFor_of_name (by decide +kernel)) rfl rfl rfl zl_X5_greatestIn_0
theorem zk_60 : z_Link 60 := z_lk (y := yX5_fits) (plainFor_of_name (by decide +kernel)) rfl rfl rfl zl_X5_fits_0
theorem zk_61 : z_Link 61 := z_lk (y := yX5_sharedPairs) (plainFor_of_name (by decide +kernel)) rfl rfl rfl zl_X5_sharedPairs_0
theorem zk_62 : z_Link 62 := z_lk (y := yX5_fewestReaders) (plainFor_of_name (by decide +kernel)) rfl rfl rfl zl_X5_fewestReaders_0
theorem zk_63 : z_Link 63 := z_lk (y := yX5_covers) (plainFor_of_name (by decide +kernel)) rfl rfl rfl zl_X5_covers_0
theorem zk_64 : z_Link 64 := z_lk (y := yX5_treeQueries) (plainFor_of_name (by decide +kernel)) rfl rfl rfl zl_X5_treeQueries_0
theorem zk_65 : z_Link 65 := z_lk (y := yX5_firstUnlike) (plainFor_of_name (by decide +kernel)) rfl rfl rfl zl_X5_firstUnlike_0
theorem zk_66 : z_Link 66 := z_lk (y := yX5_valuesIn) (plainFor_of_name (by decide +kernel)) rfl rfl rfl zl_X5_valuesIn_0
theorem zk_67 : z_Link 67 := z_lk (y := yX5_isBefore) (plainFor_of_name (by decide +kernel)) rfl rfl rfl zl_X5_isBefore_0
theorem zk_68 : z_Link 68 := z_lk (y := yX5_sharpTold) (plainFor_of_name (by decide +kernel)) rfl rfl rfl zl_X5_sharpTold_0
theorem zk_69 : z_Link 69 := z_lk (y := yX5_sharpSpan) (plainFor_of_name (by decide +kernel)) rfl rfl rfl zl_X5_sharpSpan_0
theorem zk_70 : z_Link 70 := z_lk (y := yX5_areUnlike) (plainFor_of_name (by decide +kernel)) rfl rfl rfl zl_X5_areUnlike_0
theorem zk_71 : z_Link 71 := z_lk (y := yX5_leastTold) (plainFor_of_name (by decide +kernel)) rfl rfl rfl zl_X5_leastTold_0
theorem zk_72 : z_Link 72 := z_lk (y := yX5_told) (plainFor_of_name (by decide +kernel)) rfl rfl rfl zl_X5_told_0
theorem zk_73 : z_Link 73 := z_lk (y := yX5_firstSelected) (plainFor_of_name (by decide +kernel)) rfl rfl rfl zl_X5_firstSelected_0
theorem zk_74 : z_Link 74 := z_lk (y := yX5_leastSpan) (plainFor_of_name (by decide +kernel)) rfl rfl rfl zl_X5_leastSpan_0
theorem zk_75 : z_Link 75 := z_lk (y := yX5_selectsJust) (plainFor_of_name (by decide +kernel)) rfl rfl rfl zl_X5_selectsJust_0
theorem zk_76 : z_Link 76 := z_lk (y := yX6_arrive) (plainFor_of_name (by decide +kernel)) rfl rfl rfl zl_X6_arrive_0
theorem zk_77 : z_Link 77 := z_lk (y := yX6_leave) (plainFor_of_name (by decide +kernel)) rfl rfl rfl zl_X6_leave_0
theorem zk_78 : z_Link 78 := z_lk (y := yX6_release) (plainFor_of_name (by decide +kernel)) rfl rfl rfl zl_X6_release_0
theorem zk_79 : z_Link 79 := z_lk (y := yX6_id) (plainFor_of_name (by decide +kernel)) rfl rfl rfl zl_X6_id_0
theorem zk_80 : z_Link 80 := z_lk (y := yX6_span) (plainFor_of_name (by decide +kernel)) rfl rfl rfl zl_X6_span_0
theorem zk_81 : z_Link 81 := z_lk (y := yX6_flag) (plainFor_of_name (by decide +kernel)) rfl rfl rfl zl_X6_flag_0
theorem zk_82 : z_Link 82 := z_lk (y := yX6_isReachedBy) (plainFor_of_name (by decide +kernel)) rfl rfl rfl zl_X6_isReachedBy_0
theorem zk_83 : z_Link 83 := z_lk (y := yX6_hasPower) (plainFor_of_name (by decide +kernel)) rfl rfl rfl zl_X6_hasPower_0
theorem zk_84 : z_Link 84 := z_lk (y := yX6_setFlag) (plainFor_of_name (by decide +kernel)) rfl rfl rfl zl_X6_setFlag_0
theorem zk_85 : z_Link 85 := z_lk (y := yX6_tells) (plainFor_of_name (by decide +kernel)) rfl rfl rfl zl_X6_tells_0
theorem zk_86 : z_Link 86 := z_lk (y := yX6_copyFrom) (plainFor_of_name (by decide +kernel)) rfl rfl rfl zl_X6_copyFrom_0
theorem zk_87 : z_Link 87 := z_lk (y := yX7_clear) (plainFor_of_name (by decide +kernel)) rfl rfl rfl zl_X7_clear_0
theorem zk_88 : z_Link 88 := z_lk (y := yX7_add) (plainFor_of_name (by decide +kernel)) rfl rfl rfl zl_X7_add_0
theorem zk_89 : z_Link 89 := z_lk (y := yX7_sum) (plainFor_of_name (by decide +kernel)) rfl rfl rfl zl_X7_sum_0
theorem zk_90 : z_Link 90 := z_lk (y := yX7_copyFrom) (plainFor_of_name (by decide +kernel)) rfl rfl rfl zl_X7_copyFrom_0
theorem zk_91 : z_Link 91 := z_lk (y := yX8_tagAt) (plainFor_of_name (by decide +kernel)) rfl rfl rfl zl_X8_tagAt_0
theorem zk_92 : z_Link 92 := z_lk (y := yX8_readerAt) (plainFor_of_name (by decide +kernel)) rfl rfl rfl zl_X8_readerAt_0
theorem zk_93 : z_Link 93 := z_lk (y := yX8_write) (plainFor_of_name (by decide +kernel)) rfl rfl rfl zl_X8_write_0
theorem zk_94 : z_Link 94 := z_lk (y := yX8_draw) (plainFor_of_name (by decide +kernel)) rfl rfl rfl zl_X8_draw_0
theorem zk_95 : z_Link 95 := z_lk (y := yX8_tellSpan) (plainFor_of_name (by decide +kernel)) rfl rfl rfl zl_X8_tellSpan_0
theorem zk_96 : z_Link 96 := z_lk (y := yX8_come) (plainFor_of_name (by decide +kernel)) rfl rfl rfl zl_X8_come_0
theorem zk_97 : z_Link 97 := z_lk (y := yX8_carry) (plainFor_of_name (by decide +kernel)) rfl rfl rfl zl_X8_carry_0
theorem zk_98 : z_Link 98 := z_lk (y := yX8_turnReader) (plainFor_of_name (by decide +kernel)) rfl rfl rfl zl_X8_turnReader_0
theorem zk_99 : z_Link 99 := z_lk (y := yX8_settlePower) (plainFor_of_name (by decide +kernel)) rfl rfl rfl zl_X8_settlePower_0
theorem zk_100 : z_Link 100 := z_lk (y := yX8_fade) (plainFor_of_name (by decide +kernel)) rfl rfl rfl zl_X8_fade_0
theorem zk_101 : z_Link 101 := z_lk (y := yX8_fadesAt) (plainFor_of_name (by decide +kernel)) rfl rfl rfl zl_X8_fadesAt_0
theorem zk_102 : z_Link 102 := z_lk (y := yX8_ticksToFade) (plainFor_of_name (by decide +kernel)) rfl rfl rfl zl_X8_ticksToFade_0
theorem zk_103 : z_Link 103 := z_lk (y := yX8_fadeByTime) (plainFor_of_name (by decide +kernel)) rfl rfl rfl zl_X8_fadeByTime_0
theorem zk_104 : z_Link 104 := z_lk (y := yX8_hasRunOut) (plainFor_of_name (by decide +kernel)) rfl rfl rfl zl_X8_hasRunOut_0
theorem zk_105 : z_Link 105 := z_lk (y := yX8_pass) (plainFor_of_name (by decide +kernel)) rfl rfl rfl zl_X8_pass_0
theorem zk_106 : z_Link 106 := z_lk (y := yX8_selectBy) (plainFor_of_name (by decide +kernel)) rfl rfl rfl zl_X8_selectBy_0
theorem zk_107 : z_Link 107 := z_lk (y := yX8_change) (plainFor_of_name (by decide +kernel)) rfl rfl rfl zl_X8_change_0
theorem zk_108 : z_Link 108 := z_lk (y := yX8_putBits) (plainFor_of_name (by decide +kernel)) rfl rfl rfl zl_X8_putBits_0
theorem zk_109 : z_Link 109 := z_lk (y := yX8_stockOf) (plainFor_of_name (by decide +kernel)) rfl rfl rfl zl_X8_stockOf_0
theorem zk_110 : z_Link 110 := z_lk (y := yX8_powered) (plainFor_of_name (by decide +kernel)) rfl rfl rfl zl_X8_powered_0
theorem zk_111 : z_Link 111 := z_lk (y := yX8_tagsThere) (plainFor_of_name (by decide +kernel)) rfl rfl rfl zl_X8_tagsThere_0
theorem zk_112 : z_Link 112 := z_lk (y := yX8_tagsOf) (plainFor_of_name (by decide +kernel)) rfl rfl rfl zl_X8_tagsOf_0
theorem zk_113 : z_Link 113 := z_lk (y := yX8_tagsJammed) (plainFor_of_name (by decide +kernel)) rfl rfl rfl zl_X8_tagsJammed_0
theorem zk_114 : z_Link 114 := z_lk (y := yX8_isJammed) (plainFor_of_name (by decide +kernel)) rfl rfl rfl zl_X8_isJammed_0
theorem zk_115 : z_Link 115 := z_lk (y := yX8_readersOn) (plainFor_of_name (by decide +kernel)) rfl rfl rfl zl_X8_readersOn_0
theorem zk_116 : z_Link 116 := z_lk (y := yX8_readersTaking) (plainFor_of_name (by decide +kernel)) rfl rfl rfl zl_X8_readersTaking_0
theorem zk_117 : z_Link 117 := z_lk (y := yX8_tells) (plainFor_of_name (by decide +kernel)) rfl rfl rfl zl_X8_tells_0
theorem zk_118 : z_Link 118 := z_lk (y := yX8_tagsThat) (plainFor_of_name (by decide +kernel)) rfl rfl rfl zl_X8_tagsThat_0
theorem zk_119 : z_Link 119 := z_lk (y := yX8_copyFrom) (plainFor_of_name (by decide +kernel)) rfl rfl rfl zl_X8_copyFrom_0
theorem zk_120 : z_Link 120 := z_lk (y := yX9_set) (plainFor_of_name (by decide +kernel)) rfl rfl rfl zl_X9_set_0
theorem zk_121 : z_Link 121 := z_lk (y := yX9_state) (plainFor_of_name (by decide +kernel)) rfl rfl rfl zl_X9_state_0
theorem zk_122 : z_Link 122 := z_lk (y := yX9_tune) (plainFor_of_name (by decide +kernel)) rfl rfl rfl zl_X9_tune_0
theorem zk_123 : z_Link 123 := z_lk (y := yX9_tag) (plainFor_of_name (by decide +kernel)) rfl rfl rfl zl_X9_tag_0
theorem zk_124 : z_Link 124 := z_lk (y := yX9_gone) (plainFor_of_name (by decide +kernel)) rfl rfl rfl zl_X9_gone_0
theorem zk_125 : z_Link 125 := z_lk (y := yX9_move) (plainFor_of_name (by decide +kernel)) rfl rfl rfl zl_X9_move_0
theorem zk_126 : z_Link 126 := z_lk (y := yX9_power) (plainFor_of_name (by decide +kernel)) rfl rfl rfl zl_X9_power_0
theorem zk_127 : z_Link 127 := z_lk (y := yX9_select) (plainFor_of_name (by decide +kernel)) rfl rfl rfl zl_X9_select_0
theorem zk_128 : z_Link 128 := z_lk (y := yX9_put) (plainFor_of_name (by decide +kernel)) rfl rfl rfl zl_X9_put_0
theorem zk_129 : z_Link 129 := z_lk (y := yX9_begin) (plainFor_of_name (by decide +kernel)) rfl rfl rfl zl_X9_begin_0
theorem zk_130 : z_Link 130 := z_lk (y := yX9_stop) (plainFor_of_name (by decide +kernel)) rfl rfl rfl zl_X9_stop_0
theorem zk_131 : z_Link 131 := z_lk (y := yX9_tick) (plainFor_of_name (by decide +kernel)) rfl rfl rfl zl_X9_tick_0
theorem zk_132 : z_Link 132 := z_lk (y := yX9_tagOf) (plainFor_of_name (by decide +kernel)) rfl rfl rfl zl_X9_tagOf_0
theorem zk_133 : z_Link 133 := z_lk (y := yX9_bits) (plainFor_of_name (by decide +kernel)) rfl rfl rfl zl_X9_bits_0
theorem zk_134 : z_Link 134 := z_lk (y := yX9_reader) (plainFor_of_name (by decide +kernel)) rfl rfl rfl zl_X9_reader_0
theorem zk_135 : z_Link 135 := z_lk (y := yX9_prefix) (plainFor_of_name (by decide +kernel)) rfl rfl rfl zl_X9_prefix_0
theorem zk_136 : z_Link 136 := z_lk (y := yX9_learnt) (plainFor_of_name (by decide +kernel)) rfl rfl rfl zl_X9_learnt_0
theorem zk_137 : z_Link 137 := z_lk (y := yX9_jammed) (plainFor_of_name (by decide +kernel)) rfl rfl rfl zl_X9_jammed_0
theorem zk_138 : z_Link 138 := z_lk (y := yX9_channels) (plainFor_of_name (by decide +kernel)) rfl rfl rfl zl_X9_channels_0
theorem zk_139 : z_Link 139 := z_lk (y := yX9_cover) (plainFor_of_name (by decide +kernel)) rfl rfl rfl zl_X9_cover_0
theorem zk_140 : z_Link 140 := z_lk (y := yX9_read) (plainFor_of_name (by decide +kernel)) rfl rfl rfl zl_X9_read_0
theorem zk_141 : z_Link 141 := z_lk (y := yX9_wouldHave) (plainFor_of_name (by decide +kernel)) rfl rfl rfl zl_X9_wouldHave_0
theorem zk_142 : z_Link 142 := z_lk (y := yX9_queries) (plainFor_of_name (by decide +kernel)) rfl rfl rfl zl_X9_queries_0
theorem zk_143 : z_Link 143 := z_lk (y := yX9_ways) (plainFor_of_name (by decide +kernel)) rfl rfl rfl zl_X9_ways_0
theorem zk_144 : z_Link 144 := z_lk (y := yX9_hope) (plainFor_of_name (by decide +kernel)) rfl rfl rfl zl_X9_hope_0
theorem zk_145 : z_Link 145 := z_lk (y := yX9_best) (plainFor_of_name (by decide +kernel)) rfl rfl rfl zl_X9_best_0
theorem zk_146 : z_Link 146 := z_lk (y := yX9_guess) (plainFor_of_name (by decide +kernel)) rfl rfl rfl zl_X9_guess_0
theorem zk_147 : z_Link 147 := z_lk (y := yX9_least) (plainFor_of_name (by decide +kernel)) rfl rfl rfl zl_X9_least_0
theorem zk_148 : z_Link 148 := z_lk (y := yX9_sharp) (plainFor_of_name (by decide +kernel)) rfl rfl rfl zl_X9_sharp_0
theorem zk_149 : z_Link 149 := z_lk (y := yX9_values) (plainFor_of_name (by decide +kernel)) rfl rfl rfl zl_X9_values_0
theorem zk_150 : z_Link 150 := z_lk (y := yX9_fadesIn) (plainFor_of_name (by decide +kernel)) rfl rfl rfl zl_X9_fadesIn_0
theorem zk_151 : z_Link 151 := z_lk (y := yX9_both) (plainFor_of_name (by decide +kernel)) rfl rfl rfl zl_X9_both_0
theorem zk_152 : z_Link 152 := z_lk (y := yX9_open) (plainFor_of_name (by decide +kernel)) rfl rfl rfl zl_X9_open_0
theorem zk_153 : z_Link 153 := z_lk (y := yX9_apart) (plainFor_of_name (by decide +kernel)) rfl rfl rfl zl_X9_apart_0
theorem zk_154 : z_Link 154 := z_lk (y := yX9_log) (plainFor_of_name (by decide +kernel)) rfl rfl rfl zl_X9_log_0
theorem zk_155 : z_Link 155 := z_lk (y := yX9_never) (plainFor_of_name (by decide +kernel)) rfl rfl rfl zl_X9_never_0
theorem zk_156 : z_Link 156 := z_lk (y := yX9_count) (plainFor_of_name (by decide +kernel)) rfl rfl rfl zl_X9_count_0
theorem zk_157 : z_Link 157 := z_lk (y := yX9_look) (plainFor_of_name (by decide +kernel)) rfl rfl rfl zl_X9_look_0
theorem zk_158 : z_Link 158 := z_lk (y := yX9_isSpan) (plainFor_of_name (by decide +kernel)) rfl rfl rfl zl_X9_isSpan_0
theorem zk_159 : z_Link 159 := z_lk (y := yX9_isSet) (plainFor_of_name (by decide +kernel)) rfl rfl rfl zl_X9_isSet_0
theorem zk_160 : z_Link 160 := z_lk (y := yX9_lowest) (plainFor_of_name (by decide +kernel)) rfl rfl rfl zl_X9_lowest_0
theorem zk_161 : z_Link 161 := z_lk (y := yX9_commonDivisor) (plainFor_of_name (by decide +kernel)) rfl rfl rfl zl_X9_commonDivisor_0
theorem zk_162 : z_Link 162 := z_lk (y := yX10_isIn) (plainFor_of_name (by decide +kernel)) rfl rfl rfl zl_X10_isIn_0
theorem zk_163 : z_Link 163 := z_lk (y := yX10_has) (plainFor_of_name (by decide +kernel)) rfl rfl rfl zl_X10_has_0
theorem zk_164 : z_Link 164 := z_lk (y := yX10_copies) (plainFor_of_name (by decide +kernel)) rfl rfl rfl zl_X10_copies_0
theorem zk_165 : z_Link 165 := z_lk (y := yX10_clears) (plainFor_of_name (by decide +kernel)) rfl rfl rfl zl_X10_clears_0
theorem zk_166 : z_Link 166 := z_lk (y := yX10_isReader) (plainFor_of_name (by decide +kernel)) rfl rfl rfl zl_X10_isReader_0
theorem zk_167 : z_Link 167 := z_lk (y := yX10_isTag) (plainFor_of_name (by decide +kernel)) rfl rfl rfl zl_X10_isTag_0
theorem zk_168 : z_Link 168 := z_lk (y := yX10_counts) (plainFor_of_name (by decide +kernel)) rfl rfl rfl zl_X10_counts_0
theorem zk_169 : z_Link 169 := z_lk (y := yX10_logs) (plainFor_of_name (by decide +kernel)) rfl rfl rfl zl_X10_logs_0
theorem zk_170 : z_Link 170 := z_lk (y := yX10_draw) (plainFor_of_name (by decide +kernel)) rfl rfl rfl zl_X10_draw_0
theorem zk_171 : z_Link 171 := z_lk (y := yX10_idOf) (plainFor_of_name (by decide +kernel)) rfl rfl rfl zl_X10_idOf_0
theorem zk_172 : z_Link 172 := z_lk (y := yX10_reaches) (plainFor_of_name (by decide +kernel)) rfl rfl rfl zl_X10_reaches_0
theorem zk_173 : z_Link 173 := z_lk (y := yX10_hasPower) (plainFor_of_name (by decide +kernel)) rfl rfl rfl zl_X10_hasPower_0
theorem zk_174 : z_Link 174 := z_lk (y := yX10_flag) (plainFor_of_name (by decide +kernel)) rfl rfl rfl zl_X10_flag_0
theorem zk_175 : z_Link 175 := z_lk (y := yX10_turns) (plainFor_of_name (by decide +kernel)) rfl rfl rfl zl_X10_turns_0
theorem zk_176 : z_Link 176 := z_lk (y := yX10_fades) (plainFor_of_name (by decide +kernel)) rfl rfl rfl zl_X10_fades_0
theorem zk_177 : z_Link 177 := z_lk (y := yX10_looksAtPower) (plainFor_of_name (by decide +kernel)) rfl rfl rfl zl_X10_looksAtPower_0
theorem zk_178 : z_Link 178 := z_lk (y := yX10_fade) (plainFor_of_name (by decide +kernel)) rfl rfl rfl zl_X10_fade_0
theorem zk_179 : z_Link 179 := z_lk (y := yX10_set) (plainFor_of_name (by decide +kernel)) rfl rfl rfl zl_X10_set_0
theorem zk_180 : z_Link 180 := z_lk (y := yX10_state) (plainFor_of_name (by decide +kernel)) rfl rfl rfl zl_X10_state_0
theorem zk_181 : z_Link 181 := z_lk (y := yX10_tune) (plainFor_of_name (by decide +kernel)) rfl rfl rfl zl_X10_tune_0
theorem zk_182 : z_Link 182 := z_lk (y := yX10_isUnclean) (plainFor_of_name (by decide +kernel)) rfl rfl rfl zl_X10_isUnclean_0
theorem zk_183 : z_Link 183 := z_lk (y := yX10_tag) (plainFor_of_name (by decide +kernel)) rfl rfl rfl zl_X10_tag_0
theorem zk_184 : z_Link 184 := z_lk (y := yX10_gone) (plainFor_of_name (by decide +kernel)) rfl rfl rfl zl_X10_gone_0
theorem zk_185 : z_Link 185 := z_lk (y := yX10_isFree) (plainFor_of_name (by decide +kernel)) rfl rfl rfl zl_X10_isFree_0
theorem zk_186 : z_Link 186 := z_lk (y := yX10_move) (plainFor_of_name (by decide +kernel)) rfl rfl rfl zl_X10_move_0
theorem zk_187 : z_Link 187 := z_lk (y := yX10_ofIt) (plainFor_of_name (by decide +kernel)) rfl rfl rfl zl_X10_ofIt_0
theorem zk_188 : z_Link 188 := z_lk (y := yX10_frees) (plainFor_of_name (by decide +kernel)) rfl rfl rfl zl_X10_frees_0
theorem zk_189 : z_Link 189 := z_lk (y := yX10_breaks) (plainFor_of_name (by decide +kernel)) rfl rfl rfl zl_X10_breaks_0
theorem zk_190 : z_Link 190 := z_lk (y := yX10_power) (plainFor_of_name (by decide +kernel)) rfl rfl rfl zl_X10_power_0
theorem zk_191 : z_Link 191 := z_lk (y := yX10_stop) (plainFor_of_name (by decide +kernel)) rfl rfl rfl zl_X10_stop_0
theorem zk_192 : z_Link 192 := z_lk (y := yX10_lowest) (plainFor_of_name (by decide +kernel)) rfl rfl rfl zl_X10_lowest_0
theorem zk_193 : z_Link 193 := z_lk (y := yX10_bitsOf) (plainFor_of_name (by decide +kernel)) rfl rfl rfl zl_X10_bitsOf_0
theorem zk_194 : z_Link 194 := z_lk (y := yX10_isIdle) (plainFor_of_name (by decide +kernel)) rfl rfl rfl zl_X10_isIdle_0
theorem zk_195 : z_Link 195 := z_lk (y := yX10_deed) (plainFor_of_name (by decide +kernel)) rfl rfl rfl zl_X10_deed_0
theorem zk_196 : z_Link 196 := z_lk (y := yX10_does) (plainFor_of_name (by decide +kernel)) rfl rfl rfl zl_X10_does_0
theorem zk_197 : z_Link 197 := z_lk (y := yX10_select) (plainFor_of_name (by decide +kernel)) rfl rfl rfl zl_X10_select_0
theorem zk_198 : z_Link 198 := z_lk (y := yX10_put) (plainFor_of_name (by decide +kernel)) rfl rfl rfl zl_X10_put_0
theorem zk_199 : z_Link 199 := z_lk (y := yX10_wouldBe) (plainFor_of_name (by decide +kernel)) rfl rfl rfl zl_X10_wouldBe_0
theorem zk_200 : z_Link 200 := z_lk (y := yX10_canAsk) (plainFor_of_name (by decide +kernel)) rfl rfl rfl zl_X10_canAsk_0
theorem zk_201 : z_Link 201 := z_lk (y := yX10_means) (plainFor_of_name (by decide +kernel)) rfl rfl rfl zl_X10_means_0
theorem zk_202 : z_Link 202 := z_lk (y := yX10_queriesFrom) (plainFor_of_name (by decide +kernel)) rfl rfl rfl zl_X10_queriesFrom_0
theorem zk_203 : z_Link 203 := z_lk (y := yX10_begins) (plainFor_of_name (by decide +kernel)) rfl rfl rfl zl_X10_begins_0
theorem zk_204 : z_Link 204 := z_lk (y := yX10_qOf) (plainFor_of_name (by decide +kernel)) rfl rfl rfl zl_X10_qOf_0
theorem zk_205 : z_Link 205 := z_lk (y := yX10_framesAnew) (plainFor_of_name (by decide +kernel)) rfl rfl rfl zl_X10_framesAnew_0
theorem zk_206 : z_Link 206 := z_lk (y := yX10_isTree) (plainFor_of_name (by decide +kernel)) rfl rfl rfl zl_X10_isTree_0
theorem zk_207 : z_Link 207 := z_lk (y := yX10_prefixAt) (plainFor_of_name (by decide +kernel)) rfl rfl rfl zl_X10_prefixAt_0
theorem zk_208 : z_Link 208 := z_lk (y := yX10_begin) (plainFor_of_name (by decide +kernel)) rfl rfl rfl zl_X10_begin_0
theorem zk_209 : z_Link 209 := z_lk (y := yX10_reads) (plainFor_of_name (by decide +kernel)) rfl rfl rfl zl_X10_reads_0
theorem zk_210 : z_Link 210 := z_lk (y := yX10_isOver) (plainFor_of_name (by decide +kernel)) rfl rfl rfl zl_X10_isOver_0
theorem zk_211 : z_Link 211 := z_lk (y := yX10_gathers) (plainFor_of_name (by decide +kernel)) rfl rfl rfl zl_X10_gathers_0
theorem zk_212 : z_Link 212 := z_lk (y := yX10_isEmpty) (plainFor_of_name (by decide +kernel)) rfl rfl rfl zl_X10_isEmpty_0
theorem zk_213 : z_Link 213 := z_lk (y := yX10_clashes) (plainFor_of_name (by decide +kernel)) rfl rfl rfl zl_X10_clashes_0
theorem zk_214 : z_Link 214 := z_lk (y := yX10_slot) (plainFor_of_name (by decide +kernel)) rfl rfl rfl zl_X10_slot_0
theorem zk_215 : z_Link 215 := z_lk (y := yX10_endsFrame) (plainFor_of_name (by decide +kernel)) rfl rfl rfl zl_X10_endsFrame_0
theorem zk_216 : z_Link 216 := z_lk (y := yX10_query) (plainFor_of_name (by decide +kernel)) rfl rfl rfl zl_X10_query_0
theorem zk_217 : z_Link 217 := z_lk (y := yX10_joins) (plainFor_of_name (by decide +kernel)) rfl rfl rfl zl_X10_joins_0
theorem zk_218 : z_Link 218 := z_lk (y := yX10_learns) (plainFor_of_name (by decide +kernel)) rfl rfl rfl zl_X10_learns_0
theorem zk_219 : z_Link 219 := z_lk (y := yX10_isJammed) (plainFor_of_name (by decide +kernel)) rfl rfl rfl zl_X10_isJammed_0
theorem zk_220 : z_Link 220 := z_lk (y := yX10_ticks) (plainFor_of_name (by decide +kernel)) rfl rfl rfl zl_X10_ticks_0
theorem zk_221 : z_Link 221 := z_lk (y := yX10_tick) (plainFor_of_name (by decide +kernel)) rfl rfl rfl zl_X10_tick_0
theorem zk_222 : z_Link 222 := z_lk (y := yX10_tagOf) (plainFor_of_name (by decide +kernel)) rfl rfl rfl zl_X10_tagOf_0
theorem zk_223 : z_Link 223 := z_lk (y := yX10_bits) (plainFor_of_name (by decide +kernel)) rfl rfl rfl zl_X10_bits_0
theorem zk_224 : z_Link 224 := z_lk (y := yX10_divisor) (plainFor_of_name (by decide +kernel)) rfl rfl rfl zl_X10_divisor_0
theorem zk_225 : z_Link 225 := z_lk (y := yX10_slotsOf) (plainFor_of_name (by decide +kernel)) rfl rfl rfl zl_X10_slotsOf_0
theorem zk_226 : z_Link 226 := z_lk (y := yX10_reader) (plainFor_of_name (by decide +kernel)) rfl rfl rfl zl_X10_reader_0
theorem zk_227 : z_Link 227 := z_lk (y := yX10_prefix) (plainFor_of_name (by decide +kernel)) rfl rfl rfl zl_X10_prefix_0
theorem zk_228 : z_Link 228 := z_lk (y := yX10_learnt) (plainFor_of_name (by decide +kernel)) rfl rfl rfl zl_X10_learnt_0
theorem zk_229 : z_Link 229 := z_lk (y := yX10_jammed) (plainFor_of_name (by decide +kernel)) rfl rfl rfl zl_X10_jammed_0
theorem zk_230 : z_Link 230 := z_lk (y := yX10_clash) (plainFor_of_name (by decide +kernel)) rfl rfl rfl zl_X10_clash_0
theorem zk_231 : z_Link 231 := z_lk (y := yX10_channelOf) (plainFor_of_name (by decide +kernel)) rfl rfl rfl zl_X10_channelOf_0
theorem zk_232 : z_Link 232 := z_lk (y := yX10_greatestOf) (plainFor_of_name (by decide +kernel)) rfl rfl rfl zl_X10_greatestOf_0
theorem zk_233 : z_Link 233 := z_lk (y := yX10_fewestChannels) (plainFor_of_name (by decide +kernel)) rfl rfl rfl zl_X10_fewestChannels_0
theorem zk_234 : z_Link 234 := z_lk (y := yX10_channels) (plainFor_of_name (by decide +kernel)) rfl rfl rfl zl_X10_channels_0
theorem zk_235 : z_Link 235 := z_lk (y := yX10_manyOf) (plainFor_of_name (by decide +kernel)) rfl rfl rfl zl_X10_manyOf_0
theorem zk_236 : z_Link 236 := z_lk (y := yX10_cover) (plainFor_of_name (by decide +kernel)) rfl rfl rfl zl_X10_cover_0
theorem zk_237 : z_Link 237 := z_lk (y := yX10_read) (plainFor_of_name (by decide +kernel)) rfl rfl rfl zl_X10_read_0
theorem zk_238 : z_Link 238 := z_lk (y := yX10_wouldHave) (plainFor_of_name (by decide +kernel)) rfl rfl rfl zl_X10_wouldHave_0
theorem zk_239 : z_Link 239 := z_lk (y := yX10_queries) (plainFor_of_name (by decide +kernel)) rfl rfl rfl zl_X10_queries_0
theorem zk_240 : z_Link 240 := z_lk (y := yX10_lasts) (plainFor_of_name (by decide +kernel)) rfl rfl rfl zl_X10_lasts_0
theorem zk_241 : z_Link 241 := z_lk (y := yX10_choices) (plainFor_of_name (by decide +kernel)) rfl rfl rfl zl_X10_choices_0
theorem zk_242 : z_Link 242 := z_lk (y := yX10_times) (plainFor_of_name (by decide +kernel)) rfl rfl rfl zl_X10_times_0
theorem zk_243 : z_Link 243 := z_lk (y := yX10_laysCrowds) (plainFor_of_name (by decide +kernel)) rfl rfl rfl zl_X10_laysCrowds_0
theorem zk_244 : z_Link 244 := z_lk (y := yX10_waysOf) (plainFor_of_name (by decide +kernel)) rfl rfl rfl zl_X10_waysOf_0
theorem zk_245 : z_Link 245 := z_lk (y := yX10_ways) (plainFor_of_name (by decide +kernel)) rfl rfl rfl zl_X10_ways_0
theorem zk_246 : z_Link 246 := z_lk (y := yX10_divisorOf) (plainFor_of_name (by decide +kernel)) rfl rfl rfl zl_X10_divisorOf_0
theorem zk_247 : z_Link 247 := z_lk (y := yX10_hope) (plainFor_of_name (by decide +kernel)) rfl rfl rfl zl_X10_hope_0
theorem zk_248 : z_Link 248 := z_lk (y := yX10_hopeBy) (plainFor_of_name (by decide +kernel)) rfl rfl rfl zl_X10_hopeBy_0
theorem zk_249 : z_Link 249 := z_lk (y := yX10_bestOf) (plainFor_of_name (by decide +kernel)) rfl rfl rfl zl_X10_bestOf_0
theorem zk_250 : z_Link 250 := z_lk (y := yX10_best) (plainFor_of_name (by decide +kernel)) rfl rfl rfl zl_X10_best_0
theorem zk_251 : z_Link 251 := z_lk (y := yX10_guessOf) (plainFor_of_name (by decide +kernel)) rfl rfl rfl zl_X10_guessOf_0
theorem zk_252 : z_Link 252 := z_lk (y := yX10_guess) (plainFor_of_name (by decide +kernel)) rfl rfl rfl zl_X10_guess_0
theorem zk_253 : z_Link 253 := z_lk (y := yX10_thereMany) (plainFor_of_name (by decide +kernel)) rfl rfl rfl zl_X10_thereMany_0
theorem zk_254 : z_Link 254 := z_lk (y := yX10_valuesIn) (plainFor_of_name (by decide +kernel)) rfl rfl rfl zl_X10_valuesIn_0
theorem zk_255 : z_Link 255 := z_lk (y := yX10_doesPart) (plainFor_of_name (by decide +kernel)) rfl rfl rfl zl_X10_doesPart_0
theorem zk_256 : z_Link 256 := z_lk (y := yX10_firstSelected) (plainFor_of_name (by decide +kernel)) rfl rfl rfl zl_X10_firstSelected_0
theorem zk_257 : z_Link 257 := z_lk (y := yX10_least) (plainFor_of_name (by decide +kernel)) rfl rfl rfl zl_X10_least_0
theorem zk_258 : z_Link 258 := z_lk (y := yX10_sharp) (plainFor_of_name (by decide +kernel)) rfl rfl rfl zl_X10_sharp_0
theorem zk_259 : z_Link 259 := z_lk (y := yX10_values) (plainFor_of_name (by decide +kernel)) rfl rfl rfl zl_X10_values_0
theorem zk_260 : z_Link 260 := z_lk (y := yX10_fadesIn) (plainFor_of_name (by decide +kernel)) rfl rfl rfl zl_X10_fadesIn_0
theorem zk_261 : z_Link 261 := z_lk (y := yX10_wasRead) (plainFor_of_name (by decide +kernel)) rfl rfl rfl zl_X10_wasRead_0
theorem zk_262 : z_Link 262 := z_lk (y := yX10_both) (plainFor_of_name (by decide +kernel)) rfl rfl rfl zl_X10_both_0
theorem zk_263 : z_Link 263 := z_lk (y := yX10_open) (plainFor_of_name (by decide +kernel)) rfl rfl rfl zl_X10_open_0
theorem zk_264 : z_Link 264 := z_lk (y := yX10_apart) (plainFor_of_name (by decide +kernel)) rfl rfl rfl zl_X10_apart_0
theorem zk_265 : z_Link 265 := z_lk (y := yX10_log) (plainFor_of_name (by decide +kernel)) rfl rfl rfl zl_X10_log_0
theorem zk_266 : z_Link 266 := z_lk (y := yX10_wronglyBusy) (plainFor_of_name (by decide +kernel)) rfl rfl rfl zl_X10_wronglyBusy_0
theorem zk_267 : z_Link 267 := z_lk (y := yX10_never) (plainFor_of_name (by decide +kernel)) rfl rfl rfl zl_X10_never_0
theorem zk_268 : z_Link 268 := z_lk (y := yX10_count) (plainFor_of_name (by decide +kernel)) rfl rfl rfl zl_X10_count_0
theorem zk_269 : z_Link 269 := z_lk (y := yX10_image) (plainFor_of_name (by decide +kernel)) rfl rfl rfl zl_X10_image_0
theorem zk_270 : z_Link 270 := z_lk (y := yX10_tagsThat) (plainFor_of_name (by decide +kernel)) rfl rfl rfl zl_X10_tagsThat_0
theorem zk_271 : z_Link 271 := z_lk (y := yX10_readersThat) (plainFor_of_name (by decide +kernel)) rfl rfl rfl zl_X10_readersThat_0
theorem zk_272 : z_Link 272 := z_lk (y := yX10_look) (plainFor_of_name (by decide +kernel)) rfl rfl rfl zl_X10_look_0
theorem zk_273 : z_Link 273 := z_lk (y := yJ6_numberOfTrailingZeros_0f7a4) (plainFor_of_name (by decide +kernel)) rfl rfl rfl zl_J6_numberOfTrailingZeros_0f7a4_0
theorem zk_274 : z_Link 274 := z_lk (y := yJ6_bitCount_0f7a4) (plainFor_of_name (by decide +kernel)) rfl rfl rfl zl_J6_bitCount_0f7a4_0
theorem zk_275 : z_Link 275 := z_lk (y := yJ9_floorMod_7cf53) (z_mathPlain rfl (by decide +kernel)) rfl rfl rfl zl_J9_floorMod_7cf53_0
theorem zk_276 : z_Link 276 := z_lk (y := yX0_mostHopeful) (plainFor_of_name (by decide +kernel)) rfl rfl rfl zl_X0_mostHopeful_0
theorem zka_6 : z_LA 240 37 := z_LA1 zk_240 <| z_LA1 zk_241 <| z_LA1 zk_242 <| z_LA1 zk_243 <| z_LA1 zk_244 <| z_LA1 zk_245 <| z_LA1 zk_246 <| z_LA1 zk_247 <| z_LA1 zk_248 <| z_LA1 zk_249 <| z_LA1 zk_250 <| z_LA1 zk_251 <| z_LA1 zk_252 <| z_LA1 zk_253 <| z_LA1 zk_254 <| z_LA1 zk_255 <| z_LA1 zk_256 <| z_LA1 zk_257 <| z_LA1 zk_258 <| z_LA1 zk_259 <| z_LA1 zk_260 <| z_LA1 zk_261 <| z_LA1 zk_262 <| z_LA1 zk_263 <| z_LA1 zk_264 <| z_LA1 zk_265 <| z_LA1 zk_266 <| z_LA1 zk_267 <| z_LA1 zk_268 <| z_LA1 zk_269 <| z_LA1 zk_270 <| z_LA1 zk_271 <| z_LA1 zk_272 <| z_LA1 zk_273 <| z_LA1 zk_274 <| z_LA1 zk_275 <| z_LA1 zk_276 <| z_LA0
theorem zka_5 : z_LA 200 77 := z_LA1 zk_200 <| z_LA1 zk_201 <| z_LA1 zk_202 <| z_LA1 zk_203 <| z_LA1 zk_204 <| z_LA1 zk_205 <| z_LA1 zk_206 <| z_LA1 zk_207 <| z_LA1 zk_208 <| z_LA1 zk_209 <| z_LA1 zk_210 <| z_LA1 zk_211 <| z_LA1 zk_212 <| z_LA1 zk_213 <| z_LA1 zk_214 <| z_LA1 zk_215 <| z_LA1 zk_216 <| z_LA1 zk_217 <| z_LA1 zk_218 <| z_LA1 zk_219 <| z_LA1 zk_220 <| z_LA1 zk_221 <| z_LA1 zk_222 <| z_LA1 zk_223 <| z_LA1 zk_224 <| z_LA1 zk_225 <| z_LA1 zk_226 <| z_LA1 zk_227 <| z_LA1 zk_228 <| z_LA1 zk_229 <| z_LA1 zk_230 <| z_LA1 zk_231 <| z_LA1 zk_232 <| z_LA1 zk_233 <| z_LA1 zk_234 <| z_LA1 zk_235 <| z_LA1 zk_236 <| z_LA1 zk_237 <| z_LA1 zk_238 <| z_LA1 zk_239 <| zka_6
theorem zka_4 : z_LA 160 117 := z_LA1 zk_160 <| z_LA1 zk_161 <| z_LA1 zk_162 <| z_LA1 zk_163 <| z_LA1 zk_164 <| z_LA1 zk_165 <| z_LA1 zk_166 <| z_LA1 zk_167 <| z_LA1 zk_168 <| z_LA1 zk_169 <| z_LA1 zk_170 <| z_LA1 zk_171 <| z_LA1 zk_172 <| z_LA1 zk_173 <| z_LA1 zk_174 <| z_LA1 zk_175 <| z_LA1 zk_176 <| z_LA1 zk_177 <| z_LA1 zk_178 <| z_LA1 zk_179 <| z_LA1 zk_180 <| z_LA1 zk_181 <| z_LA1 zk_182 <| z_LA1 zk_183 <| z_LA1 zk_184 <| z_LA1 zk_185 <| z_LA1 zk_186 <| z_LA1 zk_187 <| z_LA1 zk_188 <| z_LA1 zk_189 <| z_LA1 zk_190 <| z_LA1 zk_191 <| z_LA1 zk_192 <| z_LA1 zk_193 <| z_LA1 zk_194 <| z_LA1 zk_195 <| z_LA1 zk_196 <| z_LA1 zk_197 <| z_LA1 zk_198 <| z_LA1 zk_199 <| zka_5
theorem zka_3 : z_LA 120 157 := z_LA1 zk_120 <| z_LA1 zk_121 <| z_LA1 zk_122 <| z_LA1 zk_123 <| z_LA1 zk_124 <| z_LA1 zk_125 <| z_LA1 zk_126 <| z_LA1 zk_127 <| z_LA1 zk_128 <| z_LA1 zk_129 <| z_LA1 zk_130 <| z_LA1 zk_131 <| z_LA1 zk_132 <| z_LA1 zk_133 <| z_LA1 zk_134 <| z_LA1 zk_135 <| z_LA1 zk_136 <| z_LA1 zk_137 <| z_LA1 zk_138 <| z_LA1 zk_139 <| z_LA1 zk_140 <| z_LA1 zk_141 <| z_LA1 zk_142 <| z_LA1 zk_143 <| z_LA1 zk_144 <| z_LA1 zk_145 <| z_LA1 zk_146 <| z_LA1 zk_147 <| z_LA1 zk_148 <| z_LA1 zk_149 <| z_LA1 zk_150 <| z_LA1 zk_151 <| z_LA1 zk_152 <| z_LA1 zk_153 <| z_LA1 zk_154 <| z_LA1 zk_155 <| z_LA1 zk_156 <| z_LA1 zk_157 <| z_LA1 zk_158 <| z_LA1 zk_159 <| zka_4
theorem zka_2 : z_LA 80 197 := z_LA1 zk_80 <| z_LA1 zk_81 <| z_LA1 zk_82 <| z_LA1 zk_83 <| z_LA1 zk_84 <| z_LA1 zk_85 <| z_LA1 zk_86 <| z_LA1 zk_87 <| z_LA1 zk_88 <| z_LA1 zk_89 <| z_LA1 zk_90 <| z_LA1 zk_91 <| z_LA1 zk_92 <| z_LA1 zk_93 <| z_LA1 zk_94 <| z_LA1 zk_95 <| z_LA1 zk_96 <| z_LA1 zk_97 <| z_LA1 zk_98 <| z_LA1 zk_99 <| z_LA1 zk_100 <| z_LA1 zk_101 <| z_LA1 zk_102 <| z_LA1 zk_103 <| z_LA1 zk_104 <| z_LA1 zk_105 <| z_LA1 zk_106 <| z_LA1 zk_107 <| z_LA1 zk_108 <| z_LA1 zk_109 <| z_LA1 zk_110 <| z_LA1 zk_111 <| z_LA1 zk_112 <| z_LA1 zk_113 <| z_LA1 zk_114 <| z_LA1 zk_115 <| z_LA1 zk_116 <| z_LA1 zk_117 <| z_LA1 zk_118 <| z_LA1 zk_119 <| zka_3
theorem zka_1 : z_LA 40 237 := z_LA1 zk_40 <| z_LA1 zk_41 <| z_LA1 zk_42 <| z_LA1 zk_43 <| z_LA1 zk_44 <| z_LA1 zk_45 <| z_LA1 zk_46 <| z_LA1 zk_47 <| z_LA1 zk_48 <| z_LA1 zk_49 <| z_LA1 zk_50 <| z_LA1 zk_51 <| z_LA1 zk_52 <| z_LA1 zk_53 <| z_LA1 zk_54 <| z_LA1 zk_55 <| z_LA1 zk_56 <| z_LA1 zk_57 <| z_LA1 zk_58 <| z_LA1 zk_59 <| z_LA1 zk_60 <| z_LA1 zk_61 <| z_LA1 zk_62 <| z_LA1 zk_63 <| z_LA1 zk_64 <| z_LA1 zk_65 <| z_LA1 zk_66 <| z_LA1 zk_67 <| z_LA1 zk_68 <| z_LA1 zk_69 <| z_LA1 zk_70 <| z_LA1 zk_71 <| z_LA1 zk_72 <| z_LA1 zk_73 <| z_LA1 zk_74 <| z_LA1 zk_75 <| z_LA1 zk_76 <| z_LA1 zk_77 <| z_LA1 zk_78 <| z_LA1 zk_79 <| zka_2
theorem zka_0 : z_LA 0 277 := z_LA1 zk_0 <| z_LA1 zk_1 <| z_LA1 zk_2 <| z_LA1 zk_3 <| z_LA1 zk_4 <| z_LA1 zk_5 <| z_LA1 zk_6 <| z_LA1 zk_7 <| z_LA1 zk_8 <| z_LA1 zk_9 <| z_LA1 zk_10 <| z_LA1 zk_11 <| z_LA1 zk_12 <| z_LA1 zk_13 <| z_LA1 zk_14 <| z_LA1 zk_15 <| z_LA1 zk_16 <| z_LA1 zk_17 <| z_LA1 zk_18 <| z_LA1 zk_19 <| z_LA1 zk_20 <| z_LA1 zk_21 <| z_LA1 zk_22 <| z_LA1 zk_23 <| z_LA1 zk_24 <| z_LA1 zk_25 <| z_LA1 zk_26 <| z_LA1 zk_27 <| z_LA1 zk_28 <| z_LA1 zk_29 <| z_LA1 zk_30 <| z_LA1 zk_31 <| z_LA1 zk_32 <| z_LA1 zk_33 <| z_LA1 zk_34 <| z_LA1 zk_35 <| z_LA1 zk_36 <| z_LA1 zk_37 <| z_LA1 zk_38 <| z_LA1 zk_39 <| zka_1
theorem z_none {k : Nat} (h : 277 ≤ k) : (z_cods.getD (k / 16) []).getD (k % 16) [] = [] := by
  rcases Nat.lt_or_ge k (16 * 18) with q | q
  · have hk : k = 277 ∨ k = 278 ∨ k = 279 ∨ k = 280 ∨ k = 281 ∨ k = 282 ∨ k = 283 ∨ k = 284 ∨ k = 285 ∨ k = 286 ∨ k = 287 := by omega
    rcases hk with rfl | rfl | rfl | rfl | rfl | rfl | rfl | rfl | rfl | rfl | rfl <;> rfl
  · have h2 : 18 ≤ k / 16 := by omega
    have h3 : z_cods.getD (k / 16) [] = [] := by
      rw [List.getD_eq_getElem?_getD, List.getElem?_eq_none (by show 18 ≤ _; exact h2)]
      rfl
    rw [h3]
    rfl
theorem z_sound : ∀ h, z_IH z_tab (z_call h) h
  | 0 => fun k l E as M K _ _ hc => (show False from hc).elim
  | h + 1 => fun k l E as M K hE hv hc => by
    rcases Nat.lt_or_ge k 277 with q | q
    · exact z_sound_step h (z_sound h) k (zka_0 k (Nat.zero_le _) (by omega)) l E as M K hE hv hc
    · have hr : z_run (z_cd k) (z_call h) K 0 (z_pad (z_nl k) (z_lay as)) [] M := hc.2
      have hf := hr (fun _ _ _ _ => False) (by
        rintro i ls st M2 ⟨P2, hP2, hop⟩
        unfold z_cd at hop
        rw [z_none q] at hop
        exact hop)
      exact hf.elim
