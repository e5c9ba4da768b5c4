/-! World: select, put, come, carry, turn; sets of tags -/
theorem e_X8_selectBy {h : Nat} {a0 : zId} {a1 : Int32} {a2 : Int32} {a3 : Int32} {a4 : Int32} {a5 : Int32} {a6 : Int32} {M : zMem} {K : zK} (ha0 : (a0.1 == 99) = false) (q : z_run (z_nop k_X8_selectBy) (z_call h) K 0 [.inr (.inr a0), .inl a1, .inl a2, .inl a3, .inl a4, .inl a5, .inl a6, z_un, z_un, z_un, z_un, z_un, z_un, z_un] [] M) : z_call (h + 1) 106 [.inr (.inr a0), .inl a1, .inl a2, .inl a3, .inl a4, .inl a5, .inl a6] M K := ⟨by simp only [List.all_cons, List.all_nil, z_isU, ha0]; rfl, q⟩
theorem c_X8_selectBy_0 : z_nop k_X8_selectBy 0 = o_aload 0 := rfl
theorem c_X8_selectBy_1 : z_nop k_X8_selectBy 1 = o_iload 1 := rfl
theorem c_X8_selectBy_2 : z_nop k_X8_selectBy 2 = o_callv 9 92 2 := rfl
theorem c_X8_selectBy_3 : z_nop k_X8_selectBy 3 = o_astore 7 := rfl
theorem c_X8_selectBy_4 : z_nop k_X8_selectBy 4 = o_iload 2 := rfl
theorem c_X8_selectBy_5 : z_nop k_X8_selectBy 5 = o_if (fun x => x < 0) 21 := rfl
theorem c_X8_selectBy_6 : z_nop k_X8_selectBy 6 = o_iload 2 := rfl
theorem c_X8_selectBy_7 : z_nop k_X8_selectBy 7 = o_ic 5 := rfl
theorem c_X8_selectBy_8 : z_nop k_X8_selectBy 8 = o_icmp (fun x y => x ≥ y) 21 := rfl
theorem c_X8_selectBy_9 : z_nop k_X8_selectBy 9 = o_iload 3 := rfl
theorem c_X8_selectBy_10 : z_nop k_X8_selectBy 10 = o_if (fun x => x < 0) 21 := rfl
theorem c_X8_selectBy_11 : z_nop k_X8_selectBy 11 = o_iload 3 := rfl
theorem c_X8_selectBy_12 : z_nop k_X8_selectBy 12 = o_gets 0 := rfl
theorem c_X8_selectBy_13 : z_nop k_X8_selectBy 13 = o_alens := rfl
theorem c_X8_selectBy_14 : z_nop k_X8_selectBy 14 = o_icmp (fun x y => x ≥ y) 21 := rfl
theorem c_X8_selectBy_15 : z_nop k_X8_selectBy 15 = o_iload 4 := rfl
theorem c_X8_selectBy_16 : z_nop k_X8_selectBy 16 = o_iload 5 := rfl
theorem c_X8_selectBy_17 : z_nop k_X8_selectBy 17 = o_call 158 2 := rfl
theorem c_X8_selectBy_18 : z_nop k_X8_selectBy 18 = o_if (fun x => x = 0) 21 := rfl
theorem c_X8_selectBy_19 : z_nop k_X8_selectBy 19 = o_ic 1 := rfl
theorem c_X8_selectBy_20 : z_nop k_X8_selectBy 20 = o_goto 22 := rfl
theorem c_X8_selectBy_21 : z_nop k_X8_selectBy 21 = o_ic 0 := rfl
theorem c_X8_selectBy_22 : z_nop k_X8_selectBy 22 = o_istore 8 := rfl
theorem c_X8_selectBy_23 : z_nop k_X8_selectBy 23 = o_aload 7 := rfl
theorem c_X8_selectBy_24 : z_nop k_X8_selectBy 24 = o_ifnull 30 := rfl
theorem c_X8_selectBy_25 : z_nop k_X8_selectBy 25 = o_aload 7 := rfl
theorem c_X8_selectBy_26 : z_nop k_X8_selectBy 26 = o_callv 4 28 1 := rfl
theorem c_X8_selectBy_27 : z_nop k_X8_selectBy 27 = o_if (fun x => x = 0) 30 := rfl
theorem c_X8_selectBy_28 : z_nop k_X8_selectBy 28 = o_iload 8 := rfl
theorem c_X8_selectBy_29 : z_nop k_X8_selectBy 29 = o_if (fun x => x ≠ 0) 32 := rfl
theorem c_X8_selectBy_30 : z_nop k_X8_selectBy 30 = o_ic (-1) := rfl
theorem c_X8_selectBy_31 : z_nop k_X8_selectBy 31 = o_iret := rfl
theorem c_X8_selectBy_32 : z_nop k_X8_selectBy 32 = o_iload 6 := rfl
theorem c_X8_selectBy_33 : z_nop k_X8_selectBy 33 = o_iload 5 := rfl
theorem c_X8_selectBy_34 : z_nop k_X8_selectBy 34 = o_call 160 2 := rfl
theorem c_X8_selectBy_35 : z_nop k_X8_selectBy 35 = o_istore 9 := rfl
theorem c_X8_selectBy_36 : z_nop k_X8_selectBy 36 = o_ic 0 := rfl
theorem c_X8_selectBy_37 : z_nop k_X8_selectBy 37 = o_istore 10 := rfl
theorem c_X8_selectBy_38 : z_nop k_X8_selectBy 38 = o_ic 0 := rfl
theorem c_X8_selectBy_39 : z_nop k_X8_selectBy 39 = o_istore 11 := rfl
theorem c_X8_selectBy_40 : z_nop k_X8_selectBy 40 = o_iload 11 := rfl
theorem c_X8_selectBy_41 : z_nop k_X8_selectBy 41 = o_ic 24 := rfl
theorem c_X8_selectBy_42 : z_nop k_X8_selectBy 42 = o_icmp (fun x y => x ≥ y) 92 := rfl
theorem c_X8_selectBy_43 : z_nop k_X8_selectBy 43 = o_aload 0 := rfl
theorem c_X8_selectBy_44 : z_nop k_X8_selectBy 44 = o_getr 9 (fun w i => (30, w, 0)) := rfl
theorem c_X8_selectBy_45 : z_nop k_X8_selectBy 45 = o_iload 11 := rfl
theorem c_X8_selectBy_46 : z_nop k_X8_selectBy 46 = o_aald := rfl
theorem c_X8_selectBy_47 : z_nop k_X8_selectBy 47 = o_astore 12 := rfl
theorem c_X8_selectBy_48 : z_nop k_X8_selectBy 48 = o_aload 12 := rfl
theorem c_X8_selectBy_49 : z_nop k_X8_selectBy 49 = o_get 7 0 := rfl
theorem c_X8_selectBy_50 : z_nop k_X8_selectBy 50 = o_if (fun x => x = 0) 90 := rfl
theorem c_X8_selectBy_51 : z_nop k_X8_selectBy 51 = o_aload 12 := rfl
theorem c_X8_selectBy_52 : z_nop k_X8_selectBy 52 = o_get 7 4 := rfl
theorem c_X8_selectBy_53 : z_nop k_X8_selectBy 53 = o_ic (-1) := rfl
theorem c_X8_selectBy_54 : z_nop k_X8_selectBy 54 = o_icmp (fun x y => x ≠ y) 90 := rfl
theorem c_X8_selectBy_55 : z_nop k_X8_selectBy 55 = o_aload 12 := rfl
theorem c_X8_selectBy_56 : z_nop k_X8_selectBy 56 = o_iload 1 := rfl
theorem c_X8_selectBy_57 : z_nop k_X8_selectBy 57 = o_callv 7 82 2 := rfl
theorem c_X8_selectBy_58 : z_nop k_X8_selectBy 58 = o_if (fun x => x = 0) 90 := rfl
theorem c_X8_selectBy_59 : z_nop k_X8_selectBy 59 = o_aload 12 := rfl
theorem c_X8_selectBy_60 : z_nop k_X8_selectBy 60 = o_iload 4 := rfl
theorem c_X8_selectBy_61 : z_nop k_X8_selectBy 61 = o_iload 5 := rfl
theorem c_X8_selectBy_62 : z_nop k_X8_selectBy 62 = o_callv 7 80 3 := rfl
theorem c_X8_selectBy_63 : z_nop k_X8_selectBy 63 = o_iload 9 := rfl
theorem c_X8_selectBy_64 : z_nop k_X8_selectBy 64 = o_icmp (fun x y => x ≠ y) 67 := rfl
theorem c_X8_selectBy_65 : z_nop k_X8_selectBy 65 = o_ic 1 := rfl
theorem c_X8_selectBy_66 : z_nop k_X8_selectBy 66 = o_goto 68 := rfl
theorem c_X8_selectBy_67 : z_nop k_X8_selectBy 67 = o_ic 0 := rfl
theorem c_X8_selectBy_68 : z_nop k_X8_selectBy 68 = o_istore 13 := rfl
theorem c_X8_selectBy_69 : z_nop k_X8_selectBy 69 = o_iload 10 := rfl
theorem c_X8_selectBy_70 : z_nop k_X8_selectBy 70 = o_iload 13 := rfl
theorem c_X8_selectBy_71 : z_nop k_X8_selectBy 71 = o_if (fun x => x = 0) 74 := rfl
theorem c_X8_selectBy_72 : z_nop k_X8_selectBy 72 = o_ic 1 := rfl
theorem c_X8_selectBy_73 : z_nop k_X8_selectBy 73 = o_goto 75 := rfl
theorem c_X8_selectBy_74 : z_nop k_X8_selectBy 74 = o_ic 0 := rfl
theorem c_X8_selectBy_75 : z_nop k_X8_selectBy 75 = o_bin (fun x y => x + y) := rfl
theorem c_X8_selectBy_76 : z_nop k_X8_selectBy 76 = o_istore 10 := rfl
theorem c_X8_selectBy_77 : z_nop k_X8_selectBy 77 = o_aload 0 := rfl
theorem c_X8_selectBy_78 : z_nop k_X8_selectBy 78 = o_aload 12 := rfl
theorem c_X8_selectBy_79 : z_nop k_X8_selectBy 79 = o_iload 2 := rfl
theorem c_X8_selectBy_80 : z_nop k_X8_selectBy 80 = o_iload 13 := rfl
theorem c_X8_selectBy_81 : z_nop k_X8_selectBy 81 = o_if (fun x => x = 0) 86 := rfl
theorem c_X8_selectBy_82 : z_nop k_X8_selectBy 82 = o_gets 0 := rfl
theorem c_X8_selectBy_83 : z_nop k_X8_selectBy 83 = o_iload 3 := rfl
theorem c_X8_selectBy_84 : z_nop k_X8_selectBy 84 = o_iald := rfl
theorem c_X8_selectBy_85 : z_nop k_X8_selectBy 85 = o_goto 89 := rfl
theorem c_X8_selectBy_86 : z_nop k_X8_selectBy 86 = o_gets 1 := rfl
theorem c_X8_selectBy_87 : z_nop k_X8_selectBy 87 = o_iload 3 := rfl
theorem c_X8_selectBy_88 : z_nop k_X8_selectBy 88 = o_iald := rfl
theorem c_X8_selectBy_89 : z_nop k_X8_selectBy 89 = o_callv 9 107 4 := rfl
theorem c_X8_selectBy_90 : z_nop k_X8_selectBy 90 = o_iinc 11 1 := rfl
theorem c_X8_selectBy_91 : z_nop k_X8_selectBy 91 = o_goto 40 := rfl
theorem c_X8_selectBy_92 : z_nop k_X8_selectBy 92 = o_aload 0 := rfl
theorem c_X8_selectBy_93 : z_nop k_X8_selectBy 93 = o_getr 9 (fun w i => (20, w, 0)) := rfl
theorem c_X8_selectBy_94 : z_nop k_X8_selectBy 94 = o_ic 10 := rfl
theorem c_X8_selectBy_95 : z_nop k_X8_selectBy 95 = o_dup2 := rfl
theorem c_X8_selectBy_96 : z_nop k_X8_selectBy 96 = o_iald := rfl
theorem c_X8_selectBy_97 : z_nop k_X8_selectBy 97 = o_ic 1 := rfl
theorem c_X8_selectBy_98 : z_nop k_X8_selectBy 98 = o_bin (fun x y => x + y) := rfl
theorem c_X8_selectBy_99 : z_nop k_X8_selectBy 99 = o_iast := rfl
theorem c_X8_selectBy_100 : z_nop k_X8_selectBy 100 = o_aload 0 := rfl
theorem c_X8_selectBy_101 : z_nop k_X8_selectBy 101 = o_iload 1 := rfl
theorem c_X8_selectBy_102 : z_nop k_X8_selectBy 102 = o_ic 6 := rfl
theorem c_X8_selectBy_103 : z_nop k_X8_selectBy 103 = o_iload 10 := rfl
theorem c_X8_selectBy_104 : z_nop k_X8_selectBy 104 = o_callv 9 93 4 := rfl
theorem c_X8_selectBy_105 : z_nop k_X8_selectBy 105 = o_iload 10 := rfl
theorem c_X8_selectBy_106 : z_nop k_X8_selectBy 106 = o_iret := rfl

theorem e_X8_putBits {h : Nat} {a0 : zId} {a1 : Int32} {a2 : Int32} {a3 : Int32} {a4 : Int32} {a5 : Int32} {M : zMem} {K : zK} (ha0 : (a0.1 == 99) = false) (q : z_run (z_nop k_X8_putBits) (z_call h) K 0 [.inr (.inr a0), .inl a1, .inl a2, .inl a3, .inl a4, .inl a5, z_un, z_un, z_un, z_un] [] M) : z_call (h + 1) 108 [.inr (.inr a0), .inl a1, .inl a2, .inl a3, .inl a4, .inl a5] M K := ⟨by simp only [List.all_cons, List.all_nil, z_isU, ha0]; rfl, q⟩
theorem c_X8_putBits_0 : z_nop k_X8_putBits 0 = o_aload 0 := rfl
theorem c_X8_putBits_1 : z_nop k_X8_putBits 1 = o_iload 1 := rfl
theorem c_X8_putBits_2 : z_nop k_X8_putBits 2 = o_callv 9 92 2 := rfl
theorem c_X8_putBits_3 : z_nop k_X8_putBits 3 = o_astore 6 := rfl
theorem c_X8_putBits_4 : z_nop k_X8_putBits 4 = o_aload 0 := rfl
theorem c_X8_putBits_5 : z_nop k_X8_putBits 5 = o_iload 2 := rfl
theorem c_X8_putBits_6 : z_nop k_X8_putBits 6 = o_callv 9 91 2 := rfl
theorem c_X8_putBits_7 : z_nop k_X8_putBits 7 = o_astore 7 := rfl
theorem c_X8_putBits_8 : z_nop k_X8_putBits 8 = o_aload 6 := rfl
theorem c_X8_putBits_9 : z_nop k_X8_putBits 9 = o_ifnull 19 := rfl
theorem c_X8_putBits_10 : z_nop k_X8_putBits 10 = o_aload 7 := rfl
theorem c_X8_putBits_11 : z_nop k_X8_putBits 11 = o_ifnull 19 := rfl
theorem c_X8_putBits_12 : z_nop k_X8_putBits 12 = o_aload 6 := rfl
theorem c_X8_putBits_13 : z_nop k_X8_putBits 13 = o_callv 4 28 1 := rfl
theorem c_X8_putBits_14 : z_nop k_X8_putBits 14 = o_if (fun x => x = 0) 19 := rfl
theorem c_X8_putBits_15 : z_nop k_X8_putBits 15 = o_aload 7 := rfl
theorem c_X8_putBits_16 : z_nop k_X8_putBits 16 = o_iload 1 := rfl
theorem c_X8_putBits_17 : z_nop k_X8_putBits 17 = o_callv 7 82 2 := rfl
theorem c_X8_putBits_18 : z_nop k_X8_putBits 18 = o_if (fun x => x ≠ 0) 21 := rfl
theorem c_X8_putBits_19 : z_nop k_X8_putBits 19 = o_ic 0 := rfl
theorem c_X8_putBits_20 : z_nop k_X8_putBits 20 = o_zret := rfl
theorem c_X8_putBits_21 : z_nop k_X8_putBits 21 = o_aload 7 := rfl
theorem c_X8_putBits_22 : z_nop k_X8_putBits 22 = o_get 7 4 := rfl
theorem c_X8_putBits_23 : z_nop k_X8_putBits 23 = o_ic (-1) := rfl
theorem c_X8_putBits_24 : z_nop k_X8_putBits 24 = o_icmp (fun x y => x ≠ y) 39 := rfl
theorem c_X8_putBits_25 : z_nop k_X8_putBits 25 = o_aload 7 := rfl
theorem c_X8_putBits_26 : z_nop k_X8_putBits 26 = o_get 7 7 := rfl
theorem c_X8_putBits_27 : z_nop k_X8_putBits 27 = o_iload 1 := rfl
theorem c_X8_putBits_28 : z_nop k_X8_putBits 28 = o_icmp (fun x y => x ≠ y) 39 := rfl
theorem c_X8_putBits_29 : z_nop k_X8_putBits 29 = o_iload 3 := rfl
theorem c_X8_putBits_30 : z_nop k_X8_putBits 30 = o_ic 16 := rfl
theorem c_X8_putBits_31 : z_nop k_X8_putBits 31 = o_icmp (fun x y => x < y) 39 := rfl
theorem c_X8_putBits_32 : z_nop k_X8_putBits 32 = o_iload 4 := rfl
theorem c_X8_putBits_33 : z_nop k_X8_putBits 33 = o_ic 1 := rfl
theorem c_X8_putBits_34 : z_nop k_X8_putBits 34 = o_icmp (fun x y => x < y) 39 := rfl
theorem c_X8_putBits_35 : z_nop k_X8_putBits 35 = o_iload 3 := rfl
theorem c_X8_putBits_36 : z_nop k_X8_putBits 36 = o_iload 4 := rfl
theorem c_X8_putBits_37 : z_nop k_X8_putBits 37 = o_call 158 2 := rfl
theorem c_X8_putBits_38 : z_nop k_X8_putBits 38 = o_if (fun x => x ≠ 0) 41 := rfl
theorem c_X8_putBits_39 : z_nop k_X8_putBits 39 = o_ic 0 := rfl
theorem c_X8_putBits_40 : z_nop k_X8_putBits 40 = o_zret := rfl
theorem c_X8_putBits_41 : z_nop k_X8_putBits 41 = o_ic 32 := rfl
theorem c_X8_putBits_42 : z_nop k_X8_putBits 42 = o_iload 3 := rfl
theorem c_X8_putBits_43 : z_nop k_X8_putBits 43 = o_bin (fun x y => x - y) := rfl
theorem c_X8_putBits_44 : z_nop k_X8_putBits 44 = o_iload 4 := rfl
theorem c_X8_putBits_45 : z_nop k_X8_putBits 45 = o_bin (fun x y => x - y) := rfl
theorem c_X8_putBits_46 : z_nop k_X8_putBits 46 = o_istore 8 := rfl
theorem c_X8_putBits_47 : z_nop k_X8_putBits 47 = o_ic (-1) := rfl
theorem c_X8_putBits_48 : z_nop k_X8_putBits 48 = o_iload 4 := rfl
theorem c_X8_putBits_49 : z_nop k_X8_putBits 49 = o_call 160 2 := rfl
theorem c_X8_putBits_50 : z_nop k_X8_putBits 50 = o_iload 8 := rfl
theorem c_X8_putBits_51 : z_nop k_X8_putBits 51 = o_bin (fun x y => x <<< (y &&& 31)) := rfl
theorem c_X8_putBits_52 : z_nop k_X8_putBits 52 = o_istore 9 := rfl
theorem c_X8_putBits_53 : z_nop k_X8_putBits 53 = o_aload 7 := rfl
theorem c_X8_putBits_54 : z_nop k_X8_putBits 54 = o_aload 7 := rfl
theorem c_X8_putBits_55 : z_nop k_X8_putBits 55 = o_get 7 1 := rfl
theorem c_X8_putBits_56 : z_nop k_X8_putBits 56 = o_iload 9 := rfl
theorem c_X8_putBits_57 : z_nop k_X8_putBits 57 = o_ic (-1) := rfl
theorem c_X8_putBits_58 : z_nop k_X8_putBits 58 = o_bin (fun x y => x ^^^ y) := rfl
theorem c_X8_putBits_59 : z_nop k_X8_putBits 59 = o_bin (fun x y => x &&& y) := rfl
theorem c_X8_putBits_60 : z_nop k_X8_putBits 60 = o_iload 5 := rfl
theorem c_X8_putBits_61 : z_nop k_X8_putBits 61 = o_iload 8 := rfl
theorem c_X8_putBits_62 : z_nop k_X8_putBits 62 = o_bin (fun x y => x <<< (y &&& 31)) := rfl
theorem c_X8_putBits_63 : z_nop k_X8_putBits 63 = o_iload 9 := rfl
theorem c_X8_putBits_64 : z_nop k_X8_putBits 64 = o_bin (fun x y => x &&& y) := rfl
theorem c_X8_putBits_65 : z_nop k_X8_putBits 65 = o_bin (fun x y => x ||| y) := rfl
theorem c_X8_putBits_66 : z_nop k_X8_putBits 66 = o_put 7 1 := rfl
theorem c_X8_putBits_67 : z_nop k_X8_putBits 67 = o_aload 0 := rfl
theorem c_X8_putBits_68 : z_nop k_X8_putBits 68 = o_getr 9 (fun w i => (20, w, 0)) := rfl
theorem c_X8_putBits_69 : z_nop k_X8_putBits 69 = o_ic 13 := rfl
theorem c_X8_putBits_70 : z_nop k_X8_putBits 70 = o_dup2 := rfl
theorem c_X8_putBits_71 : z_nop k_X8_putBits 71 = o_iald := rfl
theorem c_X8_putBits_72 : z_nop k_X8_putBits 72 = o_ic 1 := rfl
theorem c_X8_putBits_73 : z_nop k_X8_putBits 73 = o_bin (fun x y => x + y) := rfl
theorem c_X8_putBits_74 : z_nop k_X8_putBits 74 = o_iast := rfl
theorem c_X8_putBits_75 : z_nop k_X8_putBits 75 = o_ic 1 := rfl
theorem c_X8_putBits_76 : z_nop k_X8_putBits 76 = o_zret := rfl

theorem z_tag0 {M : zMem} {w : Nat} {t : Int32} (h : t < 0 ∨ t ≥ 24 ∨ M.1 7 w t.toNatClampNeg 0 = 0) : r_tagAt M w t = (0, 0, 0) := if_pos h
theorem z_tag1 {M : zMem} {w : Nat} {t : Int32} (h : ¬ (t < 0 ∨ t ≥ 24 ∨ M.1 7 w t.toNatClampNeg 0 = 0)) : r_tagAt M w t = (7, w, t.toNatClampNeg) := if_neg h
theorem z_tag99 {M : zMem} {w : Nat} {t : Int32} : ((r_tagAt M w t).1 = 99) = False := by
  apply eq_false
  unfold r_tagAt
  split <;> simp
theorem z_rd0 {w : Nat} {t : Int32} (h : t < 0 ∨ t ≥ 4) : r_readerAt w t = (0, 0, 0) := if_pos h
theorem z_rd1 {w : Nat} {t : Int32} (h : ¬ (t < 0 ∨ t ≥ 4)) : r_readerAt w t = (4, w, t.toNatClampNeg) := if_neg h
def c_put (M : zMem) (w : Nat) (r t p n : Int32) : Prop := ¬ (r < 0 ∨ r ≥ 4) ∧ ¬ (t < 0 ∨ t ≥ 24 ∨ M.1 7 w t.toNatClampNeg 0 = 0) ∧ ¬ r_isFree M w r.toNatClampNeg = 0 ∧ ¬ r_isReachedBy M w t.toNatClampNeg r = 0 ∧ M.1 7 w t.toNatClampNeg 4 = -1 ∧ M.1 7 w t.toNatClampNeg 7 = r ∧ ¬ p < 16 ∧ ¬ n < 1 ∧ ¬ r_isSpan p n = 0
def m_put (M : zMem) (w : Nat) (t p n v : Int32) : zMem :=
  let b := 32 - p - n
  let pl := r_lowest (-1) n <<< (b &&& 31)
  let M1 := z_up M 7 w t.toNatClampNeg 1 (M.1 7 w t.toNatClampNeg 1 &&& (pl ^^^ -1) ||| v <<< (b &&& 31) &&& pl)
  z_up M1 20 w 0 13 (M.1 20 w 0 13 + 1)
set_option maxRecDepth 100000 in
theorem s_put {h w : Nat} {M : zMem} {r t p n v : Int32} {K : zK} (q1 : c_put M w r t p n → K (some (.inl 1)) (m_put M w t p n v)) (q0 : ¬ c_put M w r t p n → K (some (.inl 0)) M) : z_call (h + 2) 108 [.inr (.inr (9, w, 0)), .inl r, .inl t, .inl p, .inl n, .inl v] M K := by
  by_cases a1 : r < 0 ∨ r ≥ 4
  · have e1 := z_rd0 (w := w) a1
    have q := q0 (fun z => z.1 a1)
    refine e_X8_putBits rfl ?_
    refine z_wp_run (cut := [3, 7, 14, 18, 38, 50]) 79 _ _ _ _ ?_
    repeat' (first | (simp only [z_wp, Bool.false_eq_true, ↓reduceIte, z_e10, z_e01, eq_self, Int32.reduceLT, Int32.reduceLE, Int32.reduceGT, Int32.reduceGE, z_in, cond_true, cond_false, Nat.reduceAdd, Nat.reduceBEq, z_nth, z_set, z_clr, z_st1, z_st2, z_isL, z_opt, z_pop, z_cats, z_cat, c_X8_putBits_0, c_X8_putBits_1, c_X8_putBits_2, c_X8_putBits_3, c_X8_putBits_4, c_X8_putBits_5, c_X8_putBits_6, c_X8_putBits_7, c_X8_putBits_8, c_X8_putBits_9, c_X8_putBits_10, c_X8_putBits_11, c_X8_putBits_12, c_X8_putBits_13, c_X8_putBits_14, c_X8_putBits_15, c_X8_putBits_16, c_X8_putBits_17, c_X8_putBits_18, c_X8_putBits_19, c_X8_putBits_20, c_X8_putBits_21, c_X8_putBits_22, c_X8_putBits_23, c_X8_putBits_24, c_X8_putBits_25, c_X8_putBits_26, c_X8_putBits_27, c_X8_putBits_28, c_X8_putBits_29, c_X8_putBits_30, c_X8_putBits_31, c_X8_putBits_32, c_X8_putBits_33, c_X8_putBits_34, c_X8_putBits_35, c_X8_putBits_36, c_X8_putBits_37, c_X8_putBits_38, c_X8_putBits_39, c_X8_putBits_40, c_X8_putBits_41, c_X8_putBits_42, c_X8_putBits_43, c_X8_putBits_44, c_X8_putBits_45, c_X8_putBits_46, c_X8_putBits_47, c_X8_putBits_48, c_X8_putBits_49, c_X8_putBits_50, c_X8_putBits_51, c_X8_putBits_52, c_X8_putBits_53, c_X8_putBits_54, c_X8_putBits_55, c_X8_putBits_56, c_X8_putBits_57, c_X8_putBits_58, c_X8_putBits_59, c_X8_putBits_60, c_X8_putBits_61, c_X8_putBits_62, c_X8_putBits_63, c_X8_putBits_64, c_X8_putBits_65, c_X8_putBits_66, c_X8_putBits_67, c_X8_putBits_68, c_X8_putBits_69, c_X8_putBits_70, c_X8_putBits_71, c_X8_putBits_72, c_X8_putBits_73, c_X8_putBits_74, c_X8_putBits_75, c_X8_putBits_76, o_aload, o_astore, o_bin, o_call, o_callv, o_dup2, o_get, o_getr, o_iald, o_iast, o_ic, o_icmp, o_if, o_ifnull, o_iload, o_istore, o_put, o_zret, z_cv0, z_cl0, z_cv1, z_cl1, z_cv2, z_cl2, z_cv3, z_cl3, z_cv4, z_cl4, z_cv5, z_cl5, z_cv6, z_cl6, z_cv7, z_cl7, z_cv8, z_cl8, z_cv9, z_cl9, z_cv10, z_cl10, z_cv11, z_cl11, z_cv12, z_cl12, z_cv13, z_cl13, z_len, z_elt, z_isI, z_isJ, Nat.reduceEqDiff, Nat.reduceLeDiff, Nat.reduceLT, Nat.reduceSub, Nat.reduceMul, not_false_eq_true, not_true_eq_false, true_and, and_true, true_or, or_true, false_or, or_false, true_implies, false_implies, implies_true, forall_const, and_self, ne_eq, Classical.not_not, z_up1, z_up2, z_cp1, z_cp2, z_upL1, z_upL2, if_true, if_false, and_false, false_and, e1, z_tag99]) | (refine s_readerAt ?_) | (refine s_tagAt ?_) | (refine s_isFree ?_) | (refine s_isReachedBy ?_) | (refine s_isSpan ?_) | (refine s_lowest ?_) | (with_reducible refine And.intro ?_ ?_) | (with_reducible intro _) | (with_reducible refine z_go (i := 3) (cut := [3, 7, 14, 18, 38, 50]) 79 ?_) | (with_reducible refine z_go (i := 7) (cut := [3, 7, 14, 18, 38, 50]) 79 ?_) | (with_reducible refine z_go (i := 14) (cut := [3, 7, 14, 18, 38, 50]) 79 ?_) | (with_reducible refine z_go (i := 18) (cut := [3, 7, 14, 18, 38, 50]) 79 ?_) | (with_reducible refine z_go (i := 38) (cut := [3, 7, 14, 18, 38, 50]) 79 ?_) | (with_reducible refine z_go (i := 50) (cut := [3, 7, 14, 18, 38, 50]) 79 ?_))
    all_goals (first | (with_reducible exact q) | ((try simp only [ge_iff_le, gt_iff_lt, ← Int32.not_lt, Classical.not_not] at *); (first | (with_reducible rfl) | rfl | (with_reducible exact z_vi_24 (by assumption) (by assumption)) | (with_reducible exact z_vi_4 (by assumption) (by assumption)) | (with_reducible exact z_vi_512 (by assumption) (by assumption)) | (with_reducible exact z_vi_14 (by assumption) (by assumption)) | (with_reducible exact z_vi_8 (by assumption) (by assumption)) | (with_reducible exact z_vinN (by assumption) (by assumption) (by decide)) | (with_reducible exact z_vin1 (by assumption) (by assumption) (by decide)) | ((try simp only [ge_iff_le, gt_iff_lt, ← Int32.not_lt, Classical.not_not] at q); (try simp only [*, if_true, if_false, ite_self, true_or, or_true, false_or, or_false, true_and, and_true, false_and, and_false, not_true_eq_false, not_false_eq_true, cond_true, cond_false, decide_true, decide_false, Bool.true_and, Bool.and_true, Bool.false_and, Bool.and_false, Bool.true_or, Bool.or_true, Bool.false_or, Bool.or_false, Bool.not_true, Bool.not_false, ne_eq, Nat.reduceEqDiff] at q); with_reducible exact q))) | (simp_all; done))
  · have e1 := z_rd1 (w := w) a1
    by_cases a2 : t < 0 ∨ t ≥ 24 ∨ M.1 7 w t.toNatClampNeg 0 = 0
    · have e2 := z_tag0 a2
      have q := q0 (fun z => z.2.1 a2)
      refine e_X8_putBits rfl ?_
      refine z_wp_run (cut := [3, 7, 14, 18, 38, 50]) 79 _ _ _ _ ?_
      repeat' (first | (simp only [z_wp, Bool.false_eq_true, ↓reduceIte, z_e10, z_e01, eq_self, Int32.reduceLT, Int32.reduceLE, Int32.reduceGT, Int32.reduceGE, z_in, cond_true, cond_false, Nat.reduceAdd, Nat.reduceBEq, z_nth, z_set, z_clr, z_st1, z_st2, z_isL, z_opt, z_pop, z_cats, z_cat, c_X8_putBits_0, c_X8_putBits_1, c_X8_putBits_2, c_X8_putBits_3, c_X8_putBits_4, c_X8_putBits_5, c_X8_putBits_6, c_X8_putBits_7, c_X8_putBits_8, c_X8_putBits_9, c_X8_putBits_10, c_X8_putBits_11, c_X8_putBits_12, c_X8_putBits_13, c_X8_putBits_14, c_X8_putBits_15, c_X8_putBits_16, c_X8_putBits_17, c_X8_putBits_18, c_X8_putBits_19, c_X8_putBits_20, c_X8_putBits_21, c_X8_putBits_22, c_X8_putBits_23, c_X8_putBits_24, c_X8_putBits_25, c_X8_putBits_26, c_X8_putBits_27, c_X8_putBits_28, c_X8_putBits_29, c_X8_putBits_30, c_X8_putBits_31, c_X8_putBits_32, c_X8_putBits_33, c_X8_putBits_34, c_X8_putBits_35, c_X8_putBits_36, c_X8_putBits_37, c_X8_putBits_38, c_X8_putBits_39, c_X8_putBits_40, c_X8_putBits_41, c_X8_putBits_42, c_X8_putBits_43, c_X8_putBits_44, c_X8_putBits_45, c_X8_putBits_46, c_X8_putBits_47, c_X8_putBits_48, c_X8_putBits_49, c_X8_putBits_50, c_X8_putBits_51, c_X8_putBits_52, c_X8_putBits_53, c_X8_putBits_54, c_X8_putBits_55, c_X8_putBits_56, c_X8_putBits_57, c_X8_putBits_58, c_X8_putBits_59, c_X8_putBits_60, c_X8_putBits_61, c_X8_putBits_62, c_X8_putBits_63, c_X8_putBits_64, c_X8_putBits_65, c_X8_putBits_66, c_X8_putBits_67, c_X8_putBits_68, c_X8_putBits_69, c_X8_putBits_70, c_X8_putBits_71, c_X8_putBits_72, c_X8_putBits_73, c_X8_putBits_74, c_X8_putBits_75, c_X8_putBits_76, o_aload, o_astore, o_bin, o_call, o_callv, o_dup2, o_get, o_getr, o_iald, o_iast, o_ic, o_icmp, o_if, o_ifnull, o_iload, o_istore, o_put, o_zret, z_cv0, z_cl0, z_cv1, z_cl1, z_cv2, z_cl2, z_cv3, z_cl3, z_cv4, z_cl4, z_cv5, z_cl5, z_cv6, z_cl6, z_cv7, z_cl7, z_cv8, z_cl8, z_cv9, z_cl9, z_cv10, z_cl10, z_cv11, z_cl11, z_cv12, z_cl12, z_cv13, z_cl13, z_len, z_elt, z_isI, z_isJ, Nat.reduceEqDiff, Nat.reduceLeDiff, Nat.reduceLT, Nat.reduceSub, Nat.reduceMul, not_false_eq_true, not_true_eq_false, true_and, and_true, true_or, or_true, false_or, or_false, true_implies, false_implies, implies_true, forall_const, and_self, ne_eq, Classical.not_not, z_up1, z_up2, z_cp1, z_cp2, z_upL1, z_upL2, if_true, if_false, and_false, false_and, e1, e2]) | (refine s_readerAt ?_) | (refine s_tagAt ?_) | (refine s_isFree ?_) | (refine s_isReachedBy ?_) | (refine s_isSpan ?_) | (refine s_lowest ?_) | (with_reducible refine And.intro ?_ ?_) | (with_reducible intro _) | (with_reducible refine z_go (i := 3) (cut := [3, 7, 14, 18, 38, 50]) 79 ?_) | (with_reducible refine z_go (i := 7) (cut := [3, 7, 14, 18, 38, 50]) 79 ?_) | (with_reducible refine z_go (i := 14) (cut := [3, 7, 14, 18, 38, 50]) 79 ?_) | (with_reducible refine z_go (i := 18) (cut := [3, 7, 14, 18, 38, 50]) 79 ?_) | (with_reducible refine z_go (i := 38) (cut := [3, 7, 14, 18, 38, 50]) 79 ?_) | (with_reducible refine z_go (i := 50) (cut := [3, 7, 14, 18, 38, 50]) 79 ?_))
      all_goals (first | (with_reducible exact q) | ((try simp only [ge_iff_le, gt_iff_lt, ← Int32.not_lt, Classical.not_not] at *); (first | (with_reducible rfl) | rfl | (with_reducible exact z_vi_24 (by assumption) (by assumption)) | (with_reducible exact z_vi_4 (by assumption) (by assumption)) | (with_reducible exact z_vi_512 (by assumption) (by assumption)) | (with_reducible exact z_vi_14 (by assumption) (by assumption)) | (with_reducible exact z_vi_8 (by assumption) (by assumption)) | (with_reducible exact z_vinN (by assumption) (by assumption) (by decide)) | (with_reducible exact z_vin1 (by assumption) (by assumption) (by decide)) | ((try simp only [ge_iff_le, gt_iff_lt, ← Int32.not_lt, Classical.not_not] at q); (try simp only [*, if_true, if_false, ite_self, true_or, or_true, false_or, or_false, true_and, and_true, false_and, and_false, not_true_eq_false, not_false_eq_true, cond_true, cond_false, decide_true, decide_false, Bool.true_and, Bool.and_true, Bool.false_and, Bool.and_false, Bool.true_or, Bool.or_true, Bool.false_or, Bool.or_false, Bool.not_true, Bool.not_false, ne_eq, Nat.reduceEqDiff] at q); with_reducible exact q))) | (simp_all; done))
    · have e2 := z_tag1 a2
      refine e_X8_putBits rfl ?_
      refine z_wp_run (cut := [3, 7, 14, 18, 38, 50]) 79 _ _ _ _ ?_
      repeat' (first | (simp only [z_wp, Bool.false_eq_true, ↓reduceIte, z_e10, z_e01, eq_self, Int32.reduceLT, Int32.reduceLE, Int32.reduceGT, Int32.reduceGE, z_in, cond_true, cond_false, Nat.reduceAdd, Nat.reduceBEq, z_nth, z_set, z_clr, z_st1, z_st2, z_isL, z_opt, z_pop, z_cats, z_cat, c_X8_putBits_0, c_X8_putBits_1, c_X8_putBits_2, c_X8_putBits_3, c_X8_putBits_4, c_X8_putBits_5, c_X8_putBits_6, c_X8_putBits_7, c_X8_putBits_8, c_X8_putBits_9, c_X8_putBits_10, c_X8_putBits_11, c_X8_putBits_12, c_X8_putBits_13, c_X8_putBits_14, c_X8_putBits_15, c_X8_putBits_16, c_X8_putBits_17, c_X8_putBits_18, c_X8_putBits_19, c_X8_putBits_20, c_X8_putBits_21, c_X8_putBits_22, c_X8_putBits_23, c_X8_putBits_24, c_X8_putBits_25, c_X8_putBits_26, c_X8_putBits_27, c_X8_putBits_28, c_X8_putBits_29, c_X8_putBits_30, c_X8_putBits_31, c_X8_putBits_32, c_X8_putBits_33, c_X8_putBits_34, c_X8_putBits_35, c_X8_putBits_36, c_X8_putBits_37, c_X8_putBits_38, c_X8_putBits_39, c_X8_putBits_40, c_X8_putBits_41, c_X8_putBits_42, c_X8_putBits_43, c_X8_putBits_44, c_X8_putBits_45, c_X8_putBits_46, c_X8_putBits_47, c_X8_putBits_48, c_X8_putBits_49, c_X8_putBits_50, c_X8_putBits_51, c_X8_putBits_52, c_X8_putBits_53, c_X8_putBits_54, c_X8_putBits_55, c_X8_putBits_56, c_X8_putBits_57, c_X8_putBits_58, c_X8_putBits_59, c_X8_putBits_60, c_X8_putBits_61, c_X8_putBits_62, c_X8_putBits_63, c_X8_putBits_64, c_X8_putBits_65, c_X8_putBits_66, c_X8_putBits_67, c_X8_putBits_68, c_X8_putBits_69, c_X8_putBits_70, c_X8_putBits_71, c_X8_putBits_72, c_X8_putBits_73, c_X8_putBits_74, c_X8_putBits_75, c_X8_putBits_76, o_aload, o_astore, o_bin, o_call, o_callv, o_dup2, o_get, o_getr, o_iald, o_iast, o_ic, o_icmp, o_if, o_ifnull, o_iload, o_istore, o_put, o_zret, z_cv0, z_cl0, z_cv1, z_cl1, z_cv2, z_cl2, z_cv3, z_cl3, z_cv4, z_cl4, z_cv5, z_cl5, z_cv6, z_cl6, z_cv7, z_cl7, z_cv8, z_cl8, z_cv9, z_cl9, z_cv10, z_cl10, z_cv11, z_cl11, z_cv12, z_cl12, z_cv13, z_cl13, z_len, z_elt, z_isI, z_isJ, Nat.reduceEqDiff, Nat.reduceLeDiff, Nat.reduceLT, Nat.reduceSub, Nat.reduceMul, not_false_eq_true, not_true_eq_false, true_and, and_true, true_or, or_true, false_or, or_false, true_implies, false_implies, implies_true, forall_const, and_self, ne_eq, Classical.not_not, z_up1, z_up2, z_cp1, z_cp2, z_upL1, z_upL2, if_true, if_false, and_false, false_and, e1, e2]) | (refine s_readerAt ?_) | (refine s_tagAt ?_) | (refine s_isFree ?_) | (refine s_isReachedBy ?_) | (refine s_isSpan ?_) | (refine s_lowest ?_) | (with_reducible refine And.intro ?_ ?_) | (with_reducible intro _) | (with_reducible refine z_go (i := 3) (cut := [3, 7, 14, 18, 38, 50]) 79 ?_) | (with_reducible refine z_go (i := 7) (cut := [3, 7, 14, 18, 38, 50]) 79 ?_) | (with_reducible refine z_go (i := 14) (cut := [3, 7, 14, 18, 38, 50]) 79 ?_) | (with_reducible refine z_go (i := 18) (cut := [3, 7, 14, 18, 38, 50]) 79 ?_) | (with_reducible refine z_go (i := 38) (cut := [3, 7, 14, 18, 38, 50]) 79 ?_) | (with_reducible refine z_go (i := 50) (cut := [3, 7, 14, 18, 38, 50]) 79 ?_))
      all_goals (first | (exact q0 (fun z => by simp_all [c_put])) | (refine q1 ?_; simp_all [c_put]; done))
theorem e_X8_carry {h : Nat} {a0 : zId} {a1 : Int32} {a2 : Int32} {M : zMem} {K : zK} (ha0 : (a0.1 == 99) = false) (q : z_run (z_nop k_X8_carry) (z_call h) K 0 [.inr (.inr a0), .inl a1, .inl a2, z_un] [] M) : z_call (h + 1) 97 [.inr (.inr a0), .inl a1, .inl a2] M K := ⟨by simp only [List.all_cons, List.all_nil, z_isU, ha0]; rfl, q⟩
theorem c_X8_carry_0 : z_nop k_X8_carry 0 = o_aload 0 := rfl
theorem c_X8_carry_1 : z_nop k_X8_carry 1 = o_iload 1 := rfl
theorem c_X8_carry_2 : z_nop k_X8_carry 2 = o_callv 9 91 2 := rfl
theorem c_X8_carry_3 : z_nop k_X8_carry 3 = o_astore 3 := rfl
theorem c_X8_carry_4 : z_nop k_X8_carry 4 = o_aload 3 := rfl
theorem c_X8_carry_5 : z_nop k_X8_carry 5 = o_ifnull 9 := rfl
theorem c_X8_carry_6 : z_nop k_X8_carry 6 = o_iload 2 := rfl
theorem c_X8_carry_7 : z_nop k_X8_carry 7 = o_call 159 1 := rfl
theorem c_X8_carry_8 : z_nop k_X8_carry 8 = o_if (fun x => x ≠ 0) 11 := rfl
theorem c_X8_carry_9 : z_nop k_X8_carry 9 = o_ic 0 := rfl
theorem c_X8_carry_10 : z_nop k_X8_carry 10 = o_zret := rfl
theorem c_X8_carry_11 : z_nop k_X8_carry 11 = o_aload 3 := rfl
theorem c_X8_carry_12 : z_nop k_X8_carry 12 = o_iload 2 := rfl
theorem c_X8_carry_13 : z_nop k_X8_carry 13 = o_put 7 2 := rfl
theorem c_X8_carry_14 : z_nop k_X8_carry 14 = o_aload 3 := rfl
theorem c_X8_carry_15 : z_nop k_X8_carry 15 = o_get 7 4 := rfl
theorem c_X8_carry_16 : z_nop k_X8_carry 16 = o_ic (-1) := rfl
theorem c_X8_carry_17 : z_nop k_X8_carry 17 = o_icmp (fun x y => x = y) 33 := rfl
theorem c_X8_carry_18 : z_nop k_X8_carry 18 = o_aload 3 := rfl
theorem c_X8_carry_19 : z_nop k_X8_carry 19 = o_aload 3 := rfl
theorem c_X8_carry_20 : z_nop k_X8_carry 20 = o_get 7 4 := rfl
theorem c_X8_carry_21 : z_nop k_X8_carry 21 = o_callv 7 82 2 := rfl
theorem c_X8_carry_22 : z_nop k_X8_carry 22 = o_if (fun x => x ≠ 0) 33 := rfl
theorem c_X8_carry_23 : z_nop k_X8_carry 23 = o_aload 3 := rfl
theorem c_X8_carry_24 : z_nop k_X8_carry 24 = o_callv 7 78 1 := rfl
theorem c_X8_carry_25 : z_nop k_X8_carry 25 = o_aload 0 := rfl
theorem c_X8_carry_26 : z_nop k_X8_carry 26 = o_getr 9 (fun w i => (20, w, 0)) := rfl
theorem c_X8_carry_27 : z_nop k_X8_carry 27 = o_ic 7 := rfl
theorem c_X8_carry_28 : z_nop k_X8_carry 28 = o_dup2 := rfl
theorem c_X8_carry_29 : z_nop k_X8_carry 29 = o_iald := rfl
theorem c_X8_carry_30 : z_nop k_X8_carry 30 = o_ic 1 := rfl
theorem c_X8_carry_31 : z_nop k_X8_carry 31 = o_bin (fun x y => x + y) := rfl
theorem c_X8_carry_32 : z_nop k_X8_carry 32 = o_iast := rfl
theorem c_X8_carry_33 : z_nop k_X8_carry 33 = o_aload 0 := rfl
theorem c_X8_carry_34 : z_nop k_X8_carry 34 = o_aload 3 := rfl
theorem c_X8_carry_35 : z_nop k_X8_carry 35 = o_callv 9 99 2 := rfl
theorem c_X8_carry_36 : z_nop k_X8_carry 36 = o_ic 1 := rfl
theorem c_X8_carry_37 : z_nop k_X8_carry 37 = o_zret := rfl

def m_carry1 (M : zMem) (w i : Nat) (x : Int32) : zMem := if ¬ M.1 7 w i 4 = -1 ∧ r_isReachedBy (z_up M 7 w i 2 x) w i (M.1 7 w i 4) = 0 then z_up (m_release (z_up M 7 w i 2 x) w i) 20 w 0 7 ((m_release (z_up M 7 w i 2 x) w i).1 20 w 0 7 + 1) else z_up M 7 w i 2 x
def m_carry (M : zMem) (w i : Nat) (x : Int32) : zMem := m_settle (m_carry1 M w i x) w i
set_option maxRecDepth 100000 in
theorem s_carry {h w : Nat} {M : zMem} {t x : Int32} {K : zK} (q0 : ((t < 0 ∨ t ≥ 24 ∨ M.1 7 w t.toNatClampNeg 0 = 0) ∨ r_isSet x = 0) → K (some (.inl 0)) M) (q1 : ¬ (t < 0 ∨ t ≥ 24 ∨ M.1 7 w t.toNatClampNeg 0 = 0) → ¬ r_isSet x = 0 → K (some (.inl 1)) (m_carry M w t.toNatClampNeg x)) : z_call (h + 4) 97 [.inr (.inr (9, w, 0)), .inl t, .inl x] M K := by
  by_cases a2 : t < 0 ∨ t ≥ 24 ∨ M.1 7 w t.toNatClampNeg 0 = 0
  · have e2 := z_tag0 a2
    have q := q0 (Or.inl a2)
    refine e_X8_carry rfl ?_
    refine z_wp_run (cut := [3, 8, 22, 25, 36]) 40 _ _ _ _ ?_
    repeat' (first | (simp only [z_wp, Bool.false_eq_true, ↓reduceIte, z_e10, z_e01, eq_self, Int32.reduceLT, Int32.reduceLE, Int32.reduceGT, Int32.reduceGE, z_in, cond_true, cond_false, Nat.reduceAdd, Nat.reduceBEq, z_nth, z_set, z_clr, z_st1, z_st2, z_isL, z_opt, z_pop, z_cats, z_cat, c_X8_carry_0, c_X8_carry_1, c_X8_carry_2, c_X8_carry_3, c_X8_carry_4, c_X8_carry_5, c_X8_carry_6, c_X8_carry_7, c_X8_carry_8, c_X8_carry_9, c_X8_carry_10, c_X8_carry_11, c_X8_carry_12, c_X8_carry_13, c_X8_carry_14, c_X8_carry_15, c_X8_carry_16, c_X8_carry_17, c_X8_carry_18, c_X8_carry_19, c_X8_carry_20, c_X8_carry_21, c_X8_carry_22, c_X8_carry_23, c_X8_carry_24, c_X8_carry_25, c_X8_carry_26, c_X8_carry_27, c_X8_carry_28, c_X8_carry_29, c_X8_carry_30, c_X8_carry_31, c_X8_carry_32, c_X8_carry_33, c_X8_carry_34, c_X8_carry_35, c_X8_carry_36, c_X8_carry_37, o_aload, o_astore, o_bin, o_call, o_callv, o_dup2, o_get, o_getr, o_iald, o_iast, o_ic, o_icmp, o_if, o_ifnull, o_iload, o_put, o_zret, z_cv0, z_cl0, z_cv1, z_cl1, z_cv2, z_cl2, z_cv3, z_cl3, z_cv4, z_cl4, z_cv5, z_cl5, z_cv6, z_cl6, z_cv7, z_cl7, z_cv8, z_cl8, z_cv9, z_cl9, z_cv10, z_cl10, z_cv11, z_cl11, z_cv12, z_cl12, z_cv13, z_cl13, z_len, z_elt, z_isI, z_isJ, Nat.reduceEqDiff, Nat.reduceLeDiff, Nat.reduceLT, Nat.reduceSub, Nat.reduceMul, not_false_eq_true, not_true_eq_false, true_and, and_true, true_or, or_true, false_or, or_false, true_implies, false_implies, implies_true, forall_const, and_self, ne_eq, Classical.not_not, z_up1, z_up2, z_cp1, z_cp2, z_upL1, z_upL2, if_true, if_false, and_false, false_and, e2]) | (refine s_tagAt ?_) | (with_reducible refine And.intro ?_ ?_) | (with_reducible intro _) | (with_reducible refine z_go (i := 3) (cut := [3, 8, 22, 25, 36]) 40 ?_) | (with_reducible refine z_go (i := 8) (cut := [3, 8, 22, 25, 36]) 40 ?_) | (with_reducible refine z_go (i := 22) (cut := [3, 8, 22, 25, 36]) 40 ?_) | (with_reducible refine z_go (i := 25) (cut := [3, 8, 22, 25, 36]) 40 ?_) | (with_reducible refine z_go (i := 36) (cut := [3, 8, 22, 25, 36]) 40 ?_))
    all_goals (first | (with_reducible exact q) | ((try simp only [ge_iff_le, gt_iff_lt, ← Int32.not_lt, Classical.not_not] at *); (first | (with_reducible rfl) | rfl | (with_reducible exact z_vi_24 (by assumption) (by assumption)) | (with_reducible exact z_vi_4 (by assumption) (by assumption)) | (with_reducible exact z_vi_512 (by assumption) (by assumption)) | (with_reducible exact z_vi_14 (by assumption) (by assumption)) | (with_reducible exact z_vi_8 (by assumption) (by assumption)) | (with_reducible exact z_vinN (by assumption) (by assumption) (by decide)) | (with_reducible exact z_vin1 (by assumption) (by assumption) (by decide)) | ((try simp only [ge_iff_le, gt_iff_lt, ← Int32.not_lt, Classical.not_not] at q); (try simp only [*, if_true, if_false, ite_self, true_or, or_true, false_or, or_false, true_and, and_true, false_and, and_false, not_true_eq_false, not_false_eq_true, cond_true, cond_false, decide_true, decide_false, Bool.true_and, Bool.and_true, Bool.false_and, Bool.and_false, Bool.true_or, Bool.or_true, Bool.false_or, Bool.or_false, Bool.not_true, Bool.not_false, ne_eq, Nat.reduceEqDiff] at q); with_reducible exact q))) | (simp_all; done))
  · have e2 := z_tag1 a2
    by_cases a3 : r_isSet x = 0
    · have q := q0 (Or.inr a3)
      refine e_X8_carry rfl ?_
      refine z_wp_run (cut := [3, 8, 22, 25, 36]) 40 _ _ _ _ ?_
      repeat' (first | (simp only [z_wp, Bool.false_eq_true, ↓reduceIte, z_e10, z_e01, eq_self, Int32.reduceLT, Int32.reduceLE, Int32.reduceGT, Int32.reduceGE, z_in, cond_true, cond_false, Nat.reduceAdd, Nat.reduceBEq, z_nth, z_set, z_clr, z_st1, z_st2, z_isL, z_opt, z_pop, z_cats, z_cat, c_X8_carry_0, c_X8_carry_1, c_X8_carry_2, c_X8_carry_3, c_X8_carry_4, c_X8_carry_5, c_X8_carry_6, c_X8_carry_7, c_X8_carry_8, c_X8_carry_9, c_X8_carry_10, c_X8_carry_11, c_X8_carry_12, c_X8_carry_13, c_X8_carry_14, c_X8_carry_15, c_X8_carry_16, c_X8_carry_17, c_X8_carry_18, c_X8_carry_19, c_X8_carry_20, c_X8_carry_21, c_X8_carry_22, c_X8_carry_23, c_X8_carry_24, c_X8_carry_25, c_X8_carry_26, c_X8_carry_27, c_X8_carry_28, c_X8_carry_29, c_X8_carry_30, c_X8_carry_31, c_X8_carry_32, c_X8_carry_33, c_X8_carry_34, c_X8_carry_35, c_X8_carry_36, c_X8_carry_37, o_aload, o_astore, o_bin, o_call, o_callv, o_dup2, o_get, o_getr, o_iald, o_iast, o_ic, o_icmp, o_if, o_ifnull, o_iload, o_put, o_zret, z_cv0, z_cl0, z_cv1, z_cl1, z_cv2, z_cl2, z_cv3, z_cl3, z_cv4, z_cl4, z_cv5, z_cl5, z_cv6, z_cl6, z_cv7, z_cl7, z_cv8, z_cl8, z_cv9, z_cl9, z_cv10, z_cl10, z_cv11, z_cl11, z_cv12, z_cl12, z_cv13, z_cl13, z_len, z_elt, z_isI, z_isJ, Nat.reduceEqDiff, Nat.reduceLeDiff, Nat.reduceLT, Nat.reduceSub, Nat.reduceMul, not_false_eq_true, not_true_eq_false, true_and, and_true, true_or, or_true, false_or, or_false, true_implies, false_implies, implies_true, forall_const, and_self, ne_eq, Classical.not_not, z_up1, z_up2, z_cp1, z_cp2, z_upL1, z_upL2, if_true, if_false, and_false, false_and, e2, a3]) | (refine s_tagAt ?_) | (refine s_isSet ?_) | (with_reducible refine And.intro ?_ ?_) | (with_reducible intro _) | (with_reducible refine z_go (i := 3) (cut := [3, 8, 22, 25, 36]) 40 ?_) | (with_reducible refine z_go (i := 8) (cut := [3, 8, 22, 25, 36]) 40 ?_) | (with_reducible refine z_go (i := 22) (cut := [3, 8, 22, 25, 36]) 40 ?_) | (with_reducible refine z_go (i := 25) (cut := [3, 8, 22, 25, 36]) 40 ?_) | (with_reducible refine z_go (i := 36) (cut := [3, 8, 22, 25, 36]) 40 ?_))
      all_goals (first | (with_reducible exact q) | ((try simp only [ge_iff_le, gt_iff_lt, ← Int32.not_lt, Classical.not_not] at *); (first | (with_reducible rfl) | rfl | (with_reducible exact z_vi_24 (by assumption) (by assumption)) | (with_reducible exact z_vi_4 (by assumption) (by assumption)) | (with_reducible exact z_vi_512 (by assumption) (by assumption)) | (with_reducible exact z_vi_14 (by assumption) (by assumption)) | (with_reducible exact z_vi_8 (by assumption) (by assumption)) | (with_reducible exact z_vinN (by assumption) (by assumption) (by decide)) | (with_reducible exact z_vin1 (by assumption) (by assumption) (by decide)) | ((try simp only [ge_iff_le, gt_iff_lt, ← Int32.not_lt, Classical.not_not] at q); (try simp only [*, if_true, if_false, ite_self, true_or, or_true, false_or, or_false, true_and, and_true, false_and, and_false, not_true_eq_false, not_false_eq_true, cond_true, cond_false, decide_true, decide_false, Bool.true_and, Bool.and_true, Bool.false_and, Bool.and_false, Bool.true_or, Bool.or_true, Bool.false_or, Bool.or_false, Bool.not_true, Bool.not_false, ne_eq, Nat.reduceEqDiff] at q); with_reducible exact q))) | (simp_all; done))
    · have q := q1 a2 a3
      unfold m_carry m_carry1 at q
      by_cases a4 : M.1 7 w t.toNatClampNeg 4 = -1
      · rw [if_neg (fun z => z.1 a4)] at q
        refine e_X8_carry rfl ?_
        refine z_wp_run (cut := [3, 8, 22, 25, 36]) 40 _ _ _ _ ?_
        repeat' (first | (simp only [z_wp, Bool.false_eq_true, ↓reduceIte, z_e10, z_e01, eq_self, Int32.reduceLT, Int32.reduceLE, Int32.reduceGT, Int32.reduceGE, z_in, cond_true, cond_false, Nat.reduceAdd, Nat.reduceBEq, z_nth, z_set, z_clr, z_st1, z_st2, z_isL, z_opt, z_pop, z_cats, z_cat, c_X8_carry_0, c_X8_carry_1, c_X8_carry_2, c_X8_carry_3, c_X8_carry_4, c_X8_carry_5, c_X8_carry_6, c_X8_carry_7, c_X8_carry_8, c_X8_carry_9, c_X8_carry_10, c_X8_carry_11, c_X8_carry_12, c_X8_carry_13, c_X8_carry_14, c_X8_carry_15, c_X8_carry_16, c_X8_carry_17, c_X8_carry_18, c_X8_carry_19, c_X8_carry_20, c_X8_carry_21, c_X8_carry_22, c_X8_carry_23, c_X8_carry_24, c_X8_carry_25, c_X8_carry_26, c_X8_carry_27, c_X8_carry_28, c_X8_carry_29, c_X8_carry_30, c_X8_carry_31, c_X8_carry_32, c_X8_carry_33, c_X8_carry_34, c_X8_carry_35, c_X8_carry_36, c_X8_carry_37, o_aload, o_astore, o_bin, o_call, o_callv, o_dup2, o_get, o_getr, o_iald, o_iast, o_ic, o_icmp, o_if, o_ifnull, o_iload, o_put, o_zret, z_cv0, z_cl0, z_cv1, z_cl1, z_cv2, z_cl2, z_cv3, z_cl3, z_cv4, z_cl4, z_cv5, z_cl5, z_cv6, z_cl6, z_cv7, z_cl7, z_cv8, z_cl8, z_cv9, z_cl9, z_cv10, z_cl10, z_cv11, z_cl11, z_cv12, z_cl12, z_cv13, z_cl13, z_len, z_elt, z_isI, z_isJ, Nat.reduceEqDiff, Nat.reduceLeDiff, Nat.reduceLT, Nat.reduceSub, Nat.reduceMul, not_false_eq_true, not_true_eq_false, true_and, and_true, true_or, or_true, false_or, or_false, true_implies, false_implies, implies_true, forall_const, and_self, ne_eq, Classical.not_not, z_up1, z_up2, z_cp1, z_cp2, z_upL1, z_upL2, if_true, if_false, and_false, false_and, e2, a3, a4]) | (refine s_tagAt ?_) | (refine s_isSet ?_) | (refine s_settle ?_) | (with_reducible refine And.intro ?_ ?_) | (with_reducible intro _) | (with_reducible refine z_go (i := 3) (cut := [3, 8, 22, 25, 36]) 40 ?_) | (with_reducible refine z_go (i := 8) (cut := [3, 8, 22, 25, 36]) 40 ?_) | (with_reducible refine z_go (i := 22) (cut := [3, 8, 22, 25, 36]) 40 ?_) | (with_reducible refine z_go (i := 25) (cut := [3, 8, 22, 25, 36]) 40 ?_) | (with_reducible refine z_go (i := 36) (cut := [3, 8, 22, 25, 36]) 40 ?_))
        all_goals (first | (with_reducible exact q) | ((try simp only [ge_iff_le, gt_iff_lt, ← Int32.not_lt, Classical.not_not] at *); (first | (with_reducible rfl) | rfl | (with_reducible exact z_vi_24 (by assumption) (by assumption)) | (with_reducible exact z_vi_4 (by assumption) (by assumption)) | (with_reducible exact z_vi_512 (by assumption) (by assumption)) | (with_reducible exact z_vi_14 (by assumption) (by assumption)) | (with_reducible exact z_vi_8 (by assumption) (by assumption)) | (with_reducible exact z_vinN (by assumption) (by assumption) (by decide)) | (with_reducible exact z_vin1 (by assumption) (by assumption) (by decide)) | ((try simp only [ge_iff_le, gt_iff_lt, ← Int32.not_lt, Classical.not_not] at q); (try simp only [*, if_true, if_false, ite_self, true_or, or_true, false_or, or_false, true_and, and_true, false_and, and_false, not_true_eq_false, not_false_eq_true, cond_true, cond_false, decide_true, decide_false, Bool.true_and, Bool.and_true, Bool.false_and, Bool.and_false, Bool.true_or, Bool.or_true, Bool.false_or, Bool.or_false, Bool.not_true, Bool.not_false, ne_eq, Nat.reduceEqDiff] at q); with_reducible exact q))) | (simp_all; done))
      · by_cases a5 : r_isReachedBy (z_up M 7 w t.toNatClampNeg 2 x) w t.toNatClampNeg (M.1 7 w t.toNatClampNeg 4) = 0
        · rw [if_pos ⟨a4, a5⟩] at q
          refine e_X8_carry rfl ?_
          refine z_wp_run (cut := [3, 8, 22, 25, 36]) 40 _ _ _ _ ?_
          repeat' (first | (simp only [z_wp, Bool.false_eq_true, ↓reduceIte, z_e10, z_e01, eq_self, Int32.reduceLT, Int32.reduceLE, Int32.reduceGT, Int32.reduceGE, z_in, cond_true, cond_false, Nat.reduceAdd, Nat.reduceBEq, z_nth, z_set, z_clr, z_st1, z_st2, z_isL, z_opt, z_pop, z_cats, z_cat, c_X8_carry_0, c_X8_carry_1, c_X8_carry_2, c_X8_carry_3, c_X8_carry_4, c_X8_carry_5, c_X8_carry_6, c_X8_carry_7, c_X8_carry_8, c_X8_carry_9, c_X8_carry_10, c_X8_carry_11, c_X8_carry_12, c_X8_carry_13, c_X8_carry_14, c_X8_carry_15, c_X8_carry_16, c_X8_carry_17, c_X8_carry_18, c_X8_carry_19, c_X8_carry_20, c_X8_carry_21, c_X8_carry_22, c_X8_carry_23, c_X8_carry_24, c_X8_carry_25, c_X8_carry_26, c_X8_carry_27, c_X8_carry_28, c_X8_carry_29, c_X8_carry_30, c_X8_carry_31, c_X8_carry_32, c_X8_carry_33, c_X8_carry_34, c_X8_carry_35, c_X8_carry_36, c_X8_carry_37, o_aload, o_astore, o_bin, o_call, o_callv, o_dup2, o_get, o_getr, o_iald, o_iast, o_ic, o_icmp, o_if, o_ifnull, o_iload, o_put, o_zret, z_cv0, z_cl0, z_cv1, z_cl1, z_cv2, z_cl2, z_cv3, z_cl3, z_cv4, z_cl4, z_cv5, z_cl5, z_cv6, z_cl6, z_cv7, z_cl7, z_cv8, z_cl8, z_cv9, z_cl9, z_cv10, z_cl10, z_cv11, z_cl11, z_cv12, z_cl12, z_cv13, z_cl13, z_len, z_elt, z_isI, z_isJ, Nat.reduceEqDiff, Nat.reduceLeDiff, Nat.reduceLT, Nat.reduceSub, Nat.reduceMul, not_false_eq_true, not_true_eq_false, true_and, and_true, true_or, or_true, false_or, or_false, true_implies, false_implies, implies_true, forall_const, and_self, ne_eq, Classical.not_not, z_up1, z_up2, z_cp1, z_cp2, z_upL1, z_upL2, if_true, if_false, and_false, false_and, e2, a3, a4, a5]) | (refine s_tagAt ?_) | (refine s_isSet ?_) | (refine s_settle ?_) | (refine s_isReachedBy ?_) | (refine s_release ?_) | (with_reducible refine And.intro ?_ ?_) | (with_reducible intro _) | (with_reducible refine z_go (i := 3) (cut := [3, 8, 22, 25, 36]) 40 ?_) | (with_reducible refine z_go (i := 8) (cut := [3, 8, 22, 25, 36]) 40 ?_) | (with_reducible refine z_go (i := 22) (cut := [3, 8, 22, 25, 36]) 40 ?_) | (with_reducible refine z_go (i := 25) (cut := [3, 8, 22, 25, 36]) 40 ?_) | (with_reducible refine z_go (i := 36) (cut := [3, 8, 22, 25, 36]) 40 ?_))
          all_goals (first | (with_reducible exact q) | ((try simp only [ge_iff_le, gt_iff_lt, ← Int32.not_lt, Classical.not_not] at *); (first | (with_reducible rfl) | rfl | (with_reducible exact z_vi_24 (by assumption) (by assumption)) | (with_reducible exact z_vi_4 (by assumption) (by assumption)) | (with_reducible exact z_vi_512 (by assumption) (by assumption)) | (with_reducible exact z_vi_14 (by assumption) (by assumption)) | (with_reducible exact z_vi_8 (by assumption) (by assumption)) | (with_reducible exact z_vinN (by assumption) (by assumption) (by decide)) | (with_reducible exact z_vin1 (by assumption) (by assumption) (by decide)) | ((try simp only [ge_iff_le, gt_iff_lt, ← Int32.not_lt, Classical.not_not] at q); (try simp only [*, if_true, if_false, ite_self, true_or, or_true, false_or, or_false, true_and, and_true, false_and, and_false, not_true_eq_false, not_false_eq_true, cond_true, cond_false, decide_true, decide_false, Bool.true_and, Bool.and_true, Bool.false_and, Bool.and_false, Bool.true_or, Bool.or_true, Bool.false_or, Bool.or_false, Bool.not_true, Bool.not_false, ne_eq, Nat.reduceEqDiff] at q); with_reducible exact q))) | (simp_all; done))
        · rw [if_neg (fun z => a5 z.2)] at q
          refine e_X8_carry rfl ?_
          refine z_wp_run (cut := [3, 8, 22, 25, 36]) 40 _ _ _ _ ?_
          repeat' (first | (simp only [z_wp, Bool.false_eq_true, ↓reduceIte, z_e10, z_e01, eq_self, Int32.reduceLT, Int32.reduceLE, Int32.reduceGT, Int32.reduceGE, z_in, cond_true, cond_false, Nat.reduceAdd, Nat.reduceBEq, z_nth, z_set, z_clr, z_st1, z_st2, z_isL, z_opt, z_pop, z_cats, z_cat, c_X8_carry_0, c_X8_carry_1, c_X8_carry_2, c_X8_carry_3, c_X8_carry_4, c_X8_carry_5, c_X8_carry_6, c_X8_carry_7, c_X8_carry_8, c_X8_carry_9, c_X8_carry_10, c_X8_carry_11, c_X8_carry_12, c_X8_carry_13, c_X8_carry_14, c_X8_carry_15, c_X8_carry_16, c_X8_carry_17, c_X8_carry_18, c_X8_carry_19, c_X8_carry_20, c_X8_carry_21, c_X8_carry_22, c_X8_carry_23, c_X8_carry_24, c_X8_carry_25, c_X8_carry_26, c_X8_carry_27, c_X8_carry_28, c_X8_carry_29, c_X8_carry_30, c_X8_carry_31, c_X8_carry_32, c_X8_carry_33, c_X8_carry_34, c_X8_carry_35, c_X8_carry_36, c_X8_carry_37, o_aload, o_astore, o_bin, o_call, o_callv, o_dup2, o_get, o_getr, o_iald, o_iast, o_ic, o_icmp, o_if, o_ifnull, o_iload, o_put, o_zret, z_cv0, z_cl0, z_cv1, z_cl1, z_cv2, z_cl2, z_cv3, z_cl3, z_cv4, z_cl4, z_cv5, z_cl5, z_cv6, z_cl6, z_cv7, z_cl7, z_cv8, z_cl8, z_cv9, z_cl9, z_cv10, z_cl10, z_cv11, z_cl11, z_cv12, z_cl12, z_cv13, z_cl13, z_len, z_elt, z_isI, z_isJ, Nat.reduceEqDiff, Nat.reduceLeDiff, Nat.reduceLT, Nat.reduceSub, Nat.reduceMul, not_false_eq_true, not_true_eq_false, true_and, and_true, true_or, or_true, false_or, or_false, true_implies, false_implies, implies_true, forall_const, and_self, ne_eq, Classical.not_not, z_up1, z_up2, z_cp1, z_cp2, z_upL1, z_upL2, if_true, if_false, and_false, false_and, e2, a3, a4, a5]) | (refine s_tagAt ?_) | (refine s_isSet ?_) | (refine s_settle ?_) | (refine s_isReachedBy ?_) | (refine s_release ?_) | (with_reducible refine And.intro ?_ ?_) | (with_reducible intro _) | (with_reducible refine z_go (i := 3) (cut := [3, 8, 22, 25, 36]) 40 ?_) | (with_reducible refine z_go (i := 8) (cut := [3, 8, 22, 25, 36]) 40 ?_) | (with_reducible refine z_go (i := 22) (cut := [3, 8, 22, 25, 36]) 40 ?_) | (with_reducible refine z_go (i := 25) (cut := [3, 8, 22, 25, 36]) 40 ?_) | (with_reducible refine z_go (i := 36) (cut := [3, 8, 22, 25, 36]) 40 ?_))
          all_goals (first | (with_reducible exact q) | ((try simp only [ge_iff_le, gt_iff_lt, ← Int32.not_lt, Classical.not_not] at *); (first | (with_reducible rfl) | rfl | (with_reducible exact z_vi_24 (by assumption) (by assumption)) | (with_reducible exact z_vi_4 (by assumption) (by assumption)) | (with_reducible exact z_vi_512 (by assumption) (by assumption)) | (with_reducible exact z_vi_14 (by assumption) (by assumption)) | (with_reducible exact z_vi_8 (by assumption) (by assumption)) | (with_reducible exact z_vinN (by assumption) (by assumption) (by decide)) | (with_reducible exact z_vin1 (by assumption) (by assumption) (by decide)) | ((try simp only [ge_iff_le, gt_iff_lt, ← Int32.not_lt, Classical.not_not] at q); (try simp only [*, if_true, if_false, ite_self, true_or, or_true, false_or, or_false, true_and, and_true, false_and, and_false, not_true_eq_false, not_false_eq_true, cond_true, cond_false, decide_true, decide_false, Bool.true_and, Bool.and_true, Bool.false_and, Bool.and_false, Bool.true_or, Bool.or_true, Bool.false_or, Bool.or_false, Bool.not_true, Bool.not_false, ne_eq, Nat.reduceEqDiff] at q); with_reducible exact q))) | (simp_all; done))
theorem e_X8_tellSpan {h : Nat} {a0 : zId} {a1 : Int32} {a2 : Int32} {M : zMem} {K : zK} (ha0 : (a0.1 == 99) = false) (q : z_run (z_nop k_X8_tellSpan) (z_call h) K 0 [.inr (.inr a0), .inl a1, .inl a2] [] M) : z_call (h + 1) 95 [.inr (.inr a0), .inl a1, .inl a2] M K := ⟨by simp only [List.all_cons, List.all_nil, z_isU, ha0]; rfl, q⟩
theorem c_X8_tellSpan_0 : z_nop k_X8_tellSpan 0 = o_iload 1 := rfl
theorem c_X8_tellSpan_1 : z_nop k_X8_tellSpan 1 = o_if (fun x => x ≠ 0) 12 := rfl
theorem c_X8_tellSpan_2 : z_nop k_X8_tellSpan 2 = o_iload 2 := rfl
theorem c_X8_tellSpan_3 : z_nop k_X8_tellSpan 3 = o_ic 1 := rfl
theorem c_X8_tellSpan_4 : z_nop k_X8_tellSpan 4 = o_icmp (fun x y => x < y) 12 := rfl
theorem c_X8_tellSpan_5 : z_nop k_X8_tellSpan 5 = o_iload 2 := rfl
theorem c_X8_tellSpan_6 : z_nop k_X8_tellSpan 6 = o_ic 200 := rfl
theorem c_X8_tellSpan_7 : z_nop k_X8_tellSpan 7 = o_icmp (fun x y => x > y) 12 := rfl
theorem c_X8_tellSpan_8 : z_nop k_X8_tellSpan 8 = o_aload 0 := rfl
theorem c_X8_tellSpan_9 : z_nop k_X8_tellSpan 9 = o_iload 2 := rfl
theorem c_X8_tellSpan_10 : z_nop k_X8_tellSpan 10 = o_put 9 7 := rfl
theorem c_X8_tellSpan_11 : z_nop k_X8_tellSpan 11 = o_goto 27 := rfl
theorem c_X8_tellSpan_12 : z_nop k_X8_tellSpan 12 = o_iload 1 := rfl
theorem c_X8_tellSpan_13 : z_nop k_X8_tellSpan 13 = o_ic 1 := rfl
theorem c_X8_tellSpan_14 : z_nop k_X8_tellSpan 14 = o_icmp (fun x y => x ≠ y) 25 := rfl
theorem c_X8_tellSpan_15 : z_nop k_X8_tellSpan 15 = o_iload 2 := rfl
theorem c_X8_tellSpan_16 : z_nop k_X8_tellSpan 16 = o_ic 1 := rfl
theorem c_X8_tellSpan_17 : z_nop k_X8_tellSpan 17 = o_icmp (fun x y => x < y) 25 := rfl
theorem c_X8_tellSpan_18 : z_nop k_X8_tellSpan 18 = o_iload 2 := rfl
theorem c_X8_tellSpan_19 : z_nop k_X8_tellSpan 19 = o_ic 400 := rfl
theorem c_X8_tellSpan_20 : z_nop k_X8_tellSpan 20 = o_icmp (fun x y => x > y) 25 := rfl
theorem c_X8_tellSpan_21 : z_nop k_X8_tellSpan 21 = o_aload 0 := rfl
theorem c_X8_tellSpan_22 : z_nop k_X8_tellSpan 22 = o_iload 2 := rfl
theorem c_X8_tellSpan_23 : z_nop k_X8_tellSpan 23 = o_put 9 8 := rfl
theorem c_X8_tellSpan_24 : z_nop k_X8_tellSpan 24 = o_goto 27 := rfl
theorem c_X8_tellSpan_25 : z_nop k_X8_tellSpan 25 = o_ic 0 := rfl
theorem c_X8_tellSpan_26 : z_nop k_X8_tellSpan 26 = o_zret := rfl
theorem c_X8_tellSpan_27 : z_nop k_X8_tellSpan 27 = o_ic 1 := rfl
theorem c_X8_tellSpan_28 : z_nop k_X8_tellSpan 28 = o_zret := rfl

def r_tellSpan (k v : Int32) : Int32 := if (k = 0 ∧ ¬ v < 1 ∧ ¬ v > 200) ∨ (k = 1 ∧ ¬ v < 1 ∧ ¬ v > 400) then 1 else 0
def m_tellSpan (M : zMem) (w : Nat) (k v : Int32) : zMem := if k = 0 ∧ ¬ v < 1 ∧ ¬ v > 200 then z_up M 9 w 0 7 v else if k = 1 ∧ ¬ v < 1 ∧ ¬ v > 400 then z_up M 9 w 0 8 v else M
set_option maxRecDepth 100000 in
theorem s_tellSpan {h w : Nat} {M : zMem} {k v : Int32} {K : zK} (q : K (some (.inl (r_tellSpan k v))) (m_tellSpan M w k v)) : z_call (h + 1) 95 [.inr (.inr (9, w, 0)), .inl k, .inl v] M K := by
  refine e_X8_tellSpan rfl ?_
  refine z_wp_run (cut := []) 31 _ _ _ _ ?_
  repeat' (first | (simp only [z_wp, Bool.false_eq_true, ↓reduceIte, z_e10, z_e01, eq_self, Int32.reduceLT, Int32.reduceLE, Int32.reduceGT, Int32.reduceGE, z_in, cond_true, cond_false, Nat.reduceAdd, Nat.reduceBEq, z_nth, z_set, z_clr, z_st1, z_st2, z_isL, z_opt, z_pop, z_cats, z_cat, c_X8_tellSpan_0, c_X8_tellSpan_1, c_X8_tellSpan_2, c_X8_tellSpan_3, c_X8_tellSpan_4, c_X8_tellSpan_5, c_X8_tellSpan_6, c_X8_tellSpan_7, c_X8_tellSpan_8, c_X8_tellSpan_9, c_X8_tellSpan_10, c_X8_tellSpan_11, c_X8_tellSpan_12, c_X8_tellSpan_13, c_X8_tellSpan_14, c_X8_tellSpan_15, c_X8_tellSpan_16, c_X8_tellSpan_17, c_X8_tellSpan_18, c_X8_tellSpan_19, c_X8_tellSpan_20, c_X8_tellSpan_21, c_X8_tellSpan_22, c_X8_tellSpan_23, c_X8_tellSpan_24, c_X8_tellSpan_25, c_X8_tellSpan_26, c_X8_tellSpan_27, c_X8_tellSpan_28, o_aload, o_goto, o_ic, o_icmp, o_if, o_iload, o_put, o_zret, z_cv0, z_cl0, z_cv1, z_cl1, z_cv2, z_cl2, z_cv3, z_cl3, z_cv4, z_cl4, z_cv5, z_cl5, z_cv6, z_cl6, z_cv7, z_cl7, z_cv8, z_cl8, z_cv9, z_cl9, z_cv10, z_cl10, z_cv11, z_cl11, z_cv12, z_cl12, z_cv13, z_cl13, z_len, z_elt, z_isI, z_isJ, Nat.reduceEqDiff, Nat.reduceLeDiff, Nat.reduceLT, Nat.reduceSub, Nat.reduceMul, not_false_eq_true, not_true_eq_false, true_and, and_true, true_or, or_true, false_or, or_false, true_implies, false_implies, implies_true, forall_const, and_self, ne_eq, Classical.not_not, z_up1, z_up2, z_cp1, z_cp2, z_upL1, z_upL2, if_true, if_false, and_false, false_and]) | (with_reducible refine And.intro ?_ ?_) | (with_reducible intro _))
  all_goals (first | (with_reducible exact q) | ((try simp only [ge_iff_le, gt_iff_lt, ← Int32.not_lt, Classical.not_not] at *); (first | (with_reducible rfl) | rfl | (with_reducible exact z_vi_24 (by assumption) (by assumption)) | (with_reducible exact z_vi_4 (by assumption) (by assumption)) | (with_reducible exact z_vi_512 (by assumption) (by assumption)) | (with_reducible exact z_vi_14 (by assumption) (by assumption)) | (with_reducible exact z_vi_8 (by assumption) (by assumption)) | (with_reducible exact z_vinN (by assumption) (by assumption) (by decide)) | (with_reducible exact z_vin1 (by assumption) (by assumption) (by decide)) | ((try simp only [r_tellSpan, m_tellSpan] at q); (try simp only [ge_iff_le, gt_iff_lt, ← Int32.not_lt, Classical.not_not] at q); (try simp only [*, if_true, if_false, ite_self, true_or, or_true, false_or, or_false, true_and, and_true, false_and, and_false, not_true_eq_false, not_false_eq_true, cond_true, cond_false, decide_true, decide_false, Bool.true_and, Bool.and_true, Bool.false_and, Bool.and_false, Bool.true_or, Bool.or_true, Bool.false_or, Bool.or_false, Bool.not_true, Bool.not_false, ne_eq, Nat.reduceEqDiff] at q); with_reducible exact q))) | (simp_all [r_tellSpan, m_tellSpan]; done))
theorem e_X8_draw {h : Nat} {a0 : zId} {a1 : Int32} {M : zMem} {K : zK} (ha0 : (a0.1 == 99) = false) (q : z_run (z_nop k_X8_draw) (z_call h) K 0 [.inr (.inr a0), .inl a1] [] M) : z_call (h + 1) 94 [.inr (.inr a0), .inl a1] M K := ⟨by simp only [List.all_cons, List.all_nil, z_isU, ha0]; rfl, q⟩
theorem c_X8_draw_0 : z_nop k_X8_draw 0 = o_aload 0 := rfl
theorem c_X8_draw_1 : z_nop k_X8_draw 1 = o_ic 1664525 := rfl
theorem c_X8_draw_2 : z_nop k_X8_draw 2 = o_aload 0 := rfl
theorem c_X8_draw_3 : z_nop k_X8_draw 3 = o_get 9 6 := rfl
theorem c_X8_draw_4 : z_nop k_X8_draw 4 = o_bin (fun x y => x * y) := rfl
theorem c_X8_draw_5 : z_nop k_X8_draw 5 = o_ic 1013904223 := rfl
theorem c_X8_draw_6 : z_nop k_X8_draw 6 = o_bin (fun x y => x + y) := rfl
theorem c_X8_draw_7 : z_nop k_X8_draw 7 = o_put 9 6 := rfl
theorem c_X8_draw_8 : z_nop k_X8_draw 8 = o_iload 1 := rfl
theorem c_X8_draw_9 : z_nop k_X8_draw 9 = o_if (fun x => x > 0) 12 := rfl
theorem c_X8_draw_10 : z_nop k_X8_draw 10 = o_ic 0 := rfl
theorem c_X8_draw_11 : z_nop k_X8_draw 11 = o_goto 18 := rfl
theorem c_X8_draw_12 : z_nop k_X8_draw 12 = o_aload 0 := rfl
theorem c_X8_draw_13 : z_nop k_X8_draw 13 = o_get 9 6 := rfl
theorem c_X8_draw_14 : z_nop k_X8_draw 14 = o_ic 8 := rfl
theorem c_X8_draw_15 : z_nop k_X8_draw 15 = o_bin (fun x y => (x.toUInt32 >>> (y.toUInt32 &&& Int32.toUInt32 31)).toInt32) := rfl
theorem c_X8_draw_16 : z_nop k_X8_draw 16 = o_iload 1 := rfl
theorem c_X8_draw_17 : z_nop k_X8_draw 17 = o_divi (fun x y => x - x / y * y) := rfl
theorem c_X8_draw_18 : z_nop k_X8_draw 18 = o_iret := rfl

def m_draw (M : zMem) (w : Nat) : zMem := z_up M 9 w 0 6 (1664525 * M.1 9 w 0 6 + 1013904223)
def r_draw (M : zMem) (w : Nat) (m : Int32) : Int32 :=
  let d := z_ush (1664525 * M.1 9 w 0 6 + 1013904223) 8
  d - d / m * m
set_option maxRecDepth 100000 in
theorem s_draw {h w : Nat} {M : zMem} {m : Int32} {K : zK} (hm : m > 0) (q : K (some (.inl (r_draw M w m))) (m_draw M w)) : z_call (h + 1) 94 [.inr (.inr (9, w, 0)), .inl m] M K := by
  have hm0 : ¬ m = 0 := fun e => by rw [e] at hm; exact absurd hm (by decide)
  refine e_X8_draw rfl ?_
  refine z_wp_run (cut := []) 21 _ _ _ _ ?_
  repeat' (first | (simp only [z_wp, Bool.false_eq_true, ↓reduceIte, z_e10, z_e01, eq_self, Int32.reduceLT, Int32.reduceLE, Int32.reduceGT, Int32.reduceGE, z_in, cond_true, cond_false, Nat.reduceAdd, Nat.reduceBEq, z_nth, z_set, z_clr, z_st1, z_st2, z_isL, z_opt, z_pop, z_cats, z_cat, c_X8_draw_0, c_X8_draw_1, c_X8_draw_2, c_X8_draw_3, c_X8_draw_4, c_X8_draw_5, c_X8_draw_6, c_X8_draw_7, c_X8_draw_8, c_X8_draw_9, c_X8_draw_10, c_X8_draw_11, c_X8_draw_12, c_X8_draw_13, c_X8_draw_14, c_X8_draw_15, c_X8_draw_16, c_X8_draw_17, c_X8_draw_18, o_aload, o_bin, o_divi, o_get, o_goto, o_ic, o_if, o_iload, o_iret, o_put, z_cv0, z_cl0, z_cv1, z_cl1, z_cv2, z_cl2, z_cv3, z_cl3, z_cv4, z_cl4, z_cv5, z_cl5, z_cv6, z_cl6, z_cv7, z_cl7, z_cv8, z_cl8, z_cv9, z_cl9, z_cv10, z_cl10, z_cv11, z_cl11, z_cv12, z_cl12, z_cv13, z_cl13, z_len, z_elt, z_isI, z_isJ, Nat.reduceEqDiff, Nat.reduceLeDiff, Nat.reduceLT, Nat.reduceSub, Nat.reduceMul, not_false_eq_true, not_true_eq_false, true_and, and_true, true_or, or_true, false_or, or_false, true_implies, false_implies, implies_true, forall_const, and_self, ne_eq, Classical.not_not, z_up1, z_up2, z_cp1, z_cp2, z_upL1, z_upL2, if_true, if_false, and_false, false_and, hm, hm0]) | (with_reducible refine And.intro ?_ ?_) | (with_reducible intro _))
  all_goals (first | (with_reducible exact q) | ((try simp only [ge_iff_le, gt_iff_lt, ← Int32.not_lt, Classical.not_not] at *); (first | (with_reducible rfl) | rfl | (with_reducible exact z_vi_24 (by assumption) (by assumption)) | (with_reducible exact z_vi_4 (by assumption) (by assumption)) | (with_reducible exact z_vi_512 (by assumption) (by assumption)) | (with_reducible exact z_vi_14 (by assumption) (by assumption)) | (with_reducible exact z_vi_8 (by assumption) (by assumption)) | (with_reducible exact z_vinN (by assumption) (by assumption) (by decide)) | (with_reducible exact z_vin1 (by assumption) (by assumption) (by decide)) | ((try simp only [r_draw, m_draw, z_ush] at q); (try simp only [ge_iff_le, gt_iff_lt, ← Int32.not_lt, Classical.not_not] at q); (try simp only [*, if_true, if_false, ite_self, true_or, or_true, false_or, or_false, true_and, and_true, false_and, and_false, not_true_eq_false, not_false_eq_true, cond_true, cond_false, decide_true, decide_false, Bool.true_and, Bool.and_true, Bool.false_and, Bool.and_false, Bool.true_or, Bool.or_true, Bool.false_or, Bool.or_false, Bool.not_true, Bool.not_false, ne_eq, Nat.reduceEqDiff] at q); with_reducible exact q))) | (simp_all [r_draw, m_draw, z_ush]; done))
theorem e_X8_come {h : Nat} {a0 : zId} {a1 : Int32} {a2 : Int32} {a3 : Int32} {M : zMem} {K : zK} (ha0 : (a0.1 == 99) = false) (q : z_run (z_nop k_X8_come) (z_call h) K 0 [.inr (.inr a0), .inl a1, .inl a2, .inl a3, z_un, z_un] [] M) : z_call (h + 1) 96 [.inr (.inr a0), .inl a1, .inl a2, .inl a3] M K := ⟨by simp only [List.all_cons, List.all_nil, z_isU, ha0]; rfl, q⟩
theorem c_X8_come_0 : z_nop k_X8_come 0 = o_iload 1 := rfl
theorem c_X8_come_1 : z_nop k_X8_come 1 = o_if (fun x => x < 0) 14 := rfl
theorem c_X8_come_2 : z_nop k_X8_come 2 = o_iload 1 := rfl
theorem c_X8_come_3 : z_nop k_X8_come 3 = o_ic 24 := rfl
theorem c_X8_come_4 : z_nop k_X8_come 4 = o_icmp (fun x y => x ≥ y) 14 := rfl
theorem c_X8_come_5 : z_nop k_X8_come 5 = o_aload 0 := rfl
theorem c_X8_come_6 : z_nop k_X8_come 6 = o_getr 9 (fun w i => (30, w, 0)) := rfl
theorem c_X8_come_7 : z_nop k_X8_come 7 = o_iload 1 := rfl
theorem c_X8_come_8 : z_nop k_X8_come 8 = o_aald := rfl
theorem c_X8_come_9 : z_nop k_X8_come 9 = o_get 7 0 := rfl
theorem c_X8_come_10 : z_nop k_X8_come 10 = o_if (fun x => x ≠ 0) 14 := rfl
theorem c_X8_come_11 : z_nop k_X8_come 11 = o_iload 3 := rfl
theorem c_X8_come_12 : z_nop k_X8_come 12 = o_call 159 1 := rfl
theorem c_X8_come_13 : z_nop k_X8_come 13 = o_if (fun x => x ≠ 0) 16 := rfl
theorem c_X8_come_14 : z_nop k_X8_come 14 = o_ic 0 := rfl
theorem c_X8_come_15 : z_nop k_X8_come 15 = o_zret := rfl
theorem c_X8_come_16 : z_nop k_X8_come 16 = o_iload 2 := rfl
theorem c_X8_come_17 : z_nop k_X8_come 17 = o_ic 16 := rfl
theorem c_X8_come_18 : z_nop k_X8_come 18 = o_bin (fun x y => (x.toUInt32 >>> (y.toUInt32 &&& Int32.toUInt32 31)).toInt32) := rfl
theorem c_X8_come_19 : z_nop k_X8_come 19 = o_istore 4 := rfl
theorem c_X8_come_20 : z_nop k_X8_come 20 = o_ic 0 := rfl
theorem c_X8_come_21 : z_nop k_X8_come 21 = o_istore 5 := rfl
theorem c_X8_come_22 : z_nop k_X8_come 22 = o_iload 5 := rfl
theorem c_X8_come_23 : z_nop k_X8_come 23 = o_ic 24 := rfl
theorem c_X8_come_24 : z_nop k_X8_come 24 = o_icmp (fun x y => x ≥ y) 42 := rfl
theorem c_X8_come_25 : z_nop k_X8_come 25 = o_aload 0 := rfl
theorem c_X8_come_26 : z_nop k_X8_come 26 = o_getr 9 (fun w i => (30, w, 0)) := rfl
theorem c_X8_come_27 : z_nop k_X8_come 27 = o_iload 5 := rfl
theorem c_X8_come_28 : z_nop k_X8_come 28 = o_aald := rfl
theorem c_X8_come_29 : z_nop k_X8_come 29 = o_get 7 0 := rfl
theorem c_X8_come_30 : z_nop k_X8_come 30 = o_if (fun x => x = 0) 40 := rfl
theorem c_X8_come_31 : z_nop k_X8_come 31 = o_aload 0 := rfl
theorem c_X8_come_32 : z_nop k_X8_come 32 = o_getr 9 (fun w i => (30, w, 0)) := rfl
theorem c_X8_come_33 : z_nop k_X8_come 33 = o_iload 5 := rfl
theorem c_X8_come_34 : z_nop k_X8_come 34 = o_aald := rfl
theorem c_X8_come_35 : z_nop k_X8_come 35 = o_callv 7 79 1 := rfl
theorem c_X8_come_36 : z_nop k_X8_come 36 = o_iload 4 := rfl
theorem c_X8_come_37 : z_nop k_X8_come 37 = o_icmp (fun x y => x ≠ y) 40 := rfl
theorem c_X8_come_38 : z_nop k_X8_come 38 = o_ic 0 := rfl
theorem c_X8_come_39 : z_nop k_X8_come 39 = o_zret := rfl
theorem c_X8_come_40 : z_nop k_X8_come 40 = o_iinc 5 1 := rfl
theorem c_X8_come_41 : z_nop k_X8_come 41 = o_goto 22 := rfl
theorem c_X8_come_42 : z_nop k_X8_come 42 = o_aload 0 := rfl
theorem c_X8_come_43 : z_nop k_X8_come 43 = o_getr 9 (fun w i => (30, w, 0)) := rfl
theorem c_X8_come_44 : z_nop k_X8_come 44 = o_iload 1 := rfl
theorem c_X8_come_45 : z_nop k_X8_come 45 = o_aald := rfl
theorem c_X8_come_46 : z_nop k_X8_come 46 = o_iload 2 := rfl
theorem c_X8_come_47 : z_nop k_X8_come 47 = o_iload 3 := rfl
theorem c_X8_come_48 : z_nop k_X8_come 48 = o_callv 7 76 3 := rfl
theorem c_X8_come_49 : z_nop k_X8_come 49 = o_aload 0 := rfl
theorem c_X8_come_50 : z_nop k_X8_come 50 = o_aload 0 := rfl
theorem c_X8_come_51 : z_nop k_X8_come 51 = o_getr 9 (fun w i => (30, w, 0)) := rfl
theorem c_X8_come_52 : z_nop k_X8_come 52 = o_iload 1 := rfl
theorem c_X8_come_53 : z_nop k_X8_come 53 = o_aald := rfl
theorem c_X8_come_54 : z_nop k_X8_come 54 = o_callv 9 99 2 := rfl
theorem c_X8_come_55 : z_nop k_X8_come 55 = o_ic 1 := rfl
theorem c_X8_come_56 : z_nop k_X8_come 56 = o_zret := rfl

def p_come (M : zMem) (w : Nat) (x : Int32) (i : Nat) : Bool := decide (¬ M.1 7 w i 0 = 0 ∧ r_id M w i = z_ush x 16)
def c_come (M : zMem) (w : Nat) (t x r : Int32) : Prop := ¬ t < 0 ∧ ¬ t ≥ 24 ∧ M.1 7 w t.toNatClampNeg 0 = 0 ∧ ¬ r_isSet r = 0 ∧ z_ex (p_come M w x) 24 0 = false
def m_come (M : zMem) (w : Nat) (t x r : Int32) : zMem := m_settle (m_arrive M w t.toNatClampNeg x r) w t.toNatClampNeg
set_option maxRecDepth 100000 in
theorem s_come {h w : Nat} {M : zMem} {t x r : Int32} {K : zK} (q1 : c_come M w t x r → K (some (.inl 1)) (m_come M w t x r)) (q0 : ¬ c_come M w t x r → K (some (.inl 0)) M) : z_call (h + 4) 96 [.inr (.inr (9, w, 0)), .inl t, .inl x, .inl r] M K := by
  by_cases a0 : ¬ t < 0 ∧ ¬ t ≥ 24 ∧ M.1 7 w t.toNatClampNeg 0 = 0 ∧ ¬ r_isSet r = 0
  · obtain ⟨b1, b2, b3, b4⟩ := a0
    have b5 : vp_in t 24 := z_vi_24 b1 (Int32.not_le.mp b2)
    refine e_X8_come rfl ?_
    refine z_wp_run (cut := [22, 13, 36, 49, 55]) 60 _ _ _ _ ?_
    simp only [z_wp, Bool.false_eq_true, ↓reduceIte, z_e10, z_e01, eq_self, Int32.reduceLT, Int32.reduceLE, Int32.reduceGT, Int32.reduceGE, z_in, cond_true, cond_false, Nat.reduceAdd, Nat.reduceBEq, z_nth, z_set, z_clr, z_st1, z_st2, z_isL, z_opt, z_pop, z_cats, z_cat, c_X8_come_0, c_X8_come_1, c_X8_come_2, c_X8_come_3, c_X8_come_4, c_X8_come_5, c_X8_come_6, c_X8_come_7, c_X8_come_8, c_X8_come_9, c_X8_come_10, c_X8_come_11, c_X8_come_12, c_X8_come_13, c_X8_come_14, c_X8_come_15, c_X8_come_16, c_X8_come_17, c_X8_come_18, c_X8_come_19, c_X8_come_20, c_X8_come_21, c_X8_come_22, c_X8_come_23, c_X8_come_24, c_X8_come_25, c_X8_come_26, c_X8_come_27, c_X8_come_28, c_X8_come_29, c_X8_come_30, c_X8_come_31, c_X8_come_32, c_X8_come_33, c_X8_come_34, c_X8_come_35, c_X8_come_36, c_X8_come_37, c_X8_come_38, c_X8_come_39, c_X8_come_40, c_X8_come_41, c_X8_come_42, c_X8_come_43, c_X8_come_44, c_X8_come_45, c_X8_come_46, c_X8_come_47, c_X8_come_48, c_X8_come_49, c_X8_come_50, c_X8_come_51, c_X8_come_52, c_X8_come_53, c_X8_come_54, c_X8_come_55, c_X8_come_56, o_aald, o_aload, o_bin, o_call, o_callv, o_get, o_getr, o_goto, o_ic, o_icmp, o_if, o_iinc, o_iload, o_istore, o_zret, z_cv0, z_cl0, z_cv1, z_cl1, z_cv2, z_cl2, z_cv3, z_cl3, z_cv4, z_cl4, z_cv5, z_cl5, z_cv6, z_cl6, z_cv7, z_cl7, z_cv8, z_cl8, z_cv9, z_cl9, z_cv10, z_cl10, z_cv11, z_cl11, z_cv12, z_cl12, z_cv13, z_cl13, z_len, z_elt, z_isI, z_isJ, Nat.reduceEqDiff, Nat.reduceLeDiff, Nat.reduceLT, Nat.reduceSub, Nat.reduceMul, not_false_eq_true, not_true_eq_false, true_and, and_true, true_or, or_true, false_or, or_false, true_implies, false_implies, implies_true, forall_const, and_self, ne_eq, Classical.not_not, z_up1, z_up2, z_cp1, z_cp2, z_upL1, z_upL2, if_true, if_false, and_false, false_and, b1, b2, b3, b5]
    refine s_isSet ?_
    refine z_go (cut := [22, 13, 36, 49, 55]) 60 ?_
    simp only [z_wp, Bool.false_eq_true, ↓reduceIte, z_e10, z_e01, eq_self, Int32.reduceLT, Int32.reduceLE, Int32.reduceGT, Int32.reduceGE, z_in, cond_true, cond_false, Nat.reduceAdd, Nat.reduceBEq, z_nth, z_set, z_clr, z_st1, z_st2, z_isL, z_opt, z_pop, z_cats, z_cat, c_X8_come_0, c_X8_come_1, c_X8_come_2, c_X8_come_3, c_X8_come_4, c_X8_come_5, c_X8_come_6, c_X8_come_7, c_X8_come_8, c_X8_come_9, c_X8_come_10, c_X8_come_11, c_X8_come_12, c_X8_come_13, c_X8_come_14, c_X8_come_15, c_X8_come_16, c_X8_come_17, c_X8_come_18, c_X8_come_19, c_X8_come_20, c_X8_come_21, c_X8_come_22, c_X8_come_23, c_X8_come_24, c_X8_come_25, c_X8_come_26, c_X8_come_27, c_X8_come_28, c_X8_come_29, c_X8_come_30, c_X8_come_31, c_X8_come_32, c_X8_come_33, c_X8_come_34, c_X8_come_35, c_X8_come_36, c_X8_come_37, c_X8_come_38, c_X8_come_39, c_X8_come_40, c_X8_come_41, c_X8_come_42, c_X8_come_43, c_X8_come_44, c_X8_come_45, c_X8_come_46, c_X8_come_47, c_X8_come_48, c_X8_come_49, c_X8_come_50, c_X8_come_51, c_X8_come_52, c_X8_come_53, c_X8_come_54, c_X8_come_55, c_X8_come_56, o_aald, o_aload, o_bin, o_call, o_callv, o_get, o_getr, o_goto, o_ic, o_icmp, o_if, o_iinc, o_iload, o_istore, o_zret, z_cv0, z_cl0, z_cv1, z_cl1, z_cv2, z_cl2, z_cv3, z_cl3, z_cv4, z_cl4, z_cv5, z_cl5, z_cv6, z_cl6, z_cv7, z_cl7, z_cv8, z_cl8, z_cv9, z_cl9, z_cv10, z_cl10, z_cv11, z_cl11, z_cv12, z_cl12, z_cv13, z_cl13, z_len, z_elt, z_isI, z_isJ, Nat.reduceEqDiff, Nat.reduceLeDiff, Nat.reduceLT, Nat.reduceSub, Nat.reduceMul, not_false_eq_true, not_true_eq_false, true_and, and_true, true_or, or_true, false_or, or_false, true_implies, false_implies, implies_true, forall_const, and_self, ne_eq, Classical.not_not, z_up1, z_up2, z_cp1, z_cp2, z_upL1, z_upL2, if_true, if_false, and_false, false_and, b4]
    have key := z_loop (fun n => (z_ex (p_come M w x) (24 - n) n = true → K (some (.inl 0)) M) → (z_ex (p_come M w x) (24 - n) n = false → K (some (.inl 1)) (m_come M w t x r)) → z_run (z_nop k_X8_come) (z_call (h + 3)) K 22 [.inr (.inr (9, w, 0)), .inl t, .inl x, .inl r, .inl (z_ush x 16), .inl (nI n)] [] M) 24 ?_ ?_ 0 (by omega)
    · exact key (fun z => q0 (fun z2 => by rw [z2.2.2.2.2] at z; cases z)) (fun z => q1 ⟨b1, b2, b3, b4, z⟩)
    · intro _ k1
      obtain ⟨f1, f2⟩ := z_eq24
      refine z_go (cut := [22, 13, 36, 49, 55]) 60 ?_
      simp only [z_wp, Bool.false_eq_true, ↓reduceIte, z_e10, z_e01, eq_self, Int32.reduceLT, Int32.reduceLE, Int32.reduceGT, Int32.reduceGE, z_in, cond_true, cond_false, Nat.reduceAdd, Nat.reduceBEq, z_nth, z_set, z_clr, z_st1, z_st2, z_isL, z_opt, z_pop, z_cats, z_cat, c_X8_come_0, c_X8_come_1, c_X8_come_2, c_X8_come_3, c_X8_come_4, c_X8_come_5, c_X8_come_6, c_X8_come_7, c_X8_come_8, c_X8_come_9, c_X8_come_10, c_X8_come_11, c_X8_come_12, c_X8_come_13, c_X8_come_14, c_X8_come_15, c_X8_come_16, c_X8_come_17, c_X8_come_18, c_X8_come_19, c_X8_come_20, c_X8_come_21, c_X8_come_22, c_X8_come_23, c_X8_come_24, c_X8_come_25, c_X8_come_26, c_X8_come_27, c_X8_come_28, c_X8_come_29, c_X8_come_30, c_X8_come_31, c_X8_come_32, c_X8_come_33, c_X8_come_34, c_X8_come_35, c_X8_come_36, c_X8_come_37, c_X8_come_38, c_X8_come_39, c_X8_come_40, c_X8_come_41, c_X8_come_42, c_X8_come_43, c_X8_come_44, c_X8_come_45, c_X8_come_46, c_X8_come_47, c_X8_come_48, c_X8_come_49, c_X8_come_50, c_X8_come_51, c_X8_come_52, c_X8_come_53, c_X8_come_54, c_X8_come_55, c_X8_come_56, o_aald, o_aload, o_bin, o_call, o_callv, o_get, o_getr, o_goto, o_ic, o_icmp, o_if, o_iinc, o_iload, o_istore, o_zret, z_cv0, z_cl0, z_cv1, z_cl1, z_cv2, z_cl2, z_cv3, z_cl3, z_cv4, z_cl4, z_cv5, z_cl5, z_cv6, z_cl6, z_cv7, z_cl7, z_cv8, z_cl8, z_cv9, z_cl9, z_cv10, z_cl10, z_cv11, z_cl11, z_cv12, z_cl12, z_cv13, z_cl13, z_len, z_elt, z_isI, z_isJ, Nat.reduceEqDiff, Nat.reduceLeDiff, Nat.reduceLT, Nat.reduceSub, Nat.reduceMul, not_false_eq_true, not_true_eq_false, true_and, and_true, true_or, or_true, false_or, or_false, true_implies, false_implies, implies_true, forall_const, and_self, ne_eq, Classical.not_not, z_up1, z_up2, z_cp1, z_cp2, z_upL1, z_upL2, if_true, if_false, and_false, false_and, f1, f2, b5]
      refine s_arrive ?_
      refine z_go (cut := [22, 13, 36, 49, 55]) 60 ?_
      simp only [z_wp, Bool.false_eq_true, ↓reduceIte, z_e10, z_e01, eq_self, Int32.reduceLT, Int32.reduceLE, Int32.reduceGT, Int32.reduceGE, z_in, cond_true, cond_false, Nat.reduceAdd, Nat.reduceBEq, z_nth, z_set, z_clr, z_st1, z_st2, z_isL, z_opt, z_pop, z_cats, z_cat, c_X8_come_0, c_X8_come_1, c_X8_come_2, c_X8_come_3, c_X8_come_4, c_X8_come_5, c_X8_come_6, c_X8_come_7, c_X8_come_8, c_X8_come_9, c_X8_come_10, c_X8_come_11, c_X8_come_12, c_X8_come_13, c_X8_come_14, c_X8_come_15, c_X8_come_16, c_X8_come_17, c_X8_come_18, c_X8_come_19, c_X8_come_20, c_X8_come_21, c_X8_come_22, c_X8_come_23, c_X8_come_24, c_X8_come_25, c_X8_come_26, c_X8_come_27, c_X8_come_28, c_X8_come_29, c_X8_come_30, c_X8_come_31, c_X8_come_32, c_X8_come_33, c_X8_come_34, c_X8_come_35, c_X8_come_36, c_X8_come_37, c_X8_come_38, c_X8_come_39, c_X8_come_40, c_X8_come_41, c_X8_come_42, c_X8_come_43, c_X8_come_44, c_X8_come_45, c_X8_come_46, c_X8_come_47, c_X8_come_48, c_X8_come_49, c_X8_come_50, c_X8_come_51, c_X8_come_52, c_X8_come_53, c_X8_come_54, c_X8_come_55, c_X8_come_56, o_aald, o_aload, o_bin, o_call, o_callv, o_get, o_getr, o_goto, o_ic, o_icmp, o_if, o_iinc, o_iload, o_istore, o_zret, z_cv0, z_cl0, z_cv1, z_cl1, z_cv2, z_cl2, z_cv3, z_cl3, z_cv4, z_cl4, z_cv5, z_cl5, z_cv6, z_cl6, z_cv7, z_cl7, z_cv8, z_cl8, z_cv9, z_cl9, z_cv10, z_cl10, z_cv11, z_cl11, z_cv12, z_cl12, z_cv13, z_cl13, z_len, z_elt, z_isI, z_isJ, Nat.reduceEqDiff, Nat.reduceLeDiff, Nat.reduceLT, Nat.reduceSub, Nat.reduceMul, not_false_eq_true, not_true_eq_false, true_and, and_true, true_or, or_true, false_or, or_false, true_implies, false_implies, implies_true, forall_const, and_self, ne_eq, Classical.not_not, z_up1, z_up2, z_cp1, z_cp2, z_upL1, z_upL2, if_true, if_false, and_false, false_and, b5]
      refine s_settle ?_
      refine z_go (cut := [22, 13, 36, 49, 55]) 60 ?_
      simp only [z_wp, Bool.false_eq_true, ↓reduceIte, z_e10, z_e01, eq_self, Int32.reduceLT, Int32.reduceLE, Int32.reduceGT, Int32.reduceGE, z_in, cond_true, cond_false, Nat.reduceAdd, Nat.reduceBEq, z_nth, z_set, z_clr, z_st1, z_st2, z_isL, z_opt, z_pop, z_cats, z_cat, c_X8_come_0, c_X8_come_1, c_X8_come_2, c_X8_come_3, c_X8_come_4, c_X8_come_5, c_X8_come_6, c_X8_come_7, c_X8_come_8, c_X8_come_9, c_X8_come_10, c_X8_come_11, c_X8_come_12, c_X8_come_13, c_X8_come_14, c_X8_come_15, c_X8_come_16, c_X8_come_17, c_X8_come_18, c_X8_come_19, c_X8_come_20, c_X8_come_21, c_X8_come_22, c_X8_come_23, c_X8_come_24, c_X8_come_25, c_X8_come_26, c_X8_come_27, c_X8_come_28, c_X8_come_29, c_X8_come_30, c_X8_come_31, c_X8_come_32, c_X8_come_33, c_X8_come_34, c_X8_come_35, c_X8_come_36, c_X8_come_37, c_X8_come_38, c_X8_come_39, c_X8_come_40, c_X8_come_41, c_X8_come_42, c_X8_come_43, c_X8_come_44, c_X8_come_45, c_X8_come_46, c_X8_come_47, c_X8_come_48, c_X8_come_49, c_X8_come_50, c_X8_come_51, c_X8_come_52, c_X8_come_53, c_X8_come_54, c_X8_come_55, c_X8_come_56, o_aald, o_aload, o_bin, o_call, o_callv, o_get, o_getr, o_goto, o_ic, o_icmp, o_if, o_iinc, o_iload, o_istore, o_zret, z_cv0, z_cl0, z_cv1, z_cl1, z_cv2, z_cl2, z_cv3, z_cl3, z_cv4, z_cl4, z_cv5, z_cl5, z_cv6, z_cl6, z_cv7, z_cl7, z_cv8, z_cl8, z_cv9, z_cl9, z_cv10, z_cl10, z_cv11, z_cl11, z_cv12, z_cl12, z_cv13, z_cl13, z_len, z_elt, z_isI, z_isJ, Nat.reduceEqDiff, Nat.reduceLeDiff, Nat.reduceLT, Nat.reduceSub, Nat.reduceMul, not_false_eq_true, not_true_eq_false, true_and, and_true, true_or, or_true, false_or, or_false, true_implies, false_implies, implies_true, forall_const, and_self, ne_eq, Classical.not_not, z_up1, z_up2, z_cp1, z_cp2, z_upL1, z_upL2, if_true, if_false, and_false, false_and]
      exact k1 rfl
    · intro n hn ih k0 k1
      obtain ⟨f1, f2, f3, f4, f5⟩ := z_lt24 hn
      rw [show 24 - n = (24 - (n + 1)) + 1 by omega] at k0 k1
      unfold z_ex at k0 k1
      refine z_go (cut := [22, 13, 36, 49, 55]) 60 ?_
      simp only [z_wp, Bool.false_eq_true, ↓reduceIte, z_e10, z_e01, eq_self, Int32.reduceLT, Int32.reduceLE, Int32.reduceGT, Int32.reduceGE, z_in, cond_true, cond_false, Nat.reduceAdd, Nat.reduceBEq, z_nth, z_set, z_clr, z_st1, z_st2, z_isL, z_opt, z_pop, z_cats, z_cat, c_X8_come_0, c_X8_come_1, c_X8_come_2, c_X8_come_3, c_X8_come_4, c_X8_come_5, c_X8_come_6, c_X8_come_7, c_X8_come_8, c_X8_come_9, c_X8_come_10, c_X8_come_11, c_X8_come_12, c_X8_come_13, c_X8_come_14, c_X8_come_15, c_X8_come_16, c_X8_come_17, c_X8_come_18, c_X8_come_19, c_X8_come_20, c_X8_come_21, c_X8_come_22, c_X8_come_23, c_X8_come_24, c_X8_come_25, c_X8_come_26, c_X8_come_27, c_X8_come_28, c_X8_come_29, c_X8_come_30, c_X8_come_31, c_X8_come_32, c_X8_come_33, c_X8_come_34, c_X8_come_35, c_X8_come_36, c_X8_come_37, c_X8_come_38, c_X8_come_39, c_X8_come_40, c_X8_come_41, c_X8_come_42, c_X8_come_43, c_X8_come_44, c_X8_come_45, c_X8_come_46, c_X8_come_47, c_X8_come_48, c_X8_come_49, c_X8_come_50, c_X8_come_51, c_X8_come_52, c_X8_come_53, c_X8_come_54, c_X8_come_55, c_X8_come_56, o_aald, o_aload, o_bin, o_call, o_callv, o_get, o_getr, o_goto, o_ic, o_icmp, o_if, o_iinc, o_iload, o_istore, o_zret, z_cv0, z_cl0, z_cv1, z_cl1, z_cv2, z_cl2, z_cv3, z_cl3, z_cv4, z_cl4, z_cv5, z_cl5, z_cv6, z_cl6, z_cv7, z_cl7, z_cv8, z_cl8, z_cv9, z_cl9, z_cv10, z_cl10, z_cv11, z_cl11, z_cv12, z_cl12, z_cv13, z_cl13, z_len, z_elt, z_isI, z_isJ, Nat.reduceEqDiff, Nat.reduceLeDiff, Nat.reduceLT, Nat.reduceSub, Nat.reduceMul, not_false_eq_true, not_true_eq_false, true_and, and_true, true_or, or_true, false_or, or_false, true_implies, false_implies, implies_true, forall_const, and_self, ne_eq, Classical.not_not, z_up1, z_up2, z_cp1, z_cp2, z_upL1, z_upL2, if_true, if_false, and_false, false_and, f1, f2, f3, f4, f5]
      refine ⟨fun c => ?_, fun c => s_id ?_⟩
      · have e : p_come M w x n = false := decide_eq_false (fun z => z.1 c)
        rw [e] at k0 k1
        exact ih k0 k1
      · refine z_go (cut := [22, 13, 36, 49, 55]) 60 ?_
        simp only [z_wp, Bool.false_eq_true, ↓reduceIte, z_e10, z_e01, eq_self, Int32.reduceLT, Int32.reduceLE, Int32.reduceGT, Int32.reduceGE, z_in, cond_true, cond_false, Nat.reduceAdd, Nat.reduceBEq, z_nth, z_set, z_clr, z_st1, z_st2, z_isL, z_opt, z_pop, z_cats, z_cat, c_X8_come_0, c_X8_come_1, c_X8_come_2, c_X8_come_3, c_X8_come_4, c_X8_come_5, c_X8_come_6, c_X8_come_7, c_X8_come_8, c_X8_come_9, c_X8_come_10, c_X8_come_11, c_X8_come_12, c_X8_come_13, c_X8_come_14, c_X8_come_15, c_X8_come_16, c_X8_come_17, c_X8_come_18, c_X8_come_19, c_X8_come_20, c_X8_come_21, c_X8_come_22, c_X8_come_23, c_X8_come_24, c_X8_come_25, c_X8_come_26, c_X8_come_27, c_X8_come_28, c_X8_come_29, c_X8_come_30, c_X8_come_31, c_X8_come_32, c_X8_come_33, c_X8_come_34, c_X8_come_35, c_X8_come_36, c_X8_come_37, c_X8_come_38, c_X8_come_39, c_X8_come_40, c_X8_come_41, c_X8_come_42, c_X8_come_43, c_X8_come_44, c_X8_come_45, c_X8_come_46, c_X8_come_47, c_X8_come_48, c_X8_come_49, c_X8_come_50, c_X8_come_51, c_X8_come_52, c_X8_come_53, c_X8_come_54, c_X8_come_55, c_X8_come_56, o_aald, o_aload, o_bin, o_call, o_callv, o_get, o_getr, o_goto, o_ic, o_icmp, o_if, o_iinc, o_iload, o_istore, o_zret, z_cv0, z_cl0, z_cv1, z_cl1, z_cv2, z_cl2, z_cv3, z_cl3, z_cv4, z_cl4, z_cv5, z_cl5, z_cv6, z_cl6, z_cv7, z_cl7, z_cv8, z_cl8, z_cv9, z_cl9, z_cv10, z_cl10, z_cv11, z_cl11, z_cv12, z_cl12, z_cv13, z_cl13, z_len, z_elt, z_isI, z_isJ, Nat.reduceEqDiff, Nat.reduceLeDiff, Nat.reduceLT, Nat.reduceSub, Nat.reduceMul, not_false_eq_true, not_true_eq_false, true_and, and_true, true_or, or_true, false_or, or_false, true_implies, false_implies, implies_true, forall_const, and_self, ne_eq, Classical.not_not, z_up1, z_up2, z_cp1, z_cp2, z_upL1, z_upL2, if_true, if_false, and_false, false_and, f5]
        refine ⟨fun c2 => ?_, fun c2 => ?_⟩
        · have e : p_come M w x n = false := decide_eq_false (fun z => c2 z.2)
          rw [e] at k0 k1
          exact ih k0 k1
        · have e : p_come M w x n = true := decide_eq_true ⟨c, c2⟩
          rw [e] at k0
          exact k0 rfl
  · have q := q0 (fun z => a0 ⟨z.1, z.2.1, z.2.2.1, z.2.2.2.1⟩)
    refine e_X8_come rfl ?_
    refine z_wp_run (cut := [22, 13, 36, 49, 55]) 60 _ _ _ _ ?_
    simp only [z_wp, Bool.false_eq_true, ↓reduceIte, z_e10, z_e01, eq_self, Int32.reduceLT, Int32.reduceLE, Int32.reduceGT, Int32.reduceGE, z_in, cond_true, cond_false, Nat.reduceAdd, Nat.reduceBEq, z_nth, z_set, z_clr, z_st1, z_st2, z_isL, z_opt, z_pop, z_cats, z_cat, c_X8_come_0, c_X8_come_1, c_X8_come_2, c_X8_come_3, c_X8_come_4, c_X8_come_5, c_X8_come_6, c_X8_come_7, c_X8_come_8, c_X8_come_9, c_X8_come_10, c_X8_come_11, c_X8_come_12, c_X8_come_13, c_X8_come_14, c_X8_come_15, c_X8_come_16, c_X8_come_17, c_X8_come_18, c_X8_come_19, c_X8_come_20, c_X8_come_21, c_X8_come_22, c_X8_come_23, c_X8_come_24, c_X8_come_25, c_X8_come_26, c_X8_come_27, c_X8_come_28, c_X8_come_29, c_X8_come_30, c_X8_come_31, c_X8_come_32, c_X8_come_33, c_X8_come_34, c_X8_come_35, c_X8_come_36, c_X8_come_37, c_X8_come_38, c_X8_come_39, c_X8_come_40, c_X8_come_41, c_X8_come_42, c_X8_come_43, c_X8_come_44, c_X8_come_45, c_X8_come_46, c_X8_come_47, c_X8_come_48, c_X8_come_49, c_X8_come_50, c_X8_come_51, c_X8_come_52, c_X8_come_53, c_X8_come_54, c_X8_come_55, c_X8_come_56, o_aald, o_aload, o_bin, o_call, o_callv, o_get, o_getr, o_goto, o_ic, o_icmp, o_if, o_iinc, o_iload, o_istore, o_zret, z_cv0, z_cl0, z_cv1, z_cl1, z_cv2, z_cl2, z_cv3, z_cl3, z_cv4, z_cl4, z_cv5, z_cl5, z_cv6, z_cl6, z_cv7, z_cl7, z_cv8, z_cl8, z_cv9, z_cl9, z_cv10, z_cl10, z_cv11, z_cl11, z_cv12, z_cl12, z_cv13, z_cl13, z_len, z_elt, z_isI, z_isJ, Nat.reduceEqDiff, Nat.reduceLeDiff, Nat.reduceLT, Nat.reduceSub, Nat.reduceMul, not_false_eq_true, not_true_eq_false, true_and, and_true, true_or, or_true, false_or, or_false, true_implies, false_implies, implies_true, forall_const, and_self, ne_eq, Classical.not_not, z_up1, z_up2, z_cp1, z_cp2, z_upL1, z_upL2, if_true, if_false, and_false, false_and]
    refine ⟨fun _ => q, fun b1 => ⟨fun _ => q, fun b2 => ⟨z_vi_24 b1 (Int32.not_le.mp b2), fun _ => q, fun b3 => s_isSet ?_⟩⟩⟩
    refine z_go (cut := [22, 13, 36, 49, 55]) 60 ?_
    have b4 : r_isSet r = 0 := Classical.byContradiction fun z => a0 ⟨b1, b2, b3, z⟩
    simp only [z_wp, Bool.false_eq_true, ↓reduceIte, z_e10, z_e01, eq_self, Int32.reduceLT, Int32.reduceLE, Int32.reduceGT, Int32.reduceGE, z_in, cond_true, cond_false, Nat.reduceAdd, Nat.reduceBEq, z_nth, z_set, z_clr, z_st1, z_st2, z_isL, z_opt, z_pop, z_cats, z_cat, c_X8_come_0, c_X8_come_1, c_X8_come_2, c_X8_come_3, c_X8_come_4, c_X8_come_5, c_X8_come_6, c_X8_come_7, c_X8_come_8, c_X8_come_9, c_X8_come_10, c_X8_come_11, c_X8_come_12, c_X8_come_13, c_X8_come_14, c_X8_come_15, c_X8_come_16, c_X8_come_17, c_X8_come_18, c_X8_come_19, c_X8_come_20, c_X8_come_21, c_X8_come_22, c_X8_come_23, c_X8_come_24, c_X8_come_25, c_X8_come_26, c_X8_come_27, c_X8_come_28, c_X8_come_29, c_X8_come_30, c_X8_come_31, c_X8_come_32, c_X8_come_33, c_X8_come_34, c_X8_come_35, c_X8_come_36, c_X8_come_37, c_X8_come_38, c_X8_come_39, c_X8_come_40, c_X8_come_41, c_X8_come_42, c_X8_come_43, c_X8_come_44, c_X8_come_45, c_X8_come_46, c_X8_come_47, c_X8_come_48, c_X8_come_49, c_X8_come_50, c_X8_come_51, c_X8_come_52, c_X8_come_53, c_X8_come_54, c_X8_come_55, c_X8_come_56, o_aald, o_aload, o_bin, o_call, o_callv, o_get, o_getr, o_goto, o_ic, o_icmp, o_if, o_iinc, o_iload, o_istore, o_zret, z_cv0, z_cl0, z_cv1, z_cl1, z_cv2, z_cl2, z_cv3, z_cl3, z_cv4, z_cl4, z_cv5, z_cl5, z_cv6, z_cl6, z_cv7, z_cl7, z_cv8, z_cl8, z_cv9, z_cl9, z_cv10, z_cl10, z_cv11, z_cl11, z_cv12, z_cl12, z_cv13, z_cl13, z_len, z_elt, z_isI, z_isJ, Nat.reduceEqDiff, Nat.reduceLeDiff, Nat.reduceLT, Nat.reduceSub, Nat.reduceMul, not_false_eq_true, not_true_eq_false, true_and, and_true, true_or, or_true, false_or, or_false, true_implies, false_implies, implies_true, forall_const, and_self, ne_eq, Classical.not_not, z_up1, z_up2, z_cp1, z_cp2, z_upL1, z_upL2, if_true, if_false, and_false, false_and, b4]
    exact q
