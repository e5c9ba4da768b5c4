/-! the law's calls -/
section LL
variable {p : Program} {l : Launch} {e : Env} {s : State} {m : MethodId} {below : List Frame} {meth : Method} {c : Code} {b L : Nat} {xs : Nat → Int32} {H : Heap} {locs : List Loc} {Q : State → Prop} {jls : Array Slot} {E : zE} {M : zMem} {bd i cells slots : Nat}
set_option maxHeartbeats 4000000 in
set_option maxRecDepth 100000 in
theorem ll_c14 (C : ll_C p s m meth c b L xs) (S : ll_S s E M bd H locs) (hbd : bd < 2000000000) (hl : ll_H jls E b i) (hi : i + 6 < L) (hcs : cells + 70 ≤ 176566 ∧ slots + 7120 ≤ 8572552) (kk : ll_K p l e s m b below meth c Q E bd cells slots jls) : W p l e room_1 s m #[Value.ref b] below meth c H locs cells slots Q (F0 m 778 jls []) := by
  obtain ⟨hx, hb, hr, hml, hown, htz, hX, hbl, hlk, hL⟩ := id C
  obtain ⟨hw, hSB, hP, hS, hA, hV⟩ := id S
  obtain ⟨hE, hin10, hin11, -⟩ := id hw
  obtain ⟨v, J2, J3, z1, z2, sb, j10, x, rfl⟩ := two_reader (r := xs (i + 1)) (k := xs (i + 2)) hSB (by omega)
  refine lv_aload_n hx hb dL_law_778 rfl (lv_at hl 2 rfl) ?_
  refine ll_arg (pc := 779) (k := 1) C hS hl (by omega) dL_law_779 dL_law_780 dL_law_781 (by decide) dL_law_782 dL_law_783 ?_
  refine ll_arg (pc := 784) (k := 2) C hS hl (by omega) dL_law_784 dL_law_785 dL_law_786 (by decide) dL_law_787 dL_law_788 ?_
  refine z_cV (E := E) (M := M) (M2 := J2) (id := (10, 0, 0)) (as := [.inl (xs (i + 1)), .inl (xs (i + 2))]) (r := some (.inl x)) (k := 134) (n := 2) (rest := []) (ci := 7) (C := RX9) (T := TX9) (N := 4) hx hb hml hown htz z1 qw_1080 qw_22 ⟨by decide +kernel, by decide +kernel, by decide +kernel⟩ (Nat.le_of_ble_eq_true rfl) qw_1077 qw_1078 qw_1079 hE hin10 (by decide) (z_vokI rfl) rfl rfl ⟨_, rfl⟩ hP hS hA hV ⟨Nat.le_of_ble_eq_true rfl, Nat.le_of_ble_eq_true rfl⟩ ⟨by show cells ≤ 176566; omega, by show slots ≤ 8572552; omega⟩ hl.1 (Nat.le_of_ble_eq_true rfl) dL_law_789 rfl (fun H locs _ hP _ _ hS => ?_)
  refine W.eq (g2 := F0 m 792 jls [.int x]) rfl ?_
  refine lv_aload_n hx hb dL_law_792 rfl (lv_at hl 1 rfl) ?_
  refine ll_arg (pc := 793) (k := 1) C hS hl (by omega) dL_law_793 dL_law_794 dL_law_795 (by decide) dL_law_796 dL_law_797 ?_
  refine ll_arg (pc := 798) (k := 2) C hS hl (by omega) dL_law_798 dL_law_799 dL_law_800 (by decide) dL_law_801 dL_law_802 ?_
  refine z_cV (E := E) (M := J2) (M2 := J3) (id := (11, 0, 0)) (as := [.inl (xs (i + 1)), .inl (xs (i + 2))]) (r := some (.inl x)) (k := 226) (n := 2) (rest := [.int x]) (ci := 8) (C := RX10) (T := TX10) (N := 8) hx hb hml hown htz z2 qw_1084 qw_618 ⟨by decide +kernel, by decide +kernel, by decide +kernel⟩ (Nat.le_of_ble_eq_true rfl) qw_1081 qw_1082 qw_1083 hE hin11 (by decide) (z_vokI rfl) rfl rfl ⟨_, rfl⟩ hP hS hA hV ⟨Nat.le_of_ble_eq_true rfl, Nat.le_of_ble_eq_true rfl⟩ ⟨by show cells ≤ 176566; omega, by show slots ≤ 8572552; omega⟩ hl.1 (Nat.le_of_ble_eq_true rfl) dL_law_803 rfl (fun H locs _ hP _ _ hS => ?_)
  refine W.eq (g2 := F0 m 806 jls [.int x, .int x]) rfl ?_
  refine lv_icmp_eq (tgt := 1624) hx hb dL_law_806 (by decide) (fun _ => ?_) (fun z => absurd rfl z)
  refine W.widen (k := cells + 70) (n := slots + 7120) (by omega) (by omega) ?_
  exact kk E J3 H locs ext_rf ⟨by rw [j10.1, j10.2]; exact hw, sb, hP, hS, hA, hV⟩
set_option maxHeartbeats 4000000 in
set_option maxRecDepth 100000 in
theorem ll_c15 (C : ll_C p s m meth c b L xs) (S : ll_S s E M bd H locs) (hbd : bd < 2000000000) (hl : ll_H jls E b i) (hi : i + 6 < L) (hcs : cells + 70 ≤ 176566 ∧ slots + 7120 ≤ 8572552) (kk : ll_K p l e s m b below meth c Q E bd cells slots jls) : W p l e room_1 s m #[Value.ref b] below meth c H locs cells slots Q (F0 m 811 jls []) := by
  obtain ⟨hx, hb, hr, hml, hown, htz, hX, hbl, hlk, hL⟩ := id C
  obtain ⟨hw, hSB, hP, hS, hA, hV⟩ := id S
  obtain ⟨hE, hin10, hin11, -⟩ := id hw
  obtain ⟨v, J2, J3, z1, z2, sb, j10, x, rfl⟩ := two_prefix (r := xs (i + 1)) (i := xs (i + 2)) (k := xs (i + 3)) hSB
  refine lv_aload_n hx hb dL_law_811 rfl (lv_at hl 2 rfl) ?_
  refine ll_arg (pc := 812) (k := 1) C hS hl (by omega) dL_law_812 dL_law_813 dL_law_814 (by decide) dL_law_815 dL_law_816 ?_
  refine ll_arg (pc := 817) (k := 2) C hS hl (by omega) dL_law_817 dL_law_818 dL_law_819 (by decide) dL_law_820 dL_law_821 ?_
  refine ll_arg (pc := 822) (k := 3) C hS hl (by omega) dL_law_822 dL_law_823 dL_law_824 (by decide) dL_law_825 dL_law_826 ?_
  refine z_cV (E := E) (M := M) (M2 := J2) (id := (10, 0, 0)) (as := [.inl (xs (i + 1)), .inl (xs (i + 2)), .inl (xs (i + 3))]) (r := some (.inl x)) (k := 135) (n := 3) (rest := []) (ci := 7) (C := RX9) (T := TX9) (N := 4) hx hb hml hown htz z1 qw_1088 qw_22 ⟨by decide +kernel, by decide +kernel, by decide +kernel⟩ (Nat.le_of_ble_eq_true rfl) qw_1085 qw_1086 qw_1087 hE hin10 (by decide) (z_vokI rfl) rfl rfl ⟨_, rfl⟩ hP hS hA hV ⟨Nat.le_of_ble_eq_true rfl, Nat.le_of_ble_eq_true rfl⟩ ⟨by show cells ≤ 176566; omega, by show slots ≤ 8572552; omega⟩ hl.1 (Nat.le_of_ble_eq_true rfl) dL_law_827 rfl (fun H locs _ hP _ _ hS => ?_)
  refine W.eq (g2 := F0 m 830 jls [.int x]) rfl ?_
  refine lv_aload_n hx hb dL_law_830 rfl (lv_at hl 1 rfl) ?_
  refine ll_arg (pc := 831) (k := 1) C hS hl (by omega) dL_law_831 dL_law_832 dL_law_833 (by decide) dL_law_834 dL_law_835 ?_
  refine ll_arg (pc := 836) (k := 2) C hS hl (by omega) dL_law_836 dL_law_837 dL_law_838 (by decide) dL_law_839 dL_law_840 ?_
  refine ll_arg (pc := 841) (k := 3) C hS hl (by omega) dL_law_841 dL_law_842 dL_law_843 (by decide) dL_law_844 dL_law_845 ?_
  refine z_cV (E := E) (M := J2) (M2 := J3) (id := (11, 0, 0)) (as := [.inl (xs (i + 1)), .inl (xs (i + 2)), .inl (xs (i + 3))]) (r := some (.inl x)) (k := 227) (n := 3) (rest := [.int x]) (ci := 8) (C := RX10) (T := TX10) (N := 8) hx hb hml hown htz z2 qw_1092 qw_618 ⟨by decide +kernel, by decide +kernel, by decide +kernel⟩ (Nat.le_of_ble_eq_true rfl) qw_1089 qw_1090 qw_1091 hE hin11 (by decide) (z_vokI rfl) rfl rfl ⟨_, rfl⟩ hP hS hA hV ⟨Nat.le_of_ble_eq_true rfl, Nat.le_of_ble_eq_true rfl⟩ ⟨by show cells ≤ 176566; omega, by show slots ≤ 8572552; omega⟩ hl.1 (Nat.le_of_ble_eq_true rfl) dL_law_846 rfl (fun H locs _ hP _ _ hS => ?_)
  refine W.eq (g2 := F0 m 849 jls [.int x, .int x]) rfl ?_
  refine lv_icmp_eq (tgt := 1624) hx hb dL_law_849 (by decide) (fun _ => ?_) (fun z => absurd rfl z)
  refine W.widen (k := cells + 70) (n := slots + 7120) (by omega) (by omega) ?_
  exact kk E J3 H locs ext_rf ⟨by rw [j10.1, j10.2]; exact hw, sb, hP, hS, hA, hV⟩
set_option maxHeartbeats 4000000 in
set_option maxRecDepth 100000 in
theorem ll_c16 (C : ll_C p s m meth c b L xs) (S : ll_S s E M bd H locs) (hbd : bd < 2000000000) (hl : ll_H jls E b i) (hi : i + 6 < L) (hcs : cells + 70 ≤ 176566 ∧ slots + 7120 ≤ 8572552) (kk : ll_K p l e s m b below meth c Q E bd cells slots jls) : W p l e room_1 s m #[Value.ref b] below meth c H locs cells slots Q (F0 m 854 jls []) := by
  obtain ⟨hx, hb, hr, hml, hown, htz, hX, hbl, hlk, hL⟩ := id C
  obtain ⟨hw, hSB, hP, hS, hA, hV⟩ := id S
  obtain ⟨hE, hin10, hin11, -⟩ := id hw
  obtain ⟨v, J2, J3, z1, z2, sb, j10, x, rfl⟩ := two_learnt (r := xs (i + 1)) (i := xs (i + 2)) (k := xs (i + 3)) hSB
  refine lv_aload_n hx hb dL_law_854 rfl (lv_at hl 2 rfl) ?_
  refine ll_arg (pc := 855) (k := 1) C hS hl (by omega) dL_law_855 dL_law_856 dL_law_857 (by decide) dL_law_858 dL_law_859 ?_
  refine ll_arg (pc := 860) (k := 2) C hS hl (by omega) dL_law_860 dL_law_861 dL_law_862 (by decide) dL_law_863 dL_law_864 ?_
  refine ll_arg (pc := 865) (k := 3) C hS hl (by omega) dL_law_865 dL_law_866 dL_law_867 (by decide) dL_law_868 dL_law_869 ?_
  refine z_cV (E := E) (M := M) (M2 := J2) (id := (10, 0, 0)) (as := [.inl (xs (i + 1)), .inl (xs (i + 2)), .inl (xs (i + 3))]) (r := some (.inl x)) (k := 136) (n := 3) (rest := []) (ci := 7) (C := RX9) (T := TX9) (N := 4) hx hb hml hown htz z1 qw_1096 qw_22 ⟨by decide +kernel, by decide +kernel, by decide +kernel⟩ (Nat.le_of_ble_eq_true rfl) qw_1093 qw_1094 qw_1095 hE hin10 (by decide) (z_vokI rfl) rfl rfl ⟨_, rfl⟩ hP hS hA hV ⟨Nat.le_of_ble_eq_true rfl, Nat.le_of_ble_eq_true rfl⟩ ⟨by show cells ≤ 176566; omega, by show slots ≤ 8572552; omega⟩ hl.1 (Nat.le_of_ble_eq_true rfl) dL_law_870 rfl (fun H locs _ hP _ _ hS => ?_)
  refine W.eq (g2 := F0 m 873 jls [.int x]) rfl ?_
  refine lv_aload_n hx hb dL_law_873 rfl (lv_at hl 1 rfl) ?_
  refine ll_arg (pc := 874) (k := 1) C hS hl (by omega) dL_law_874 dL_law_875 dL_law_876 (by decide) dL_law_877 dL_law_878 ?_
  refine ll_arg (pc := 879) (k := 2) C hS hl (by omega) dL_law_879 dL_law_880 dL_law_881 (by decide) dL_law_882 dL_law_883 ?_
  refine ll_arg (pc := 884) (k := 3) C hS hl (by omega) dL_law_884 dL_law_885 dL_law_886 (by decide) dL_law_887 dL_law_888 ?_
  refine z_cV (E := E) (M := J2) (M2 := J3) (id := (11, 0, 0)) (as := [.inl (xs (i + 1)), .inl (xs (i + 2)), .inl (xs (i + 3))]) (r := some (.inl x)) (k := 228) (n := 3) (rest := [.int x]) (ci := 8) (C := RX10) (T := TX10) (N := 8) hx hb hml hown htz z2 qw_1100 qw_618 ⟨by decide +kernel, by decide +kernel, by decide +kernel⟩ (Nat.le_of_ble_eq_true rfl) qw_1097 qw_1098 qw_1099 hE hin11 (by decide) (z_vokI rfl) rfl rfl ⟨_, rfl⟩ hP hS hA hV ⟨Nat.le_of_ble_eq_true rfl, Nat.le_of_ble_eq_true rfl⟩ ⟨by show cells ≤ 176566; omega, by show slots ≤ 8572552; omega⟩ hl.1 (Nat.le_of_ble_eq_true rfl) dL_law_889 rfl (fun H locs _ hP _ _ hS => ?_)
  refine W.eq (g2 := F0 m 892 jls [.int x, .int x]) rfl ?_
  refine lv_icmp_eq (tgt := 1624) hx hb dL_law_892 (by decide) (fun _ => ?_) (fun z => absurd rfl z)
  refine W.widen (k := cells + 70) (n := slots + 7120) (by omega) (by omega) ?_
  exact kk E J3 H locs ext_rf ⟨by rw [j10.1, j10.2]; exact hw, sb, hP, hS, hA, hV⟩
set_option maxHeartbeats 4000000 in
set_option maxRecDepth 100000 in
theorem ll_c17 (C : ll_C p s m meth c b L xs) (S : ll_S s E M bd H locs) (hbd : bd < 2000000000) (hl : ll_H jls E b i) (hi : i + 6 < L) (hcs : cells + 70 ≤ 176566 ∧ slots + 7120 ≤ 8572552) (kk : ll_K p l e s m b below meth c Q E bd cells slots jls) : W p l e room_1 s m #[Value.ref b] below meth c H locs cells slots Q (F0 m 897 jls []) := by
  obtain ⟨hx, hb, hr, hml, hown, htz, hX, hbl, hlk, hL⟩ := id C
  obtain ⟨hw, hSB, hP, hS, hA, hV⟩ := id S
  obtain ⟨hE, hin10, hin11, -⟩ := id hw
  obtain ⟨v, J2, J3, z1, z2, sb, j10, x, rfl⟩ := two_jammed (t := xs (i + 1)) hSB
  refine lv_aload_n hx hb dL_law_897 rfl (lv_at hl 2 rfl) ?_
  refine ll_arg (pc := 898) (k := 1) C hS hl (by omega) dL_law_898 dL_law_899 dL_law_900 (by decide) dL_law_901 dL_law_902 ?_
  refine z_cV (E := E) (M := M) (M2 := J2) (id := (10, 0, 0)) (as := [.inl (xs (i + 1))]) (r := some (.inl x)) (k := 137) (n := 1) (rest := []) (ci := 7) (C := RX9) (T := TX9) (N := 4) hx hb hml hown htz z1 qw_1104 qw_22 ⟨by decide +kernel, by decide +kernel, by decide +kernel⟩ (Nat.le_of_ble_eq_true rfl) qw_1101 qw_1102 qw_1103 hE hin10 (by decide) (z_vokI rfl) rfl rfl ⟨_, rfl⟩ hP hS hA hV ⟨Nat.le_of_ble_eq_true rfl, Nat.le_of_ble_eq_true rfl⟩ ⟨by show cells ≤ 176566; omega, by show slots ≤ 8572552; omega⟩ hl.1 (Nat.le_of_ble_eq_true rfl) dL_law_903 rfl (fun H locs _ hP _ _ hS => ?_)
  refine W.eq (g2 := F0 m 906 jls [.int x]) rfl ?_
  refine lv_aload_n hx hb dL_law_906 rfl (lv_at hl 1 rfl) ?_
  refine ll_arg (pc := 907) (k := 1) C hS hl (by omega) dL_law_907 dL_law_908 dL_law_909 (by decide) dL_law_910 dL_law_911 ?_
  refine z_cV (E := E) (M := J2) (M2 := J3) (id := (11, 0, 0)) (as := [.inl (xs (i + 1))]) (r := some (.inl x)) (k := 229) (n := 1) (rest := [.int x]) (ci := 8) (C := RX10) (T := TX10) (N := 8) hx hb hml hown htz z2 qw_1108 qw_618 ⟨by decide +kernel, by decide +kernel, by decide +kernel⟩ (Nat.le_of_ble_eq_true rfl) qw_1105 qw_1106 qw_1107 hE hin11 (by decide) (z_vokI rfl) rfl rfl ⟨_, rfl⟩ hP hS hA hV ⟨Nat.le_of_ble_eq_true rfl, Nat.le_of_ble_eq_true rfl⟩ ⟨by show cells ≤ 176566; omega, by show slots ≤ 8572552; omega⟩ hl.1 (Nat.le_of_ble_eq_true rfl) dL_law_912 rfl (fun H locs _ hP _ _ hS => ?_)
  refine W.eq (g2 := F0 m 915 jls [.int x, .int x]) rfl ?_
  refine lv_icmp_eq (tgt := 1624) hx hb dL_law_915 (by decide) (fun _ => ?_) (fun z => absurd rfl z)
  refine W.widen (k := cells + 70) (n := slots + 7120) (by omega) (by omega) ?_
  exact kk E J3 H locs ext_rf ⟨by rw [j10.1, j10.2]; exact hw, sb, hP, hS, hA, hV⟩
set_option maxHeartbeats 4000000 in
set_option maxRecDepth 100000 in
theorem ll_c18 (C : ll_C p s m meth c b L xs) (S : ll_S s E M bd H locs) (hbd : bd < 2000000000) (hl : ll_H jls E b i) (hi : i + 6 < L) (hcs : cells + 70 ≤ 176566 ∧ slots + 7120 ≤ 8572552) (kk : ll_K p l e s m b below meth c Q E bd cells slots jls) : W p l e room_1 s m #[Value.ref b] below meth c H locs cells slots Q (F0 m 920 jls []) := by
  obtain ⟨hx, hb, hr, hml, hown, htz, hX, hbl, hlk, hL⟩ := id C
  obtain ⟨hw, hSB, hP, hS, hA, hV⟩ := id S
  obtain ⟨hE, hin10, hin11, -⟩ := id hw
  obtain ⟨v, J2, J3, z1, z2, sb, j10, x, rfl⟩ := two_channels (k := xs (i + 1)) hSB
  refine lv_aload_n hx hb dL_law_920 rfl (lv_at hl 2 rfl) ?_
  refine ll_arg (pc := 921) (k := 1) C hS hl (by omega) dL_law_921 dL_law_922 dL_law_923 (by decide) dL_law_924 dL_law_925 ?_
  refine z_cV (E := E) (M := M) (M2 := J2) (id := (10, 0, 0)) (as := [.inl (xs (i + 1))]) (r := some (.inl x)) (k := 138) (n := 1) (rest := []) (ci := 7) (C := RX9) (T := TX9) (N := 4) hx hb hml hown htz z1 qw_1112 qw_22 ⟨by decide +kernel, by decide +kernel, by decide +kernel⟩ (Nat.le_of_ble_eq_true rfl) qw_1109 qw_1110 qw_1111 hE hin10 (by decide) (z_vokI rfl) rfl rfl ⟨_, rfl⟩ hP hS hA hV ⟨Nat.le_of_ble_eq_true rfl, Nat.le_of_ble_eq_true rfl⟩ ⟨by show cells ≤ 176566; omega, by show slots ≤ 8572552; omega⟩ hl.1 (Nat.le_of_ble_eq_true rfl) dL_law_926 rfl (fun H locs _ hP _ _ hS => ?_)
  refine W.eq (g2 := F0 m 929 jls [.int x]) rfl ?_
  refine lv_aload_n hx hb dL_law_929 rfl (lv_at hl 1 rfl) ?_
  refine ll_arg (pc := 930) (k := 1) C hS hl (by omega) dL_law_930 dL_law_931 dL_law_932 (by decide) dL_law_933 dL_law_934 ?_
  refine z_cV (E := E) (M := J2) (M2 := J3) (id := (11, 0, 0)) (as := [.inl (xs (i + 1))]) (r := some (.inl x)) (k := 234) (n := 1) (rest := [.int x]) (ci := 8) (C := RX10) (T := TX10) (N := 8) hx hb hml hown htz z2 qw_1116 qw_618 ⟨by decide +kernel, by decide +kernel, by decide +kernel⟩ (Nat.le_of_ble_eq_true rfl) qw_1113 qw_1114 qw_1115 hE hin11 (by decide) (z_vokI rfl) rfl rfl ⟨_, rfl⟩ hP hS hA hV ⟨Nat.le_of_ble_eq_true rfl, Nat.le_of_ble_eq_true rfl⟩ ⟨by show cells ≤ 176566; omega, by show slots ≤ 8572552; omega⟩ hl.1 (Nat.le_of_ble_eq_true rfl) dL_law_935 rfl (fun H locs _ hP _ _ hS => ?_)
  refine W.eq (g2 := F0 m 938 jls [.int x, .int x]) rfl ?_
  refine lv_icmp_eq (tgt := 1624) hx hb dL_law_938 (by decide) (fun _ => ?_) (fun z => absurd rfl z)
  refine W.widen (k := cells + 70) (n := slots + 7120) (by omega) (by omega) ?_
  exact kk E J3 H locs ext_rf ⟨by rw [j10.1, j10.2]; exact hw, sb, hP, hS, hA, hV⟩
set_option maxHeartbeats 4000000 in
set_option maxRecDepth 100000 in
theorem ll_c19 (C : ll_C p s m meth c b L xs) (S : ll_S s E M bd H locs) (hbd : bd < 2000000000) (hl : ll_H jls E b i) (hi : i + 6 < L) (hcs : cells + 70 ≤ 176566 ∧ slots + 7120 ≤ 8572552) (kk : ll_K p l e s m b below meth c Q E bd cells slots jls) : W p l e room_1 s m #[Value.ref b] below meth c H locs cells slots Q (F0 m 943 jls []) := by
  obtain ⟨hx, hb, hr, hml, hown, htz, hX, hbl, hlk, hL⟩ := id C
  obtain ⟨hw, hSB, hP, hS, hA, hV⟩ := id S
  obtain ⟨hE, hin10, hin11, -⟩ := id hw
  obtain ⟨v, J2, J3, z1, z2, sb, j10, x, rfl⟩ := two_cover  hSB
  refine lv_aload_n hx hb dL_law_943 rfl (lv_at hl 2 rfl) ?_
  refine z_cV (E := E) (M := M) (M2 := J2) (id := (10, 0, 0)) (as := []) (r := some (.inl x)) (k := 139) (n := 0) (rest := []) (ci := 7) (C := RX9) (T := TX9) (N := 4) hx hb hml hown htz z1 qw_1120 qw_22 ⟨by decide +kernel, by decide +kernel, by decide +kernel⟩ (Nat.le_of_ble_eq_true rfl) qw_1117 qw_1118 qw_1119 hE hin10 (by decide) (z_vokI rfl) rfl rfl ⟨_, rfl⟩ hP hS hA hV ⟨Nat.le_of_ble_eq_true rfl, Nat.le_of_ble_eq_true rfl⟩ ⟨by show cells ≤ 176566; omega, by show slots ≤ 8572552; omega⟩ hl.1 (Nat.le_of_ble_eq_true rfl) dL_law_944 rfl (fun H locs _ hP _ _ hS => ?_)
  refine W.eq (g2 := F0 m 947 jls [.int x]) rfl ?_
  refine lv_aload_n hx hb dL_law_947 rfl (lv_at hl 1 rfl) ?_
  refine z_cV (E := E) (M := J2) (M2 := J3) (id := (11, 0, 0)) (as := []) (r := some (.inl x)) (k := 236) (n := 0) (rest := [.int x]) (ci := 8) (C := RX10) (T := TX10) (N := 8) hx hb hml hown htz z2 qw_1124 qw_618 ⟨by decide +kernel, by decide +kernel, by decide +kernel⟩ (Nat.le_of_ble_eq_true rfl) qw_1121 qw_1122 qw_1123 hE hin11 (by decide) (z_vokI rfl) rfl rfl ⟨_, rfl⟩ hP hS hA hV ⟨Nat.le_of_ble_eq_true rfl, Nat.le_of_ble_eq_true rfl⟩ ⟨by show cells ≤ 176566; omega, by show slots ≤ 8572552; omega⟩ hl.1 (Nat.le_of_ble_eq_true rfl) dL_law_948 rfl (fun H locs _ hP _ _ hS => ?_)
  refine W.eq (g2 := F0 m 951 jls [.int x, .int x]) rfl ?_
  refine lv_icmp_eq (tgt := 1624) hx hb dL_law_951 (by decide) (fun _ => ?_) (fun z => absurd rfl z)
  refine W.widen (k := cells + 70) (n := slots + 7120) (by omega) (by omega) ?_
  exact kk E J3 H locs ext_rf ⟨by rw [j10.1, j10.2]; exact hw, sb, hP, hS, hA, hV⟩
set_option maxHeartbeats 4000000 in
set_option maxRecDepth 100000 in
theorem ll_c20 (C : ll_C p s m meth c b L xs) (S : ll_S s E M bd H locs) (hbd : bd < 2000000000) (hl : ll_H jls E b i) (hi : i + 6 < L) (hcs : cells + 70 ≤ 176566 ∧ slots + 7120 ≤ 8572552) (kk : ll_K p l e s m b below meth c Q E bd cells slots jls) : W p l e room_1 s m #[Value.ref b] below meth c H locs cells slots Q (F0 m 956 jls []) := by
  obtain ⟨hx, hb, hr, hml, hown, htz, hX, hbl, hlk, hL⟩ := id C
  obtain ⟨hw, hSB, hP, hS, hA, hV⟩ := id S
  obtain ⟨hE, hin10, hin11, -⟩ := id hw
  obtain ⟨v, J2, J3, z1, z2, sb, j10, x, rfl⟩ := two_read (r := xs (i + 1)) (i := xs (i + 2)) hSB
  refine lv_aload_n hx hb dL_law_956 rfl (lv_at hl 2 rfl) ?_
  refine ll_arg (pc := 957) (k := 1) C hS hl (by omega) dL_law_957 dL_law_958 dL_law_959 (by decide) dL_law_960 dL_law_961 ?_
  refine ll_arg (pc := 962) (k := 2) C hS hl (by omega) dL_law_962 dL_law_963 dL_law_964 (by decide) dL_law_965 dL_law_966 ?_
  refine z_cV (E := E) (M := M) (M2 := J2) (id := (10, 0, 0)) (as := [.inl (xs (i + 1)), .inl (xs (i + 2))]) (r := some (.inl x)) (k := 140) (n := 2) (rest := []) (ci := 7) (C := RX9) (T := TX9) (N := 4) hx hb hml hown htz z1 qw_1128 qw_22 ⟨by decide +kernel, by decide +kernel, by decide +kernel⟩ (Nat.le_of_ble_eq_true rfl) qw_1125 qw_1126 qw_1127 hE hin10 (by decide) (z_vokI rfl) rfl rfl ⟨_, rfl⟩ hP hS hA hV ⟨Nat.le_of_ble_eq_true rfl, Nat.le_of_ble_eq_true rfl⟩ ⟨by show cells ≤ 176566; omega, by show slots ≤ 8572552; omega⟩ hl.1 (Nat.le_of_ble_eq_true rfl) dL_law_967 rfl (fun H locs _ hP _ _ hS => ?_)
  refine W.eq (g2 := F0 m 970 jls [.int x]) rfl ?_
  refine lv_aload_n hx hb dL_law_970 rfl (lv_at hl 1 rfl) ?_
  refine ll_arg (pc := 971) (k := 1) C hS hl (by omega) dL_law_971 dL_law_972 dL_law_973 (by decide) dL_law_974 dL_law_975 ?_
  refine ll_arg (pc := 976) (k := 2) C hS hl (by omega) dL_law_976 dL_law_977 dL_law_978 (by decide) dL_law_979 dL_law_980 ?_
  refine z_cV (E := E) (M := J2) (M2 := J3) (id := (11, 0, 0)) (as := [.inl (xs (i + 1)), .inl (xs (i + 2))]) (r := some (.inl x)) (k := 237) (n := 2) (rest := [.int x]) (ci := 8) (C := RX10) (T := TX10) (N := 8) hx hb hml hown htz z2 qw_1132 qw_618 ⟨by decide +kernel, by decide +kernel, by decide +kernel⟩ (Nat.le_of_ble_eq_true rfl) qw_1129 qw_1130 qw_1131 hE hin11 (by decide) (z_vokI rfl) rfl rfl ⟨_, rfl⟩ hP hS hA hV ⟨Nat.le_of_ble_eq_true rfl, Nat.le_of_ble_eq_true rfl⟩ ⟨by show cells ≤ 176566; omega, by show slots ≤ 8572552; omega⟩ hl.1 (Nat.le_of_ble_eq_true rfl) dL_law_981 rfl (fun H locs _ hP _ _ hS => ?_)
  refine W.eq (g2 := F0 m 984 jls [.int x, .int x]) rfl ?_
  refine lv_icmp_eq (tgt := 1624) hx hb dL_law_984 (by decide) (fun _ => ?_) (fun z => absurd rfl z)
  refine W.widen (k := cells + 70) (n := slots + 7120) (by omega) (by omega) ?_
  exact kk E J3 H locs ext_rf ⟨by rw [j10.1, j10.2]; exact hw, sb, hP, hS, hA, hV⟩
set_option maxHeartbeats 4000000 in
set_option maxRecDepth 100000 in
theorem ll_c21 (C : ll_C p s m meth c b L xs) (S : ll_S s E M bd H locs) (hbd : bd < 2000000000) (hl : ll_H jls E b i) (hi : i + 6 < L) (hcs : cells + 70 ≤ 176566 ∧ slots + 7120 ≤ 8572552) (kk : ll_K p l e s m b below meth c Q E bd cells slots jls) : W p l e room_1 s m #[Value.ref b] below meth c H locs cells slots Q (F0 m 989 jls []) := by
  obtain ⟨hx, hb, hr, hml, hown, htz, hX, hbl, hlk, hL⟩ := id C
  obtain ⟨hw, hSB, hP, hS, hA, hV⟩ := id S
  obtain ⟨hE, hin10, hin11, -⟩ := id hw
  obtain ⟨v, J2, J3, z1, z2, sb, j10, x, rfl⟩ := two_would (r := xs (i + 1)) (se := xs (i + 2)) (ta := xs (i + 3)) (so := xs (i + 4)) hSB
  refine lv_aload_n hx hb dL_law_989 rfl (lv_at hl 2 rfl) ?_
  refine ll_arg (pc := 990) (k := 1) C hS hl (by omega) dL_law_990 dL_law_991 dL_law_992 (by decide) dL_law_993 dL_law_994 ?_
  refine ll_arg (pc := 995) (k := 2) C hS hl (by omega) dL_law_995 dL_law_996 dL_law_997 (by decide) dL_law_998 dL_law_999 ?_
  refine ll_arg (pc := 1000) (k := 3) C hS hl (by omega) dL_law_1000 dL_law_1001 dL_law_1002 (by decide) dL_law_1003 dL_law_1004 ?_
  refine ll_arg (pc := 1005) (k := 4) C hS hl (by omega) dL_law_1005 dL_law_1006 dL_law_1007 (by decide) dL_law_1008 dL_law_1009 ?_
  refine z_cV (E := E) (M := M) (M2 := J2) (id := (10, 0, 0)) (as := [.inl (xs (i + 1)), .inl (xs (i + 2)), .inl (xs (i + 3)), .inl (xs (i + 4))]) (r := some (.inl x)) (k := 141) (n := 4) (rest := []) (ci := 7) (C := RX9) (T := TX9) (N := 4) hx hb hml hown htz z1 qw_1136 qw_22 ⟨by decide +kernel, by decide +kernel, by decide +kernel⟩ (Nat.le_of_ble_eq_true rfl) qw_1133 qw_1134 qw_1135 hE hin10 (by decide) (z_vokI rfl) rfl rfl ⟨_, rfl⟩ hP hS hA hV ⟨Nat.le_of_ble_eq_true rfl, Nat.le_of_ble_eq_true rfl⟩ ⟨by show cells ≤ 176566; omega, by show slots ≤ 8572552; omega⟩ hl.1 (Nat.le_of_ble_eq_true rfl) dL_law_1010 rfl (fun H locs _ hP _ _ hS => ?_)
  refine W.eq (g2 := F0 m 1013 jls [.int x]) rfl ?_
  refine lv_aload_n hx hb dL_law_1013 rfl (lv_at hl 1 rfl) ?_
  refine ll_arg (pc := 1014) (k := 1) C hS hl (by omega) dL_law_1014 dL_law_1015 dL_law_1016 (by decide) dL_law_1017 dL_law_1018 ?_
  refine ll_arg (pc := 1019) (k := 2) C hS hl (by omega) dL_law_1019 dL_law_1020 dL_law_1021 (by decide) dL_law_1022 dL_law_1023 ?_
  refine ll_arg (pc := 1024) (k := 3) C hS hl (by omega) dL_law_1024 dL_law_1025 dL_law_1026 (by decide) dL_law_1027 dL_law_1028 ?_
  refine ll_arg (pc := 1029) (k := 4) C hS hl (by omega) dL_law_1029 dL_law_1030 dL_law_1031 (by decide) dL_law_1032 dL_law_1033 ?_
  refine z_cV (E := E) (M := J2) (M2 := J3) (id := (11, 0, 0)) (as := [.inl (xs (i + 1)), .inl (xs (i + 2)), .inl (xs (i + 3)), .inl (xs (i + 4))]) (r := some (.inl x)) (k := 238) (n := 4) (rest := [.int x]) (ci := 8) (C := RX10) (T := TX10) (N := 8) hx hb hml hown htz z2 qw_1140 qw_618 ⟨by decide +kernel, by decide +kernel, by decide +kernel⟩ (Nat.le_of_ble_eq_true rfl) qw_1137 qw_1138 qw_1139 hE hin11 (by decide) (z_vokI rfl) rfl rfl ⟨_, rfl⟩ hP hS hA hV ⟨Nat.le_of_ble_eq_true rfl, Nat.le_of_ble_eq_true rfl⟩ ⟨by show cells ≤ 176566; omega, by show slots ≤ 8572552; omega⟩ hl.1 (Nat.le_of_ble_eq_true rfl) dL_law_1034 rfl (fun H locs _ hP _ _ hS => ?_)
  refine W.eq (g2 := F0 m 1037 jls [.int x, .int x]) rfl ?_
  refine lv_icmp_eq (tgt := 1624) hx hb dL_law_1037 (by decide) (fun _ => ?_) (fun z => absurd rfl z)
  refine W.widen (k := cells + 70) (n := slots + 7120) (by omega) (by omega) ?_
  exact kk E J3 H locs ext_rf ⟨by rw [j10.1, j10.2]; exact hw, sb, hP, hS, hA, hV⟩
set_option maxHeartbeats 4000000 in
set_option maxRecDepth 100000 in
theorem ll_c22 (C : ll_C p s m meth c b L xs) (S : ll_S s E M bd H locs) (hbd : bd < 2000000000) (hl : ll_H jls E b i) (hi : i + 6 < L) (hcs : cells + 70 ≤ 176566 ∧ slots + 7120 ≤ 8572552) (kk : ll_K p l e s m b below meth c Q E bd cells slots jls) : W p l e room_1 s m #[Value.ref b] below meth c H locs cells slots Q (F0 m 1042 jls []) := by
  obtain ⟨hx, hb, hr, hml, hown, htz, hX, hbl, hlk, hL⟩ := id C
  obtain ⟨hw, hSB, hP, hS, hA, hV⟩ := id S
  obtain ⟨hE, hin10, hin11, -⟩ := id hw
  obtain ⟨v, J2, J3, z1, z2, sb, j10, x, rfl⟩ := two_queries (r := xs (i + 1)) (se := xs (i + 2)) (ta := xs (i + 3)) (so := xs (i + 4)) hSB
  refine lv_aload_n hx hb dL_law_1042 rfl (lv_at hl 2 rfl) ?_
  refine ll_arg (pc := 1043) (k := 1) C hS hl (by omega) dL_law_1043 dL_law_1044 dL_law_1045 (by decide) dL_law_1046 dL_law_1047 ?_
  refine ll_arg (pc := 1048) (k := 2) C hS hl (by omega) dL_law_1048 dL_law_1049 dL_law_1050 (by decide) dL_law_1051 dL_law_1052 ?_
  refine ll_arg (pc := 1053) (k := 3) C hS hl (by omega) dL_law_1053 dL_law_1054 dL_law_1055 (by decide) dL_law_1056 dL_law_1057 ?_
  refine ll_arg (pc := 1058) (k := 4) C hS hl (by omega) dL_law_1058 dL_law_1059 dL_law_1060 (by decide) dL_law_1061 dL_law_1062 ?_
  refine z_cV (E := E) (M := M) (M2 := J2) (id := (10, 0, 0)) (as := [.inl (xs (i + 1)), .inl (xs (i + 2)), .inl (xs (i + 3)), .inl (xs (i + 4))]) (r := some (.inl x)) (k := 142) (n := 4) (rest := []) (ci := 7) (C := RX9) (T := TX9) (N := 4) hx hb hml hown htz z1 qw_1144 qw_22 ⟨by decide +kernel, by decide +kernel, by decide +kernel⟩ (Nat.le_of_ble_eq_true rfl) qw_1141 qw_1142 qw_1143 hE hin10 (by decide) (z_vokI rfl) rfl rfl ⟨_, rfl⟩ hP hS hA hV ⟨Nat.le_of_ble_eq_true rfl, Nat.le_of_ble_eq_true rfl⟩ ⟨by show cells ≤ 176566; omega, by show slots ≤ 8572552; omega⟩ hl.1 (Nat.le_of_ble_eq_true rfl) dL_law_1063 rfl (fun H locs _ hP _ _ hS => ?_)
  refine W.eq (g2 := F0 m 1066 jls [.int x]) rfl ?_
  refine lv_aload_n hx hb dL_law_1066 rfl (lv_at hl 1 rfl) ?_
  refine ll_arg (pc := 1067) (k := 1) C hS hl (by omega) dL_law_1067 dL_law_1068 dL_law_1069 (by decide) dL_law_1070 dL_law_1071 ?_
  refine ll_arg (pc := 1072) (k := 2) C hS hl (by omega) dL_law_1072 dL_law_1073 dL_law_1074 (by decide) dL_law_1075 dL_law_1076 ?_
  refine ll_arg (pc := 1077) (k := 3) C hS hl (by omega) dL_law_1077 dL_law_1078 dL_law_1079 (by decide) dL_law_1080 dL_law_1081 ?_
  refine ll_arg (pc := 1082) (k := 4) C hS hl (by omega) dL_law_1082 dL_law_1083 dL_law_1084 (by decide) dL_law_1085 dL_law_1086 ?_
  refine z_cV (E := E) (M := J2) (M2 := J3) (id := (11, 0, 0)) (as := [.inl (xs (i + 1)), .inl (xs (i + 2)), .inl (xs (i + 3)), .inl (xs (i + 4))]) (r := some (.inl x)) (k := 239) (n := 4) (rest := [.int x]) (ci := 8) (C := RX10) (T := TX10) (N := 8) hx hb hml hown htz z2 qw_1148 qw_618 ⟨by decide +kernel, by decide +kernel, by decide +kernel⟩ (Nat.le_of_ble_eq_true rfl) qw_1145 qw_1146 qw_1147 hE hin11 (by decide) (z_vokI rfl) rfl rfl ⟨_, rfl⟩ hP hS hA hV ⟨Nat.le_of_ble_eq_true rfl, Nat.le_of_ble_eq_true rfl⟩ ⟨by show cells ≤ 176566; omega, by show slots ≤ 8572552; omega⟩ hl.1 (Nat.le_of_ble_eq_true rfl) dL_law_1087 rfl (fun H locs _ hP _ _ hS => ?_)
  refine W.eq (g2 := F0 m 1090 jls [.int x, .int x]) rfl ?_
  refine lv_icmp_eq (tgt := 1624) hx hb dL_law_1090 (by decide) (fun _ => ?_) (fun z => absurd rfl z)
  refine W.widen (k := cells + 70) (n := slots + 7120) (by omega) (by omega) ?_
  exact kk E J3 H locs ext_rf ⟨by rw [j10.1, j10.2]; exact hw, sb, hP, hS, hA, hV⟩
set_option maxHeartbeats 4000000 in
set_option maxRecDepth 100000 in
theorem ll_c23 (C : ll_C p s m meth c b L xs) (S : ll_S s E M bd H locs) (hbd : bd < 2000000000) (hl : ll_H jls E b i) (hi : i + 6 < L) (hcs : cells + 70 ≤ 176566 ∧ slots + 7120 ≤ 8572552) (kk : ll_K p l e s m b below meth c Q E bd cells slots jls) : W p l e room_1 s m #[Value.ref b] below meth c H locs cells slots Q (F0 m 1095 jls []) := by
  obtain ⟨hx, hb, hr, hml, hown, htz, hX, hbl, hlk, hL⟩ := id C
  obtain ⟨hw, hSB, hP, hS, hA, hV⟩ := id S
  obtain ⟨hE, hin10, hin11, -⟩ := id hw
  refine lv_aload_n hx hb dL_law_1095 rfl (lv_at hl 2 rfl) ?_
  refine ll_arg (pc := 1096) (k := 1) C hS hl (by omega) dL_law_1096 dL_law_1097 dL_law_1098 (by decide) dL_law_1099 dL_law_1100 ?_
  obtain ⟨q0, hq0, hq1⟩ := z_at hin10 M
  have hsub : ∀ q, z_9A E H.size q → s.heap.size ≤ q := fun q h => h.elim (hA q) (fun z => Nat.le_trans hS.1 z)
  refine va_calli (va_runV (C := RX9) (b := E.2.2.1 (10, 0, 0)) (As := [.int (xs (i + 1))]) (rest := []) ⟨hx, hb, hml, hown, htz⟩ (c_X9_lasts l E M bd (xs (i + 1)) H.size hSB (by omega) hw) ⟨callB_of (y := yX9_lasts) (bytes := cX9_lasts) (maxL := 5) (ret := (some .int)) (ws' := zw) 1 htz (zw_call qw_1152) rfl rfl rfl (htz _ qw_22) (htz _ qw_1149) ⟨by decide +kernel, by decide +kernel, by decide +kernel⟩ ⟨Nat.le_of_ble_eq_true rfl, Nat.le_of_ble_eq_true rfl⟩, htz _ qw_1150, htz _ qw_1151⟩ ⟨fun a U g mk q => by obtain ⟨y0, y1, yP, yV⟩ := q; exact ⟨y0, y1, yP, z_eA_call yV⟩, va_recv hV.1 hP (ci := 7) rfl hq1, fun U hU hW => ⟨rfl, by rw [hU], by rw [hU]; exact hP, z_eA_narrow (z_eA_move hV hS hU hW) hsub⟩⟩ rfl rfl hl.1 rfl (lv_room (Nat.le_of_ble_eq_true rfl)) dL_law_1101 ⟨by show cells + 70 ≤ 176566; omega, by show slots + 7120 ≤ 8572552; omega⟩) hS (fun q _ h => hsub q h) hsub (fun x u t H1 locs1 ht hvm hpost hB hz1 hk1 hS => ?_)
  obtain ⟨E2, M2⟩ := u
  obtain ⟨hxt, hw2, hA2, J3, z2, sb, j10⟩ := hpost
  have hP : va_P E2.1 vwCl (z_ws E2 M2) t.heap := hB
  rw [ht] at hP
  have hl0 := hl
  unfold ll_H at hl
  rw [← hxt.2.2.2.1, ← hxt.2.2.2.2] at hl
  have hl : ll_H jls E2 b i := hl
  have hV2 := z_eA_E hV hxt.1 hxt.2.1 hxt.2.2.1
  have hA3 : ∀ q, z_A E2 q → s.heap.size ≤ q := fun q h => hsub q (hA2 q h)
  have hE2 : z_okE E2 := hw2.1
  have hin2 : (11, 0, 0) ∈ E2.2.2.2 := hw2.2.2.1
  refine W.eq (g2 := F0 m 1104 jls [.int x]) rfl ?_
  refine lv_aload_n hx hb dL_law_1104 rfl (lv_at hl 1 rfl) ?_
  refine ll_arg (pc := 1105) (k := 1) C hS hl (by omega) dL_law_1105 dL_law_1106 dL_law_1107 (by decide) dL_law_1108 dL_law_1109 ?_
  refine z_cV (E := E2) (M := M2) (M2 := J3) (id := (11, 0, 0)) (as := [.inl (xs (i + 1))]) (r := some (.inl x)) (k := 240) (n := 1) (rest := [.int x]) (ci := 8) (C := RX10) (T := TX10) (N := 8) hx hb hml hown htz z2 qw_1162 qw_618 ⟨by decide +kernel, by decide +kernel, by decide +kernel⟩ (Nat.le_of_ble_eq_true rfl) qw_1159 qw_1160 qw_1161 hE2 hin2 (by decide) (z_vokI rfl) rfl rfl ⟨_, rfl⟩ hP hS hA3 hV2 ⟨Nat.le_of_ble_eq_true rfl, Nat.le_of_ble_eq_true rfl⟩ ⟨by show cells + 70 ≤ 176566; omega, by show slots + 7120 ≤ 8572552; omega⟩ hl.1 (Nat.le_of_ble_eq_true rfl) dL_law_1110 rfl (fun H locs _ hP _ _ hS => ?_)
  refine W.eq (g2 := F0 m 1113 jls [.int x, .int x]) rfl ?_
  refine lv_icmp_eq (tgt := 1624) hx hb dL_law_1113 (by decide) (fun _ => ?_) (fun z => absurd rfl z)
  exact kk E2 J3 H locs hxt ⟨by rw [j10.1, j10.2]; exact hw2, sb, hP, hS, hA3, hV2⟩
set_option maxHeartbeats 4000000 in
set_option maxRecDepth 100000 in
theorem ll_c24 (C : ll_C p s m meth c b L xs) (S : ll_S s E M bd H locs) (hbd : bd < 2000000000) (hl : ll_H jls E b i) (hi : i + 6 < L) (hcs : cells + 70 ≤ 176566 ∧ slots + 7120 ≤ 8572552) (kk : ll_K p l e s m b below meth c Q E bd cells slots jls) : W p l e room_1 s m #[Value.ref b] below meth c H locs cells slots Q (F0 m 1118 jls []) := by
  obtain ⟨hx, hb, hr, hml, hown, htz, hX, hbl, hlk, hL⟩ := id C
  obtain ⟨hw, hSB, hP, hS, hA, hV⟩ := id S
  obtain ⟨hE, hin10, hin11, -⟩ := id hw
  obtain ⟨v, J2, J3, z1, z2, sb, j10, x, rfl⟩ := two_ways (n := xs (i + 1)) (q := xs (i + 2)) (s := xs (i + 3)) hSB
  refine lv_aload_n hx hb dL_law_1118 rfl (lv_at hl 2 rfl) ?_
  refine ll_arg (pc := 1119) (k := 1) C hS hl (by omega) dL_law_1119 dL_law_1120 dL_law_1121 (by decide) dL_law_1122 dL_law_1123 ?_
  refine ll_arg (pc := 1124) (k := 2) C hS hl (by omega) dL_law_1124 dL_law_1125 dL_law_1126 (by decide) dL_law_1127 dL_law_1128 ?_
  refine ll_arg (pc := 1129) (k := 3) C hS hl (by omega) dL_law_1129 dL_law_1130 dL_law_1131 (by decide) dL_law_1132 dL_law_1133 ?_
  refine z_cV (E := E) (M := M) (M2 := J2) (id := (10, 0, 0)) (as := [.inl (xs (i + 1)), .inl (xs (i + 2)), .inl (xs (i + 3))]) (r := some (.inr (.inl x))) (k := 143) (n := 3) (rest := []) (ci := 7) (C := RX9) (T := TX9) (N := 4) hx hb hml hown htz z1 qw_1166 qw_22 ⟨by decide +kernel, by decide +kernel, by decide +kernel⟩ (Nat.le_of_ble_eq_true rfl) qw_1163 qw_1164 qw_1165 hE hin10 (by decide) (z_vokI rfl) rfl rfl ⟨_, rfl⟩ hP hS hA hV ⟨Nat.le_of_ble_eq_true rfl, Nat.le_of_ble_eq_true rfl⟩ ⟨by show cells ≤ 176566; omega, by show slots ≤ 8572552; omega⟩ hl.1 (Nat.le_of_ble_eq_true rfl) dL_law_1134 rfl (fun H locs _ hP _ _ hS => ?_)
  refine W.eq (g2 := F0 m 1137 jls [.long x]) rfl ?_
  refine lv_aload_n hx hb dL_law_1137 rfl (lv_at hl 1 rfl) ?_
  refine ll_arg (pc := 1138) (k := 1) C hS hl (by omega) dL_law_1138 dL_law_1139 dL_law_1140 (by decide) dL_law_1141 dL_law_1142 ?_
  refine ll_arg (pc := 1143) (k := 2) C hS hl (by omega) dL_law_1143 dL_law_1144 dL_law_1145 (by decide) dL_law_1146 dL_law_1147 ?_
  refine ll_arg (pc := 1148) (k := 3) C hS hl (by omega) dL_law_1148 dL_law_1149 dL_law_1150 (by decide) dL_law_1151 dL_law_1152 ?_
  refine z_cV (E := E) (M := J2) (M2 := J3) (id := (11, 0, 0)) (as := [.inl (xs (i + 1)), .inl (xs (i + 2)), .inl (xs (i + 3))]) (r := some (.inr (.inl x))) (k := 245) (n := 3) (rest := [.long x]) (ci := 8) (C := RX10) (T := TX10) (N := 8) hx hb hml hown htz z2 qw_1170 qw_618 ⟨by decide +kernel, by decide +kernel, by decide +kernel⟩ (Nat.le_of_ble_eq_true rfl) qw_1167 qw_1168 qw_1169 hE hin11 (by decide) (z_vokI rfl) rfl rfl ⟨_, rfl⟩ hP hS hA hV ⟨Nat.le_of_ble_eq_true rfl, Nat.le_of_ble_eq_true rfl⟩ ⟨by show cells ≤ 176566; omega, by show slots ≤ 8572552; omega⟩ hl.1 (Nat.le_of_ble_eq_true rfl) dL_law_1153 rfl (fun H locs _ hP _ _ hS => ?_)
  refine W.eq (g2 := F0 m 1156 jls [.long x, .long x]) rfl ?_
  refine W.lcmp hx hb dL_law_1156 ?_
  refine lv_if_eq (tgt := 1624) hx hb dL_law_1157 (by decide) (fun _ => ?_) (fun z => absurd (ll_cmp x) z)
  refine W.widen (k := cells + 70) (n := slots + 7120) (by omega) (by omega) ?_
  exact kk E J3 H locs ext_rf ⟨by rw [j10.1, j10.2]; exact hw, sb, hP, hS, hA, hV⟩
set_option maxHeartbeats 4000000 in
set_option maxRecDepth 100000 in
theorem ll_c25 (C : ll_C p s m meth c b L xs) (S : ll_S s E M bd H locs) (hbd : bd < 2000000000) (hl : ll_H jls E b i) (hi : i + 6 < L) (hcs : cells + 70 ≤ 176566 ∧ slots + 7120 ≤ 8572552) (kk : ll_K p l e s m b below meth c Q E bd cells slots jls) : W p l e room_1 s m #[Value.ref b] below meth c H locs cells slots Q (F0 m 1162 jls []) := by
  obtain ⟨hx, hb, hr, hml, hown, htz, hX, hbl, hlk, hL⟩ := id C
  obtain ⟨hw, hSB, hP, hS, hA, hV⟩ := id S
  obtain ⟨hE, hin10, hin11, -⟩ := id hw
  obtain ⟨v, J2, J3, z1, z2, sb, j10, x, rfl⟩ := two_hope (n := xs (i + 1)) (q := xs (i + 2)) (k := xs (i + 3)) hSB
  refine lv_aload_n hx hb dL_law_1162 rfl (lv_at hl 2 rfl) ?_
  refine ll_arg (pc := 1163) (k := 1) C hS hl (by omega) dL_law_1163 dL_law_1164 dL_law_1165 (by decide) dL_law_1166 dL_law_1167 ?_
  refine ll_arg (pc := 1168) (k := 2) C hS hl (by omega) dL_law_1168 dL_law_1169 dL_law_1170 (by decide) dL_law_1171 dL_law_1172 ?_
  refine ll_arg (pc := 1173) (k := 3) C hS hl (by omega) dL_law_1173 dL_law_1174 dL_law_1175 (by decide) dL_law_1176 dL_law_1177 ?_
  refine z_cV (E := E) (M := M) (M2 := J2) (id := (10, 0, 0)) (as := [.inl (xs (i + 1)), .inl (xs (i + 2)), .inl (xs (i + 3))]) (r := some (.inr (.inl x))) (k := 144) (n := 3) (rest := []) (ci := 7) (C := RX9) (T := TX9) (N := 4) hx hb hml hown htz z1 qw_1174 qw_22 ⟨by decide +kernel, by decide +kernel, by decide +kernel⟩ (Nat.le_of_ble_eq_true rfl) qw_1171 qw_1172 qw_1173 hE hin10 (by decide) (z_vokI rfl) rfl rfl ⟨_, rfl⟩ hP hS hA hV ⟨Nat.le_of_ble_eq_true rfl, Nat.le_of_ble_eq_true rfl⟩ ⟨by show cells ≤ 176566; omega, by show slots ≤ 8572552; omega⟩ hl.1 (Nat.le_of_ble_eq_true rfl) dL_law_1178 rfl (fun H locs _ hP _ _ hS => ?_)
  refine W.eq (g2 := F0 m 1181 jls [.long x]) rfl ?_
  refine lv_aload_n hx hb dL_law_1181 rfl (lv_at hl 1 rfl) ?_
  refine ll_arg (pc := 1182) (k := 1) C hS hl (by omega) dL_law_1182 dL_law_1183 dL_law_1184 (by decide) dL_law_1185 dL_law_1186 ?_
  refine ll_arg (pc := 1187) (k := 2) C hS hl (by omega) dL_law_1187 dL_law_1188 dL_law_1189 (by decide) dL_law_1190 dL_law_1191 ?_
  refine ll_arg (pc := 1192) (k := 3) C hS hl (by omega) dL_law_1192 dL_law_1193 dL_law_1194 (by decide) dL_law_1195 dL_law_1196 ?_
  refine z_cV (E := E) (M := J2) (M2 := J3) (id := (11, 0, 0)) (as := [.inl (xs (i + 1)), .inl (xs (i + 2)), .inl (xs (i + 3))]) (r := some (.inr (.inl x))) (k := 247) (n := 3) (rest := [.long x]) (ci := 8) (C := RX10) (T := TX10) (N := 8) hx hb hml hown htz z2 qw_1178 qw_618 ⟨by decide +kernel, by decide +kernel, by decide +kernel⟩ (Nat.le_of_ble_eq_true rfl) qw_1175 qw_1176 qw_1177 hE hin11 (by decide) (z_vokI rfl) rfl rfl ⟨_, rfl⟩ hP hS hA hV ⟨Nat.le_of_ble_eq_true rfl, Nat.le_of_ble_eq_true rfl⟩ ⟨by show cells ≤ 176566; omega, by show slots ≤ 8572552; omega⟩ hl.1 (Nat.le_of_ble_eq_true rfl) dL_law_1197 rfl (fun H locs _ hP _ _ hS => ?_)
  refine W.eq (g2 := F0 m 1200 jls [.long x, .long x]) rfl ?_
  refine W.lcmp hx hb dL_law_1200 ?_
  refine lv_if_eq (tgt := 1624) hx hb dL_law_1201 (by decide) (fun _ => ?_) (fun z => absurd (ll_cmp x) z)
  refine W.widen (k := cells + 70) (n := slots + 7120) (by omega) (by omega) ?_
  exact kk E J3 H locs ext_rf ⟨by rw [j10.1, j10.2]; exact hw, sb, hP, hS, hA, hV⟩
set_option maxHeartbeats 4000000 in
set_option maxRecDepth 100000 in
theorem ll_c26 (C : ll_C p s m meth c b L xs) (S : ll_S s E M bd H locs) (hbd : bd < 2000000000) (hl : ll_H jls E b i) (hi : i + 6 < L) (hcs : cells + 70 ≤ 176566 ∧ slots + 7120 ≤ 8572552) (kk : ll_K p l e s m b below meth c Q E bd cells slots jls) : W p l e room_1 s m #[Value.ref b] below meth c H locs cells slots Q (F0 m 1206 jls []) := by
  obtain ⟨hx, hb, hr, hml, hown, htz, hX, hbl, hlk, hL⟩ := id C
  obtain ⟨hw, hSB, hP, hS, hA, hV⟩ := id S
  obtain ⟨hE, hin10, hin11, -⟩ := id hw
  obtain ⟨v, J2, J3, z1, z2, sb, j10, x, rfl⟩ := two_best (n := xs (i + 1)) hSB
  refine lv_aload_n hx hb dL_law_1206 rfl (lv_at hl 2 rfl) ?_
  refine ll_arg (pc := 1207) (k := 1) C hS hl (by omega) dL_law_1207 dL_law_1208 dL_law_1209 (by decide) dL_law_1210 dL_law_1211 ?_
  refine z_cV (E := E) (M := M) (M2 := J2) (id := (10, 0, 0)) (as := [.inl (xs (i + 1))]) (r := some (.inl x)) (k := 145) (n := 1) (rest := []) (ci := 7) (C := RX9) (T := TX9) (N := 4) hx hb hml hown htz z1 qw_1182 qw_22 ⟨by decide +kernel, by decide +kernel, by decide +kernel⟩ (Nat.le_of_ble_eq_true rfl) qw_1179 qw_1180 qw_1181 hE hin10 (by decide) (z_vokI rfl) rfl rfl ⟨_, rfl⟩ hP hS hA hV ⟨Nat.le_of_ble_eq_true rfl, Nat.le_of_ble_eq_true rfl⟩ ⟨by show cells ≤ 176566; omega, by show slots ≤ 8572552; omega⟩ hl.1 (Nat.le_of_ble_eq_true rfl) dL_law_1212 rfl (fun H locs _ hP _ _ hS => ?_)
  refine W.eq (g2 := F0 m 1215 jls [.int x]) rfl ?_
  refine lv_aload_n hx hb dL_law_1215 rfl (lv_at hl 1 rfl) ?_
  refine ll_arg (pc := 1216) (k := 1) C hS hl (by omega) dL_law_1216 dL_law_1217 dL_law_1218 (by decide) dL_law_1219 dL_law_1220 ?_
  refine z_cV (E := E) (M := J2) (M2 := J3) (id := (11, 0, 0)) (as := [.inl (xs (i + 1))]) (r := some (.inl x)) (k := 250) (n := 1) (rest := [.int x]) (ci := 8) (C := RX10) (T := TX10) (N := 8) hx hb hml hown htz z2 qw_1186 qw_618 ⟨by decide +kernel, by decide +kernel, by decide +kernel⟩ (Nat.le_of_ble_eq_true rfl) qw_1183 qw_1184 qw_1185 hE hin11 (by decide) (z_vokI rfl) rfl rfl ⟨_, rfl⟩ hP hS hA hV ⟨Nat.le_of_ble_eq_true rfl, Nat.le_of_ble_eq_true rfl⟩ ⟨by show cells ≤ 176566; omega, by show slots ≤ 8572552; omega⟩ hl.1 (Nat.le_of_ble_eq_true rfl) dL_law_1221 rfl (fun H locs _ hP _ _ hS => ?_)
  refine W.eq (g2 := F0 m 1224 jls [.int x, .int x]) rfl ?_
  refine lv_icmp_eq (tgt := 1624) hx hb dL_law_1224 (by decide) (fun _ => ?_) (fun z => absurd rfl z)
  refine W.widen (k := cells + 70) (n := slots + 7120) (by omega) (by omega) ?_
  exact kk E J3 H locs ext_rf ⟨by rw [j10.1, j10.2]; exact hw, sb, hP, hS, hA, hV⟩
end LL
