theorem lc_21 {p : Program} {l : Launch} {e : Env} {s : State} {m : MethodId} {below : List Frame} {meth : Method} {c : Code} {b Ln i cells slots : Nat} {xs : Nat → Int32} {Q : State → Prop} {G G1 : GG} {M N : Mm} (C : GX p s m #[Value.ref b] c code 4 "SnowSentriesLaw") (hX : va_X b Ln xs s s.heap) (hb : b < s.heap.size) (hL : Ln ≤ 320) (hg : LG s G G1) (hcs : cells ≤ room_1.cells ∧ slots ≤ room_1.slots) (hi : i + 5 ≤ Ln) (R0 : Rel M N) (hK : ∀ M2 N2, Rel M2 N2 → Zg p l e room_1 s m #[Value.ref b] below meth c 4 Q cells slots (FL s G G1 M2 N2) 1596 [(3, .int (nI i)), (2, .ref (gB G1 + 0)), (1, .ref (gB G + 0)), (0, .ref b)] []) : Zg p l e room_1 s m #[Value.ref b] below meth c 4 Q cells slots (FL s G G1 M N) 879 [(3, .int (nI i)), (2, .ref (gB G1 + 0)), (1, .ref (gB G + 0)), (0, .ref b)] [] := by
  refine g_aload_n (x := gB G + 0) 2 C dl_879 rfl rfl ?_
  refine g_arg (k := 1) (kn := 1) C hX hb (by omega) hL rfl dl_880 dl_881 dl_882 dl_883 dl_884 ?_
  refine g_arg (k := 2) (kn := 2) C hX hb (by omega) hL rfl dl_885 dl_886 dl_887 dl_888 dl_889 ?_
  refine g_arg (k := 3) (kn := 3) C hX hb (by omega) hL rfl dl_890 dl_891 dl_892 dl_893 dl_894 ?_
  obtain ⟨r, M2, N2, e1, e2, R2⟩ := s_later R0 ((xs (i + 1))) ((xs (i + 2))) ((xs (i + 3)))
  refine g_cX (S := []) (As := [.int (xs (i + 1)), .int (xs (i + 2)), .int (xs (i + 3))]) C hg hcs (c_X11_later l G e1) wc_X11_later wm_L_106 ws_X11_later wl_X11_later wi_X11 hy_X11_later ⟨Nat.le_of_ble_eq_true rfl, Nat.le_of_ble_eq_true rfl⟩ rfl rfl (Nat.le_of_ble_eq_true rfl) dl_895 ?_
  refine g_aload_n (x := gB G1 + 0) 1 C dl_898 rfl rfl ?_
  refine g_arg (k := 1) (kn := 1) C hX hb (by omega) hL rfl dl_899 dl_900 dl_901 dl_902 dl_903 ?_
  refine g_arg (k := 2) (kn := 2) C hX hb (by omega) hL rfl dl_904 dl_905 dl_906 dl_907 dl_908 ?_
  refine g_arg (k := 3) (kn := 3) C hX hb (by omega) hL rfl dl_909 dl_910 dl_911 dl_912 dl_913 ?_
  refine g_cY (S := [.int r]) (As := [.int (xs (i + 1)), .int (xs (i + 2)), .int (xs (i + 3))]) C hg hcs (c_X12_later l G1 e2) wc_X12_later wm_L_109 ws_X12_later wl_X12_later wi_X12 hy_X12_later ⟨Nat.le_of_ble_eq_true rfl, Nat.le_of_ble_eq_true rfl⟩ rfl rfl (Nat.le_of_ble_eq_true rfl) dl_914 ?_
  exact g_icmp_eq (tgt := 1596) C dl_917 (fun _ => hK _ _ R2) (fun q => absurd rfl q)
theorem lc_22 {p : Program} {l : Launch} {e : Env} {s : State} {m : MethodId} {below : List Frame} {meth : Method} {c : Code} {b Ln i cells slots : Nat} {xs : Nat → Int32} {Q : State → Prop} {G G1 : GG} {M N : Mm} (C : GX p s m #[Value.ref b] c code 4 "SnowSentriesLaw") (hX : va_X b Ln xs s s.heap) (hb : b < s.heap.size) (hL : Ln ≤ 320) (hg : LG s G G1) (hcs : cells ≤ room_1.cells ∧ slots ≤ room_1.slots) (hi : i + 5 ≤ Ln) (R0 : Rel M N) (hK : ∀ M2 N2, Rel M2 N2 → Zg p l e room_1 s m #[Value.ref b] below meth c 4 Q cells slots (FL s G G1 M2 N2) 1596 [(3, .int (nI i)), (2, .ref (gB G1 + 0)), (1, .ref (gB G + 0)), (0, .ref b)] []) : Zg p l e room_1 s m #[Value.ref b] below meth c 4 Q cells slots (FL s G G1 M N) 922 [(3, .int (nI i)), (2, .ref (gB G1 + 0)), (1, .ref (gB G + 0)), (0, .ref b)] [] := by
  refine g_aload_n (x := gB G + 0) 2 C dl_922 rfl rfl ?_
  refine g_arg (k := 1) (kn := 1) C hX hb (by omega) hL rfl dl_923 dl_924 dl_925 dl_926 dl_927 ?_
  refine g_arg (k := 2) (kn := 2) C hX hb (by omega) hL rfl dl_928 dl_929 dl_930 dl_931 dl_932 ?_
  obtain ⟨r, M2, N2, e1, e2, R2⟩ := s_line R0 ((xs (i + 1))) ((xs (i + 2)))
  refine g_cX (S := []) (As := [.int (xs (i + 1)), .int (xs (i + 2))]) C hg hcs (c_X11_line l G e1) wc_X11_line wm_L_110 ws_X11_line wl_X11_line wi_X11 hy_X11_line ⟨Nat.le_of_ble_eq_true rfl, Nat.le_of_ble_eq_true rfl⟩ rfl rfl (Nat.le_of_ble_eq_true rfl) dl_933 ?_
  refine g_aload_n (x := gB G1 + 0) 1 C dl_936 rfl rfl ?_
  refine g_arg (k := 1) (kn := 1) C hX hb (by omega) hL rfl dl_937 dl_938 dl_939 dl_940 dl_941 ?_
  refine g_arg (k := 2) (kn := 2) C hX hb (by omega) hL rfl dl_942 dl_943 dl_944 dl_945 dl_946 ?_
  refine g_cY (S := [.int r]) (As := [.int (xs (i + 1)), .int (xs (i + 2))]) C hg hcs (c_X12_line l G1 e2) wc_X12_line wm_L_113 ws_X12_line wl_X12_line wi_X12 hy_X12_line ⟨Nat.le_of_ble_eq_true rfl, Nat.le_of_ble_eq_true rfl⟩ rfl rfl (Nat.le_of_ble_eq_true rfl) dl_947 ?_
  exact g_icmp_eq (tgt := 1596) C dl_950 (fun _ => hK _ _ R2) (fun q => absurd rfl q)
theorem lc_23 {p : Program} {l : Launch} {e : Env} {s : State} {m : MethodId} {below : List Frame} {meth : Method} {c : Code} {b Ln i cells slots : Nat} {xs : Nat → Int32} {Q : State → Prop} {G G1 : GG} {M N : Mm} (C : GX p s m #[Value.ref b] c code 4 "SnowSentriesLaw") (hX : va_X b Ln xs s s.heap) (hb : b < s.heap.size) (hL : Ln ≤ 320) (hg : LG s G G1) (hcs : cells ≤ room_1.cells ∧ slots ≤ room_1.slots) (hi : i + 5 ≤ Ln) (R0 : Rel M N) (hK : ∀ M2 N2, Rel M2 N2 → Zg p l e room_1 s m #[Value.ref b] below meth c 4 Q cells slots (FL s G G1 M2 N2) 1596 [(3, .int (nI i)), (2, .ref (gB G1 + 0)), (1, .ref (gB G + 0)), (0, .ref b)] []) : Zg p l e room_1 s m #[Value.ref b] below meth c 4 Q cells slots (FL s G G1 M N) 955 [(3, .int (nI i)), (2, .ref (gB G1 + 0)), (1, .ref (gB G + 0)), (0, .ref b)] [] := by
  refine g_aload_n (x := gB G + 0) 2 C dl_955 rfl rfl ?_
  refine g_arg (k := 1) (kn := 1) C hX hb (by omega) hL rfl dl_956 dl_957 dl_958 dl_959 dl_960 ?_
  refine g_arg (k := 2) (kn := 2) C hX hb (by omega) hL rfl dl_961 dl_962 dl_963 dl_964 dl_965 ?_
  obtain ⟨r, M2, N2, e1, e2, R2⟩ := s_houses R0 ((xs (i + 1))) ((xs (i + 2)))
  refine g_cX (S := []) (As := [.int (xs (i + 1)), .int (xs (i + 2))]) C hg hcs (c_X11_houses l G e1) wc_X11_houses wm_L_114 ws_X11_houses wl_X11_houses wi_X11 hy_X11_houses ⟨Nat.le_of_ble_eq_true rfl, Nat.le_of_ble_eq_true rfl⟩ rfl rfl (Nat.le_of_ble_eq_true rfl) dl_966 ?_
  refine g_aload_n (x := gB G1 + 0) 1 C dl_969 rfl rfl ?_
  refine g_arg (k := 1) (kn := 1) C hX hb (by omega) hL rfl dl_970 dl_971 dl_972 dl_973 dl_974 ?_
  refine g_arg (k := 2) (kn := 2) C hX hb (by omega) hL rfl dl_975 dl_976 dl_977 dl_978 dl_979 ?_
  refine g_cY (S := [.int r]) (As := [.int (xs (i + 1)), .int (xs (i + 2))]) C hg hcs (c_X12_houses l G1 e2) wc_X12_houses wm_L_117 ws_X12_houses wl_X12_houses wi_X12 hy_X12_houses ⟨Nat.le_of_ble_eq_true rfl, Nat.le_of_ble_eq_true rfl⟩ rfl rfl (Nat.le_of_ble_eq_true rfl) dl_980 ?_
  exact g_icmp_eq (tgt := 1596) C dl_983 (fun _ => hK _ _ R2) (fun q => absurd rfl q)
theorem lc_24 {p : Program} {l : Launch} {e : Env} {s : State} {m : MethodId} {below : List Frame} {meth : Method} {c : Code} {b Ln i cells slots : Nat} {xs : Nat → Int32} {Q : State → Prop} {G G1 : GG} {M N : Mm} (C : GX p s m #[Value.ref b] c code 4 "SnowSentriesLaw") (hX : va_X b Ln xs s s.heap) (hb : b < s.heap.size) (hL : Ln ≤ 320) (hg : LG s G G1) (hcs : cells ≤ room_1.cells ∧ slots ≤ room_1.slots) (hi : i + 5 ≤ Ln) (R0 : Rel M N) (hK : ∀ M2 N2, Rel M2 N2 → Zg p l e room_1 s m #[Value.ref b] below meth c 4 Q cells slots (FL s G G1 M2 N2) 1596 [(3, .int (nI i)), (2, .ref (gB G1 + 0)), (1, .ref (gB G + 0)), (0, .ref b)] []) : Zg p l e room_1 s m #[Value.ref b] below meth c 4 Q cells slots (FL s G G1 M N) 988 [(3, .int (nI i)), (2, .ref (gB G1 + 0)), (1, .ref (gB G + 0)), (0, .ref b)] [] := by
  refine g_aload_n (x := gB G + 0) 2 C dl_988 rfl rfl ?_
  refine g_arg (k := 1) (kn := 1) C hX hb (by omega) hL rfl dl_989 dl_990 dl_991 dl_992 dl_993 ?_
  refine g_arg (k := 2) (kn := 2) C hX hb (by omega) hL rfl dl_994 dl_995 dl_996 dl_997 dl_998 ?_
  obtain ⟨r, N2, e1, e2, R2⟩ := s_holds R0 ((xs (i + 1))) ((xs (i + 2)))
  refine g_cX (S := []) (As := [.int (xs (i + 1)), .int (xs (i + 2))]) C hg hcs (c_X11_holds l G e1) wc_X11_holds wm_L_118 ws_X11_holds wl_X11_holds wi_X11 hy_X11_holds ⟨Nat.le_of_ble_eq_true rfl, Nat.le_of_ble_eq_true rfl⟩ rfl rfl (Nat.le_of_ble_eq_true rfl) dl_999 ?_
  refine g_aload_n (x := gB G1 + 0) 1 C dl_1002 rfl rfl ?_
  refine g_arg (k := 1) (kn := 1) C hX hb (by omega) hL rfl dl_1003 dl_1004 dl_1005 dl_1006 dl_1007 ?_
  refine g_arg (k := 2) (kn := 2) C hX hb (by omega) hL rfl dl_1008 dl_1009 dl_1010 dl_1011 dl_1012 ?_
  refine g_cY (S := [.int r]) (As := [.int (xs (i + 1)), .int (xs (i + 2))]) C hg hcs (c_X12_holds l G1 e2) wc_X12_holds wm_L_121 ws_X12_holds wl_X12_holds wi_X12 hy_X12_holds ⟨Nat.le_of_ble_eq_true rfl, Nat.le_of_ble_eq_true rfl⟩ rfl rfl (Nat.le_of_ble_eq_true rfl) dl_1013 ?_
  exact g_icmp_eq (tgt := 1596) C dl_1016 (fun _ => hK _ _ R2) (fun q => absurd rfl q)
theorem lc_25 {p : Program} {l : Launch} {e : Env} {s : State} {m : MethodId} {below : List Frame} {meth : Method} {c : Code} {b Ln i cells slots : Nat} {xs : Nat → Int32} {Q : State → Prop} {G G1 : GG} {M N : Mm} (C : GX p s m #[Value.ref b] c code 4 "SnowSentriesLaw") (hX : va_X b Ln xs s s.heap) (hb : b < s.heap.size) (hL : Ln ≤ 320) (hg : LG s G G1) (hcs : cells ≤ room_1.cells ∧ slots ≤ room_1.slots) (hi : i + 5 ≤ Ln) (R0 : Rel M N) (hK : ∀ M2 N2, Rel M2 N2 → Zg p l e room_1 s m #[Value.ref b] below meth c 4 Q cells slots (FL s G G1 M2 N2) 1596 [(3, .int (nI i)), (2, .ref (gB G1 + 0)), (1, .ref (gB G + 0)), (0, .ref b)] []) : Zg p l e room_1 s m #[Value.ref b] below meth c 4 Q cells slots (FL s G G1 M N) 1021 [(3, .int (nI i)), (2, .ref (gB G1 + 0)), (1, .ref (gB G + 0)), (0, .ref b)] [] := by
  refine g_aload_n (x := gB G + 0) 2 C dl_1021 rfl rfl ?_
  refine g_arg (k := 1) (kn := 1) C hX hb (by omega) hL rfl dl_1022 dl_1023 dl_1024 dl_1025 dl_1026 ?_
  refine g_arg (k := 2) (kn := 2) C hX hb (by omega) hL rfl dl_1027 dl_1028 dl_1029 dl_1030 dl_1031 ?_
  refine g_arg (k := 3) (kn := 3) C hX hb (by omega) hL rfl dl_1032 dl_1033 dl_1034 dl_1035 dl_1036 ?_
  obtain ⟨r, N2, e1, e2, R2⟩ := s_need R0 ((xs (i + 1))) ((xs (i + 2))) ((xs (i + 3)))
  refine g_cX (S := []) (As := [.int (xs (i + 1)), .int (xs (i + 2)), .int (xs (i + 3))]) C hg hcs (c_X11_need l G e1) wc_X11_need wm_L_122 ws_X11_need wl_X11_need wi_X11 hy_X11_need ⟨Nat.le_of_ble_eq_true rfl, Nat.le_of_ble_eq_true rfl⟩ rfl rfl (Nat.le_of_ble_eq_true rfl) dl_1037 ?_
  refine g_aload_n (x := gB G1 + 0) 1 C dl_1040 rfl rfl ?_
  refine g_arg (k := 1) (kn := 1) C hX hb (by omega) hL rfl dl_1041 dl_1042 dl_1043 dl_1044 dl_1045 ?_
  refine g_arg (k := 2) (kn := 2) C hX hb (by omega) hL rfl dl_1046 dl_1047 dl_1048 dl_1049 dl_1050 ?_
  refine g_arg (k := 3) (kn := 3) C hX hb (by omega) hL rfl dl_1051 dl_1052 dl_1053 dl_1054 dl_1055 ?_
  refine g_cY (S := [.int r]) (As := [.int (xs (i + 1)), .int (xs (i + 2)), .int (xs (i + 3))]) C hg hcs (c_X12_need l G1 e2) wc_X12_need wm_L_125 ws_X12_need wl_X12_need wi_X12 hy_X12_need ⟨Nat.le_of_ble_eq_true rfl, Nat.le_of_ble_eq_true rfl⟩ rfl rfl (Nat.le_of_ble_eq_true rfl) dl_1056 ?_
  exact g_icmp_eq (tgt := 1596) C dl_1059 (fun _ => hK _ _ R2) (fun q => absurd rfl q)
theorem lc_26 {p : Program} {l : Launch} {e : Env} {s : State} {m : MethodId} {below : List Frame} {meth : Method} {c : Code} {b Ln i cells slots : Nat} {xs : Nat → Int32} {Q : State → Prop} {G G1 : GG} {M N : Mm} (C : GX p s m #[Value.ref b] c code 4 "SnowSentriesLaw") (hX : va_X b Ln xs s s.heap) (hb : b < s.heap.size) (hL : Ln ≤ 320) (hg : LG s G G1) (hcs : cells ≤ room_1.cells ∧ slots ≤ room_1.slots) (hi : i + 5 ≤ Ln) (R0 : Rel M N) (hK : ∀ M2 N2, Rel M2 N2 → Zg p l e room_1 s m #[Value.ref b] below meth c 4 Q cells slots (FL s G G1 M2 N2) 1596 [(3, .int (nI i)), (2, .ref (gB G1 + 0)), (1, .ref (gB G + 0)), (0, .ref b)] []) : Zg p l e room_1 s m #[Value.ref b] below meth c 4 Q cells slots (FL s G G1 M N) 1064 [(3, .int (nI i)), (2, .ref (gB G1 + 0)), (1, .ref (gB G + 0)), (0, .ref b)] [] := by
  refine g_aload_n (x := gB G + 0) 2 C dl_1064 rfl rfl ?_
  refine g_arg (k := 1) (kn := 1) C hX hb (by omega) hL rfl dl_1065 dl_1066 dl_1067 dl_1068 dl_1069 ?_
  refine g_arg (k := 2) (kn := 2) C hX hb (by omega) hL rfl dl_1070 dl_1071 dl_1072 dl_1073 dl_1074 ?_
  refine g_arg (k := 3) (kn := 3) C hX hb (by omega) hL rfl dl_1075 dl_1076 dl_1077 dl_1078 dl_1079 ?_
  refine g_arg (k := 4) (kn := 4) C hX hb (by omega) hL rfl dl_1080 dl_1081 dl_1082 dl_1083 dl_1084 ?_
  obtain ⟨r, M2, N2, e1, e2, R2⟩ := s_crews R0 ((xs (i + 1))) ((xs (i + 2))) ((xs (i + 3))) ((xs (i + 4)))
  refine g_cX (S := []) (As := [.int (xs (i + 1)), .int (xs (i + 2)), .int (xs (i + 3)), .int (xs (i + 4))]) C hg hcs (c_X11_crews l G e1) wc_X11_crews wm_L_126 ws_X11_crews wl_X11_crews wi_X11 hy_X11_crews ⟨Nat.le_of_ble_eq_true rfl, Nat.le_of_ble_eq_true rfl⟩ rfl rfl (Nat.le_of_ble_eq_true rfl) dl_1085 ?_
  refine g_aload_n (x := gB G1 + 0) 1 C dl_1088 rfl rfl ?_
  refine g_arg (k := 1) (kn := 1) C hX hb (by omega) hL rfl dl_1089 dl_1090 dl_1091 dl_1092 dl_1093 ?_
  refine g_arg (k := 2) (kn := 2) C hX hb (by omega) hL rfl dl_1094 dl_1095 dl_1096 dl_1097 dl_1098 ?_
  refine g_arg (k := 3) (kn := 3) C hX hb (by omega) hL rfl dl_1099 dl_1100 dl_1101 dl_1102 dl_1103 ?_
  refine g_arg (k := 4) (kn := 4) C hX hb (by omega) hL rfl dl_1104 dl_1105 dl_1106 dl_1107 dl_1108 ?_
  refine g_cY (S := [.int r]) (As := [.int (xs (i + 1)), .int (xs (i + 2)), .int (xs (i + 3)), .int (xs (i + 4))]) C hg hcs (c_X12_crews l G1 e2) wc_X12_crews wm_L_129 ws_X12_crews wl_X12_crews wi_X12 hy_X12_crews ⟨Nat.le_of_ble_eq_true rfl, Nat.le_of_ble_eq_true rfl⟩ rfl rfl (Nat.le_of_ble_eq_true rfl) dl_1109 ?_
  exact g_icmp_eq (tgt := 1596) C dl_1112 (fun _ => hK _ _ R2) (fun q => absurd rfl q)
theorem lc_27 {p : Program} {l : Launch} {e : Env} {s : State} {m : MethodId} {below : List Frame} {meth : Method} {c : Code} {b Ln i cells slots : Nat} {xs : Nat → Int32} {Q : State → Prop} {G G1 : GG} {M N : Mm} (C : GX p s m #[Value.ref b] c code 4 "SnowSentriesLaw") (hX : va_X b Ln xs s s.heap) (hb : b < s.heap.size) (hL : Ln ≤ 320) (hg : LG s G G1) (hcs : cells ≤ room_1.cells ∧ slots ≤ room_1.slots) (hi : i + 5 ≤ Ln) (R0 : Rel M N) (hK : ∀ M2 N2, Rel M2 N2 → Zg p l e room_1 s m #[Value.ref b] below meth c 4 Q cells slots (FL s G G1 M2 N2) 1596 [(3, .int (nI i)), (2, .ref (gB G1 + 0)), (1, .ref (gB G + 0)), (0, .ref b)] []) : Zg p l e room_1 s m #[Value.ref b] below meth c 4 Q cells slots (FL s G G1 M N) 1117 [(3, .int (nI i)), (2, .ref (gB G1 + 0)), (1, .ref (gB G + 0)), (0, .ref b)] [] := by
  refine g_aload_n (x := gB G + 0) 2 C dl_1117 rfl rfl ?_
  refine g_arg (k := 1) (kn := 1) C hX hb (by omega) hL rfl dl_1118 dl_1119 dl_1120 dl_1121 dl_1122 ?_
  refine g_arg (k := 2) (kn := 2) C hX hb (by omega) hL rfl dl_1123 dl_1124 dl_1125 dl_1126 dl_1127 ?_
  obtain ⟨r, N2, e1, e2, R2⟩ := s_gap R0 ((xs (i + 1))) ((xs (i + 2)))
  refine g_cX (S := []) (As := [.int (xs (i + 1)), .int (xs (i + 2))]) C hg hcs (c_X11_gap l G e1) wc_X11_gap wm_L_130 ws_X11_gap wl_X11_gap wi_X11 hy_X11_gap ⟨Nat.le_of_ble_eq_true rfl, Nat.le_of_ble_eq_true rfl⟩ rfl rfl (Nat.le_of_ble_eq_true rfl) dl_1128 ?_
  refine g_aload_n (x := gB G1 + 0) 1 C dl_1131 rfl rfl ?_
  refine g_arg (k := 1) (kn := 1) C hX hb (by omega) hL rfl dl_1132 dl_1133 dl_1134 dl_1135 dl_1136 ?_
  refine g_arg (k := 2) (kn := 2) C hX hb (by omega) hL rfl dl_1137 dl_1138 dl_1139 dl_1140 dl_1141 ?_
  refine g_cY (S := [.int r]) (As := [.int (xs (i + 1)), .int (xs (i + 2))]) C hg hcs (c_X12_gap l G1 e2) wc_X12_gap wm_L_133 ws_X12_gap wl_X12_gap wi_X12 hy_X12_gap ⟨Nat.le_of_ble_eq_true rfl, Nat.le_of_ble_eq_true rfl⟩ rfl rfl (Nat.le_of_ble_eq_true rfl) dl_1142 ?_
  exact g_icmp_eq (tgt := 1596) C dl_1145 (fun _ => hK _ _ R2) (fun q => absurd rfl q)
theorem lc_28 {p : Program} {l : Launch} {e : Env} {s : State} {m : MethodId} {below : List Frame} {meth : Method} {c : Code} {b Ln i cells slots : Nat} {xs : Nat → Int32} {Q : State → Prop} {G G1 : GG} {M N : Mm} (C : GX p s m #[Value.ref b] c code 4 "SnowSentriesLaw") (hX : va_X b Ln xs s s.heap) (hb : b < s.heap.size) (hL : Ln ≤ 320) (hg : LG s G G1) (hcs : cells ≤ room_1.cells ∧ slots ≤ room_1.slots) (hi : i + 5 ≤ Ln) (R0 : Rel M N) (hK : ∀ M2 N2, Rel M2 N2 → Zg p l e room_1 s m #[Value.ref b] below meth c 4 Q cells slots (FL s G G1 M2 N2) 1596 [(3, .int (nI i)), (2, .ref (gB G1 + 0)), (1, .ref (gB G + 0)), (0, .ref b)] []) : Zg p l e room_1 s m #[Value.ref b] below meth c 4 Q cells slots (FL s G G1 M N) 1150 [(3, .int (nI i)), (2, .ref (gB G1 + 0)), (1, .ref (gB G + 0)), (0, .ref b)] [] := by
  refine g_aload_n (x := gB G + 0) 2 C dl_1150 rfl rfl ?_
  refine g_arg (k := 1) (kn := 1) C hX hb (by omega) hL rfl dl_1151 dl_1152 dl_1153 dl_1154 dl_1155 ?_
  refine g_arg (k := 2) (kn := 2) C hX hb (by omega) hL rfl dl_1156 dl_1157 dl_1158 dl_1159 dl_1160 ?_
  refine g_arg (k := 3) (kn := 3) C hX hb (by omega) hL rfl dl_1161 dl_1162 dl_1163 dl_1164 dl_1165 ?_
  obtain ⟨r, M2, N2, e1, e2, R2⟩ := s_lead R0 ((xs (i + 1))) ((xs (i + 2))) ((xs (i + 3)))
  refine g_cX (S := []) (As := [.int (xs (i + 1)), .int (xs (i + 2)), .int (xs (i + 3))]) C hg hcs (c_X11_lead l G e1) wc_X11_lead wm_L_134 ws_X11_lead wl_X11_lead wi_X11 hy_X11_lead ⟨Nat.le_of_ble_eq_true rfl, Nat.le_of_ble_eq_true rfl⟩ rfl rfl (Nat.le_of_ble_eq_true rfl) dl_1166 ?_
  refine g_aload_n (x := gB G1 + 0) 1 C dl_1169 rfl rfl ?_
  refine g_arg (k := 1) (kn := 1) C hX hb (by omega) hL rfl dl_1170 dl_1171 dl_1172 dl_1173 dl_1174 ?_
  refine g_arg (k := 2) (kn := 2) C hX hb (by omega) hL rfl dl_1175 dl_1176 dl_1177 dl_1178 dl_1179 ?_
  refine g_arg (k := 3) (kn := 3) C hX hb (by omega) hL rfl dl_1180 dl_1181 dl_1182 dl_1183 dl_1184 ?_
  refine g_cY (S := [.int r]) (As := [.int (xs (i + 1)), .int (xs (i + 2)), .int (xs (i + 3))]) C hg hcs (c_X12_lead l G1 e2) wc_X12_lead wm_L_137 ws_X12_lead wl_X12_lead wi_X12 hy_X12_lead ⟨Nat.le_of_ble_eq_true rfl, Nat.le_of_ble_eq_true rfl⟩ rfl rfl (Nat.le_of_ble_eq_true rfl) dl_1185 ?_
  exact g_icmp_eq (tgt := 1596) C dl_1188 (fun _ => hK _ _ R2) (fun q => absurd rfl q)
theorem lc_29 {p : Program} {l : Launch} {e : Env} {s : State} {m : MethodId} {below : List Frame} {meth : Method} {c : Code} {b Ln i cells slots : Nat} {xs : Nat → Int32} {Q : State → Prop} {G G1 : GG} {M N : Mm} (C : GX p s m #[Value.ref b] c code 4 "SnowSentriesLaw") (hX : va_X b Ln xs s s.heap) (hb : b < s.heap.size) (hL : Ln ≤ 320) (hg : LG s G G1) (hcs : cells ≤ room_1.cells ∧ slots ≤ room_1.slots) (hi : i + 5 ≤ Ln) (R0 : Rel M N) (hK : ∀ M2 N2, Rel M2 N2 → Zg p l e room_1 s m #[Value.ref b] below meth c 4 Q cells slots (FL s G G1 M2 N2) 1596 [(3, .int (nI i)), (2, .ref (gB G1 + 0)), (1, .ref (gB G + 0)), (0, .ref b)] []) : Zg p l e room_1 s m #[Value.ref b] below meth c 4 Q cells slots (FL s G G1 M N) 1193 [(3, .int (nI i)), (2, .ref (gB G1 + 0)), (1, .ref (gB G + 0)), (0, .ref b)] [] := by
  refine g_aload_n (x := gB G + 0) 2 C dl_1193 rfl rfl ?_
  refine g_arg (k := 1) (kn := 1) C hX hb (by omega) hL rfl dl_1194 dl_1195 dl_1196 dl_1197 dl_1198 ?_
  obtain ⟨r, M2, N2, e1, e2, R2⟩ := s_felt R0 ((xs (i + 1)))
  refine g_cX (S := []) (As := [.int (xs (i + 1))]) C hg hcs (c_X11_felt l G e1) wc_X11_felt wm_L_138 ws_X11_felt wl_X11_felt wi_X11 hy_X11_felt ⟨Nat.le_of_ble_eq_true rfl, Nat.le_of_ble_eq_true rfl⟩ rfl rfl (Nat.le_of_ble_eq_true rfl) dl_1199 ?_
  refine g_aload_n (x := gB G1 + 0) 1 C dl_1202 rfl rfl ?_
  refine g_arg (k := 1) (kn := 1) C hX hb (by omega) hL rfl dl_1203 dl_1204 dl_1205 dl_1206 dl_1207 ?_
  refine g_cY (S := [.int r]) (As := [.int (xs (i + 1))]) C hg hcs (c_X12_felt l G1 e2) wc_X12_felt wm_L_141 ws_X12_felt wl_X12_felt wi_X12 hy_X12_felt ⟨Nat.le_of_ble_eq_true rfl, Nat.le_of_ble_eq_true rfl⟩ rfl rfl (Nat.le_of_ble_eq_true rfl) dl_1208 ?_
  exact g_icmp_eq (tgt := 1596) C dl_1211 (fun _ => hK _ _ R2) (fun q => absurd rfl q)
theorem lc_30 {p : Program} {l : Launch} {e : Env} {s : State} {m : MethodId} {below : List Frame} {meth : Method} {c : Code} {b Ln i cells slots : Nat} {xs : Nat → Int32} {Q : State → Prop} {G G1 : GG} {M N : Mm} (C : GX p s m #[Value.ref b] c code 4 "SnowSentriesLaw") (hX : va_X b Ln xs s s.heap) (hb : b < s.heap.size) (hL : Ln ≤ 320) (hg : LG s G G1) (hcs : cells ≤ room_1.cells ∧ slots ≤ room_1.slots) (hi : i + 5 ≤ Ln) (R0 : Rel M N) (hK : ∀ M2 N2, Rel M2 N2 → Zg p l e room_1 s m #[Value.ref b] below meth c 4 Q cells slots (FL s G G1 M2 N2) 1596 [(3, .int (nI i)), (2, .ref (gB G1 + 0)), (1, .ref (gB G + 0)), (0, .ref b)] []) : Zg p l e room_1 s m #[Value.ref b] below meth c 4 Q cells slots (FL s G G1 M N) 1216 [(3, .int (nI i)), (2, .ref (gB G1 + 0)), (1, .ref (gB G + 0)), (0, .ref b)] [] := by
  refine g_aload_n (x := gB G + 0) 2 C dl_1216 rfl rfl ?_
  obtain ⟨r, M2, N2, e1, e2, R2⟩ := s_forget R0 
  refine g_cX (S := []) (As := []) C hg hcs (c_X11_forget l G e1) wc_X11_forget wm_L_142 ws_X11_forget wl_X11_forget wi_X11 hy_X11_forget ⟨Nat.le_of_ble_eq_true rfl, Nat.le_of_ble_eq_true rfl⟩ rfl rfl (Nat.le_of_ble_eq_true rfl) dl_1217 ?_
  refine g_aload_n (x := gB G1 + 0) 1 C dl_1220 rfl rfl ?_
  refine g_cY (S := [.int r]) (As := []) C hg hcs (c_X12_forget l G1 e2) wc_X12_forget wm_L_145 ws_X12_forget wl_X12_forget wi_X12 hy_X12_forget ⟨Nat.le_of_ble_eq_true rfl, Nat.le_of_ble_eq_true rfl⟩ rfl rfl (Nat.le_of_ble_eq_true rfl) dl_1221 ?_
  exact g_icmp_eq (tgt := 1596) C dl_1224 (fun _ => hK _ _ R2) (fun q => absurd rfl q)
theorem lc_31 {p : Program} {l : Launch} {e : Env} {s : State} {m : MethodId} {below : List Frame} {meth : Method} {c : Code} {b Ln i cells slots : Nat} {xs : Nat → Int32} {Q : State → Prop} {G G1 : GG} {M N : Mm} (C : GX p s m #[Value.ref b] c code 4 "SnowSentriesLaw") (hX : va_X b Ln xs s s.heap) (hb : b < s.heap.size) (hL : Ln ≤ 320) (hg : LG s G G1) (hcs : cells ≤ room_1.cells ∧ slots ≤ room_1.slots) (hi : i + 5 ≤ Ln) (R0 : Rel M N) (hK : ∀ M2 N2, Rel M2 N2 → Zg p l e room_1 s m #[Value.ref b] below meth c 4 Q cells slots (FL s G G1 M2 N2) 1596 [(3, .int (nI i)), (2, .ref (gB G1 + 0)), (1, .ref (gB G + 0)), (0, .ref b)] []) : Zg p l e room_1 s m #[Value.ref b] below meth c 4 Q cells slots (FL s G G1 M N) 1229 [(3, .int (nI i)), (2, .ref (gB G1 + 0)), (1, .ref (gB G + 0)), (0, .ref b)] [] := by
  refine g_aload_n (x := gB G + 0) 2 C dl_1229 rfl rfl ?_
  refine g_arg (k := 1) (kn := 1) C hX hb (by omega) hL rfl dl_1230 dl_1231 dl_1232 dl_1233 dl_1234 ?_
  obtain ⟨r, M2, e1, e2, R2⟩ := s_spy R0 ((xs (i + 1)))
  refine g_cX (S := []) (As := [.int (xs (i + 1))]) C hg hcs (c_X11_spy l G e1) wc_X11_spy wm_L_146 ws_X11_spy wl_X11_spy wi_X11 hy_X11_spy ⟨Nat.le_of_ble_eq_true rfl, Nat.le_of_ble_eq_true rfl⟩ rfl rfl (Nat.le_of_ble_eq_true rfl) dl_1235 ?_
  refine g_aload_n (x := gB G1 + 0) 1 C dl_1238 rfl rfl ?_
  refine g_arg (k := 1) (kn := 1) C hX hb (by omega) hL rfl dl_1239 dl_1240 dl_1241 dl_1242 dl_1243 ?_
  refine g_cY (S := [.int r]) (As := [.int (xs (i + 1))]) C hg hcs (c_X12_spy l G1 e2) wc_X12_spy wm_L_149 ws_X12_spy wl_X12_spy wi_X12 hy_X12_spy ⟨Nat.le_of_ble_eq_true rfl, Nat.le_of_ble_eq_true rfl⟩ rfl rfl (Nat.le_of_ble_eq_true rfl) dl_1244 ?_
  exact g_icmp_eq (tgt := 1596) C dl_1247 (fun _ => hK _ _ R2) (fun q => absurd rfl q)
theorem lc_32 {p : Program} {l : Launch} {e : Env} {s : State} {m : MethodId} {below : List Frame} {meth : Method} {c : Code} {b Ln i cells slots : Nat} {xs : Nat → Int32} {Q : State → Prop} {G G1 : GG} {M N : Mm} (C : GX p s m #[Value.ref b] c code 4 "SnowSentriesLaw") (hX : va_X b Ln xs s s.heap) (hb : b < s.heap.size) (hL : Ln ≤ 320) (hg : LG s G G1) (hcs : cells ≤ room_1.cells ∧ slots ≤ room_1.slots) (hi : i + 5 ≤ Ln) (R0 : Rel M N) (hK : ∀ M2 N2, Rel M2 N2 → Zg p l e room_1 s m #[Value.ref b] below meth c 4 Q cells slots (FL s G G1 M2 N2) 1596 [(3, .int (nI i)), (2, .ref (gB G1 + 0)), (1, .ref (gB G + 0)), (0, .ref b)] []) : Zg p l e room_1 s m #[Value.ref b] below meth c 4 Q cells slots (FL s G G1 M N) 1252 [(3, .int (nI i)), (2, .ref (gB G1 + 0)), (1, .ref (gB G + 0)), (0, .ref b)] [] := by
  refine g_aload_n (x := gB G + 0) 2 C dl_1252 rfl rfl ?_
  refine g_arg (k := 1) (kn := 1) C hX hb (by omega) hL rfl dl_1253 dl_1254 dl_1255 dl_1256 dl_1257 ?_
  obtain ⟨r, M2, e1, e2, R2⟩ := s_spies R0 ((xs (i + 1)))
  refine g_cX (S := []) (As := [.int (xs (i + 1))]) C hg hcs (c_X11_spies l G e1) wc_X11_spies wm_L_150 ws_X11_spies wl_X11_spies wi_X11 hy_X11_spies ⟨Nat.le_of_ble_eq_true rfl, Nat.le_of_ble_eq_true rfl⟩ rfl rfl (Nat.le_of_ble_eq_true rfl) dl_1258 ?_
  refine g_aload_n (x := gB G1 + 0) 1 C dl_1261 rfl rfl ?_
  refine g_arg (k := 1) (kn := 1) C hX hb (by omega) hL rfl dl_1262 dl_1263 dl_1264 dl_1265 dl_1266 ?_
  refine g_cY (S := [.int r]) (As := [.int (xs (i + 1))]) C hg hcs (c_X12_spies l G1 e2) wc_X12_spies wm_L_153 ws_X12_spies wl_X12_spies wi_X12 hy_X12_spies ⟨Nat.le_of_ble_eq_true rfl, Nat.le_of_ble_eq_true rfl⟩ rfl rfl (Nat.le_of_ble_eq_true rfl) dl_1267 ?_
  exact g_icmp_eq (tgt := 1596) C dl_1270 (fun _ => hK _ _ R2) (fun q => absurd rfl q)
theorem lc_33 {p : Program} {l : Launch} {e : Env} {s : State} {m : MethodId} {below : List Frame} {meth : Method} {c : Code} {b Ln i cells slots : Nat} {xs : Nat → Int32} {Q : State → Prop} {G G1 : GG} {M N : Mm} (C : GX p s m #[Value.ref b] c code 4 "SnowSentriesLaw") (hX : va_X b Ln xs s s.heap) (hb : b < s.heap.size) (hL : Ln ≤ 320) (hg : LG s G G1) (hcs : cells ≤ room_1.cells ∧ slots ≤ room_1.slots) (hi : i + 5 ≤ Ln) (R0 : Rel M N) (hK : ∀ M2 N2, Rel M2 N2 → Zg p l e room_1 s m #[Value.ref b] below meth c 4 Q cells slots (FL s G G1 M2 N2) 1596 [(3, .int (nI i)), (2, .ref (gB G1 + 0)), (1, .ref (gB G + 0)), (0, .ref b)] []) : Zg p l e room_1 s m #[Value.ref b] below meth c 4 Q cells slots (FL s G G1 M N) 1275 [(3, .int (nI i)), (2, .ref (gB G1 + 0)), (1, .ref (gB G + 0)), (0, .ref b)] [] := by
  refine g_aload_n (x := gB G + 0) 2 C dl_1275 rfl rfl ?_
  refine g_arg (k := 1) (kn := 1) C hX hb (by omega) hL rfl dl_1276 dl_1277 dl_1278 dl_1279 dl_1280 ?_
  refine g_arg (k := 2) (kn := 2) C hX hb (by omega) hL rfl dl_1281 dl_1282 dl_1283 dl_1284 dl_1285 ?_
  refine g_arg (k := 3) (kn := 3) C hX hb (by omega) hL rfl dl_1286 dl_1287 dl_1288 dl_1289 dl_1290 ?_
  refine g_arg (k := 4) (kn := 4) C hX hb (by omega) hL rfl dl_1291 dl_1292 dl_1293 dl_1294 dl_1295 ?_
  obtain ⟨r, M2, N2, e1, e2, R2⟩ := s_odds R0 ((xs (i + 1))) ((xs (i + 2))) ((xs (i + 3))) ((xs (i + 4)))
  refine g_cX (S := []) (As := [.int (xs (i + 1)), .int (xs (i + 2)), .int (xs (i + 3)), .int (xs (i + 4))]) C hg hcs (c_X11_odds l G e1) wc_X11_odds wm_L_154 ws_X11_odds wl_X11_odds wi_X11 hy_X11_odds ⟨Nat.le_of_ble_eq_true rfl, Nat.le_of_ble_eq_true rfl⟩ rfl rfl (Nat.le_of_ble_eq_true rfl) dl_1296 ?_
  refine g_aload_n (x := gB G1 + 0) 1 C dl_1299 rfl rfl ?_
  refine g_arg (k := 1) (kn := 1) C hX hb (by omega) hL rfl dl_1300 dl_1301 dl_1302 dl_1303 dl_1304 ?_
  refine g_arg (k := 2) (kn := 2) C hX hb (by omega) hL rfl dl_1305 dl_1306 dl_1307 dl_1308 dl_1309 ?_
  refine g_arg (k := 3) (kn := 3) C hX hb (by omega) hL rfl dl_1310 dl_1311 dl_1312 dl_1313 dl_1314 ?_
  refine g_arg (k := 4) (kn := 4) C hX hb (by omega) hL rfl dl_1315 dl_1316 dl_1317 dl_1318 dl_1319 ?_
  refine g_cY (S := [.long r]) (As := [.int (xs (i + 1)), .int (xs (i + 2)), .int (xs (i + 3)), .int (xs (i + 4))]) C hg hcs (c_X12_odds l G1 e2) wc_X12_odds wm_L_158 ws_X12_odds wl_X12_odds wi_X12 hy_X12_odds ⟨Nat.le_of_ble_eq_true rfl, Nat.le_of_ble_eq_true rfl⟩ rfl rfl (Nat.le_of_ble_eq_true rfl) dl_1320 ?_
  refine g_lcmp C dl_1323 ?_
  exact g_if_eq (tgt := 1596) C dl_1324 (fun _ => hK _ _ R2) (fun q => absurd (lg_self r) q)
theorem lc_34 {p : Program} {l : Launch} {e : Env} {s : State} {m : MethodId} {below : List Frame} {meth : Method} {c : Code} {b Ln i cells slots : Nat} {xs : Nat → Int32} {Q : State → Prop} {G G1 : GG} {M N : Mm} (C : GX p s m #[Value.ref b] c code 4 "SnowSentriesLaw") (hX : va_X b Ln xs s s.heap) (hb : b < s.heap.size) (hL : Ln ≤ 320) (hg : LG s G G1) (hcs : cells ≤ room_1.cells ∧ slots ≤ room_1.slots) (hi : i + 5 ≤ Ln) (R0 : Rel M N) (hK : ∀ M2 N2, Rel M2 N2 → Zg p l e room_1 s m #[Value.ref b] below meth c 4 Q cells slots (FL s G G1 M2 N2) 1596 [(3, .int (nI i)), (2, .ref (gB G1 + 0)), (1, .ref (gB G + 0)), (0, .ref b)] []) : Zg p l e room_1 s m #[Value.ref b] below meth c 4 Q cells slots (FL s G G1 M N) 1329 [(3, .int (nI i)), (2, .ref (gB G1 + 0)), (1, .ref (gB G + 0)), (0, .ref b)] [] := by
  refine g_aload_n (x := gB G + 0) 2 C dl_1329 rfl rfl ?_
  refine g_arg (k := 1) (kn := 1) C hX hb (by omega) hL rfl dl_1330 dl_1331 dl_1332 dl_1333 dl_1334 ?_
  obtain ⟨r, e1, e2⟩ := s_talks R0 ((xs (i + 1)))
  refine g_cX (S := []) (As := [.int (xs (i + 1))]) C hg hcs (c_X11_talks l G e1) wc_X11_talks wm_L_159 ws_X11_talks wl_X11_talks wi_X11 hy_X11_talks ⟨Nat.le_of_ble_eq_true rfl, Nat.le_of_ble_eq_true rfl⟩ rfl rfl (Nat.le_of_ble_eq_true rfl) dl_1335 ?_
  refine g_aload_n (x := gB G1 + 0) 1 C dl_1338 rfl rfl ?_
  refine g_arg (k := 1) (kn := 1) C hX hb (by omega) hL rfl dl_1339 dl_1340 dl_1341 dl_1342 dl_1343 ?_
  refine g_cY (S := [.int r]) (As := [.int (xs (i + 1))]) C hg hcs (c_X12_talks l G1 e2) wc_X12_talks wm_L_162 ws_X12_talks wl_X12_talks wi_X12 hy_X12_talks ⟨Nat.le_of_ble_eq_true rfl, Nat.le_of_ble_eq_true rfl⟩ rfl rfl (Nat.le_of_ble_eq_true rfl) dl_1344 ?_
  exact g_icmp_eq (tgt := 1596) C dl_1347 (fun _ => hK _ _ R0) (fun q => absurd rfl q)
theorem lc_35 {p : Program} {l : Launch} {e : Env} {s : State} {m : MethodId} {below : List Frame} {meth : Method} {c : Code} {b Ln i cells slots : Nat} {xs : Nat → Int32} {Q : State → Prop} {G G1 : GG} {M N : Mm} (C : GX p s m #[Value.ref b] c code 4 "SnowSentriesLaw") (hX : va_X b Ln xs s s.heap) (hb : b < s.heap.size) (hL : Ln ≤ 320) (hg : LG s G G1) (hcs : cells ≤ room_1.cells ∧ slots ≤ room_1.slots) (hi : i + 5 ≤ Ln) (R0 : Rel M N) (hK : ∀ M2 N2, Rel M2 N2 → Zg p l e room_1 s m #[Value.ref b] below meth c 4 Q cells slots (FL s G G1 M2 N2) 1596 [(3, .int (nI i)), (2, .ref (gB G1 + 0)), (1, .ref (gB G + 0)), (0, .ref b)] []) : Zg p l e room_1 s m #[Value.ref b] below meth c 4 Q cells slots (FL s G G1 M N) 1352 [(3, .int (nI i)), (2, .ref (gB G1 + 0)), (1, .ref (gB G + 0)), (0, .ref b)] [] := by
  refine g_aload_n (x := gB G + 0) 2 C dl_1352 rfl rfl ?_
  refine g_arg (k := 1) (kn := 1) C hX hb (by omega) hL rfl dl_1353 dl_1354 dl_1355 dl_1356 dl_1357 ?_
  obtain ⟨r, e1, e2⟩ := s_strength R0 ((xs (i + 1)))
  refine g_cX (S := []) (As := [.int (xs (i + 1))]) C hg hcs (c_X11_strength l G e1) wc_X11_strength wm_L_163 ws_X11_strength wl_X11_strength wi_X11 hy_X11_strength ⟨Nat.le_of_ble_eq_true rfl, Nat.le_of_ble_eq_true rfl⟩ rfl rfl (Nat.le_of_ble_eq_true rfl) dl_1358 ?_
  refine g_aload_n (x := gB G1 + 0) 1 C dl_1361 rfl rfl ?_
  refine g_arg (k := 1) (kn := 1) C hX hb (by omega) hL rfl dl_1362 dl_1363 dl_1364 dl_1365 dl_1366 ?_
  refine g_cY (S := [.int r]) (As := [.int (xs (i + 1))]) C hg hcs (c_X12_strength l G1 e2) wc_X12_strength wm_L_166 ws_X12_strength wl_X12_strength wi_X12 hy_X12_strength ⟨Nat.le_of_ble_eq_true rfl, Nat.le_of_ble_eq_true rfl⟩ rfl rfl (Nat.le_of_ble_eq_true rfl) dl_1367 ?_
  exact g_icmp_eq (tgt := 1596) C dl_1370 (fun _ => hK _ _ R0) (fun q => absurd rfl q)
theorem lc_36 {p : Program} {l : Launch} {e : Env} {s : State} {m : MethodId} {below : List Frame} {meth : Method} {c : Code} {b Ln i cells slots : Nat} {xs : Nat → Int32} {Q : State → Prop} {G G1 : GG} {M N : Mm} (C : GX p s m #[Value.ref b] c code 4 "SnowSentriesLaw") (hX : va_X b Ln xs s s.heap) (hb : b < s.heap.size) (hL : Ln ≤ 320) (hg : LG s G G1) (hcs : cells ≤ room_1.cells ∧ slots ≤ room_1.slots) (hi : i + 5 ≤ Ln) (R0 : Rel M N) (hK : ∀ M2 N2, Rel M2 N2 → Zg p l e room_1 s m #[Value.ref b] below meth c 4 Q cells slots (FL s G G1 M2 N2) 1596 [(3, .int (nI i)), (2, .ref (gB G1 + 0)), (1, .ref (gB G + 0)), (0, .ref b)] []) : Zg p l e room_1 s m #[Value.ref b] below meth c 4 Q cells slots (FL s G G1 M N) 1375 [(3, .int (nI i)), (2, .ref (gB G1 + 0)), (1, .ref (gB G + 0)), (0, .ref b)] [] := by
  refine g_aload_n (x := gB G + 0) 2 C dl_1375 rfl rfl ?_
  refine g_arg (k := 1) (kn := 1) C hX hb (by omega) hL rfl dl_1376 dl_1377 dl_1378 dl_1379 dl_1380 ?_
  obtain ⟨r, M2, N2, e1, e2, R2⟩ := s_keep R0 ((xs (i + 1)))
  refine g_cX (S := []) (As := [.int (xs (i + 1))]) C hg hcs (c_X11_keep l G e1) wc_X11_keep wm_L_167 ws_X11_keep wl_X11_keep wi_X11 hy_X11_keep ⟨Nat.le_of_ble_eq_true rfl, Nat.le_of_ble_eq_true rfl⟩ rfl rfl (Nat.le_of_ble_eq_true rfl) dl_1381 ?_
  refine g_aload_n (x := gB G1 + 0) 1 C dl_1384 rfl rfl ?_
  refine g_arg (k := 1) (kn := 1) C hX hb (by omega) hL rfl dl_1385 dl_1386 dl_1387 dl_1388 dl_1389 ?_
  refine g_cY (S := [.int r]) (As := [.int (xs (i + 1))]) C hg hcs (c_X12_keep l G1 e2) wc_X12_keep wm_L_170 ws_X12_keep wl_X12_keep wi_X12 hy_X12_keep ⟨Nat.le_of_ble_eq_true rfl, Nat.le_of_ble_eq_true rfl⟩ rfl rfl (Nat.le_of_ble_eq_true rfl) dl_1390 ?_
  exact g_icmp_eq (tgt := 1596) C dl_1393 (fun _ => hK _ _ R2) (fun q => absurd rfl q)
theorem lc_37 {p : Program} {l : Launch} {e : Env} {s : State} {m : MethodId} {below : List Frame} {meth : Method} {c : Code} {b Ln i cells slots : Nat} {xs : Nat → Int32} {Q : State → Prop} {G G1 : GG} {M N : Mm} (C : GX p s m #[Value.ref b] c code 4 "SnowSentriesLaw") (hX : va_X b Ln xs s s.heap) (hb : b < s.heap.size) (hL : Ln ≤ 320) (hg : LG s G G1) (hcs : cells ≤ room_1.cells ∧ slots ≤ room_1.slots) (hi : i + 5 ≤ Ln) (R0 : Rel M N) (hK : ∀ M2 N2, Rel M2 N2 → Zg p l e room_1 s m #[Value.ref b] below meth c 4 Q cells slots (FL s G G1 M2 N2) 1596 [(3, .int (nI i)), (2, .ref (gB G1 + 0)), (1, .ref (gB G + 0)), (0, .ref b)] []) : Zg p l e room_1 s m #[Value.ref b] below meth c 4 Q cells slots (FL s G G1 M N) 1398 [(3, .int (nI i)), (2, .ref (gB G1 + 0)), (1, .ref (gB G + 0)), (0, .ref b)] [] := by
  refine g_aload_n (x := gB G + 0) 2 C dl_1398 rfl rfl ?_
  refine g_arg (k := 1) (kn := 1) C hX hb (by omega) hL rfl dl_1399 dl_1400 dl_1401 dl_1402 dl_1403 ?_
  obtain ⟨r, M2, N2, e1, e2, R2⟩ := s_back R0 ((xs (i + 1)))
  refine g_cX (S := []) (As := [.int (xs (i + 1))]) C hg hcs (c_X11_back l G e1) wc_X11_back wm_L_171 ws_X11_back wl_X11_back wi_X11 hy_X11_back ⟨Nat.le_of_ble_eq_true rfl, Nat.le_of_ble_eq_true rfl⟩ rfl rfl (Nat.le_of_ble_eq_true rfl) dl_1404 ?_
  refine g_aload_n (x := gB G1 + 0) 1 C dl_1407 rfl rfl ?_
  refine g_arg (k := 1) (kn := 1) C hX hb (by omega) hL rfl dl_1408 dl_1409 dl_1410 dl_1411 dl_1412 ?_
  refine g_cY (S := [.int r]) (As := [.int (xs (i + 1))]) C hg hcs (c_X12_back l G1 e2) wc_X12_back wm_L_174 ws_X12_back wl_X12_back wi_X12 hy_X12_back ⟨Nat.le_of_ble_eq_true rfl, Nat.le_of_ble_eq_true rfl⟩ rfl rfl (Nat.le_of_ble_eq_true rfl) dl_1413 ?_
  exact g_icmp_eq (tgt := 1596) C dl_1416 (fun _ => hK _ _ R2) (fun q => absurd rfl q)
theorem lc_38 {p : Program} {l : Launch} {e : Env} {s : State} {m : MethodId} {below : List Frame} {meth : Method} {c : Code} {b Ln i cells slots : Nat} {xs : Nat → Int32} {Q : State → Prop} {G G1 : GG} {M N : Mm} (C : GX p s m #[Value.ref b] c code 4 "SnowSentriesLaw") (hX : va_X b Ln xs s s.heap) (hb : b < s.heap.size) (hL : Ln ≤ 320) (hg : LG s G G1) (hcs : cells ≤ room_1.cells ∧ slots ≤ room_1.slots) (hi : i + 5 ≤ Ln) (R0 : Rel M N) (hK : ∀ M2 N2, Rel M2 N2 → Zg p l e room_1 s m #[Value.ref b] below meth c 4 Q cells slots (FL s G G1 M2 N2) 1596 [(3, .int (nI i)), (2, .ref (gB G1 + 0)), (1, .ref (gB G + 0)), (0, .ref b)] []) : Zg p l e room_1 s m #[Value.ref b] below meth c 4 Q cells slots (FL s G G1 M N) 1421 [(3, .int (nI i)), (2, .ref (gB G1 + 0)), (1, .ref (gB G + 0)), (0, .ref b)] [] := by
  refine g_aload_n (x := gB G + 0) 2 C dl_1421 rfl rfl ?_
  refine g_arg (k := 1) (kn := 1) C hX hb (by omega) hL rfl dl_1422 dl_1423 dl_1424 dl_1425 dl_1426 ?_
  refine g_arg (k := 2) (kn := 2) C hX hb (by omega) hL rfl dl_1427 dl_1428 dl_1429 dl_1430 dl_1431 ?_
  refine g_arg (k := 3) (kn := 3) C hX hb (by omega) hL rfl dl_1432 dl_1433 dl_1434 dl_1435 dl_1436 ?_
  obtain ⟨r, M2, N2, e1, e2, R2⟩ := s_sheet R0 ((xs (i + 1))) ((xs (i + 2))) ((xs (i + 3)))
  refine g_cX (S := []) (As := [.int (xs (i + 1)), .int (xs (i + 2)), .int (xs (i + 3))]) C hg hcs (c_X11_sheet l G e1) wc_X11_sheet wm_L_175 ws_X11_sheet wl_X11_sheet wi_X11 hy_X11_sheet ⟨Nat.le_of_ble_eq_true rfl, Nat.le_of_ble_eq_true rfl⟩ rfl rfl (Nat.le_of_ble_eq_true rfl) dl_1437 ?_
  refine g_aload_n (x := gB G1 + 0) 1 C dl_1440 rfl rfl ?_
  refine g_arg (k := 1) (kn := 1) C hX hb (by omega) hL rfl dl_1441 dl_1442 dl_1443 dl_1444 dl_1445 ?_
  refine g_arg (k := 2) (kn := 2) C hX hb (by omega) hL rfl dl_1446 dl_1447 dl_1448 dl_1449 dl_1450 ?_
  refine g_arg (k := 3) (kn := 3) C hX hb (by omega) hL rfl dl_1451 dl_1452 dl_1453 dl_1454 dl_1455 ?_
  refine g_cY (S := [.int r]) (As := [.int (xs (i + 1)), .int (xs (i + 2)), .int (xs (i + 3))]) C hg hcs (c_X12_sheet l G1 e2) wc_X12_sheet wm_L_178 ws_X12_sheet wl_X12_sheet wi_X12 hy_X12_sheet ⟨Nat.le_of_ble_eq_true rfl, Nat.le_of_ble_eq_true rfl⟩ rfl rfl (Nat.le_of_ble_eq_true rfl) dl_1456 ?_
  exact g_icmp_eq (tgt := 1596) C dl_1459 (fun _ => hK _ _ R2) (fun q => absurd rfl q)
theorem lc_39 {p : Program} {l : Launch} {e : Env} {s : State} {m : MethodId} {below : List Frame} {meth : Method} {c : Code} {b Ln i cells slots : Nat} {xs : Nat → Int32} {Q : State → Prop} {G G1 : GG} {M N : Mm} (C : GX p s m #[Value.ref b] c code 4 "SnowSentriesLaw") (hX : va_X b Ln xs s s.heap) (hb : b < s.heap.size) (hL : Ln ≤ 320) (hg : LG s G G1) (hcs : cells ≤ room_1.cells ∧ slots ≤ room_1.slots) (hi : i + 5 ≤ Ln) (R0 : Rel M N) (hK : ∀ M2 N2, Rel M2 N2 → Zg p l e room_1 s m #[Value.ref b] below meth c 4 Q cells slots (FL s G G1 M2 N2) 1596 [(3, .int (nI i)), (2, .ref (gB G1 + 0)), (1, .ref (gB G + 0)), (0, .ref b)] []) : Zg p l e room_1 s m #[Value.ref b] below meth c 4 Q cells slots (FL s G G1 M N) 1464 [(3, .int (nI i)), (2, .ref (gB G1 + 0)), (1, .ref (gB G + 0)), (0, .ref b)] [] := by
  refine g_aload_n (x := gB G + 0) 2 C dl_1464 rfl rfl ?_
  refine g_arg (k := 1) (kn := 1) C hX hb (by omega) hL rfl dl_1465 dl_1466 dl_1467 dl_1468 dl_1469 ?_
  refine g_arg (k := 2) (kn := 2) C hX hb (by omega) hL rfl dl_1470 dl_1471 dl_1472 dl_1473 dl_1474 ?_
  refine g_arg (k := 3) (kn := 3) C hX hb (by omega) hL rfl dl_1475 dl_1476 dl_1477 dl_1478 dl_1479 ?_
  obtain ⟨r, M2, N2, e1, e2, R2⟩ := s_lay R0 ((xs (i + 1))) ((xs (i + 2))) ((xs (i + 3)))
  refine g_cX (S := []) (As := [.int (xs (i + 1)), .int (xs (i + 2)), .int (xs (i + 3))]) C hg hcs (c_X11_lay l G e1) wc_X11_lay wm_L_179 ws_X11_lay wl_X11_lay wi_X11 hy_X11_lay ⟨Nat.le_of_ble_eq_true rfl, Nat.le_of_ble_eq_true rfl⟩ rfl rfl (Nat.le_of_ble_eq_true rfl) dl_1480 ?_
  refine g_aload_n (x := gB G1 + 0) 1 C dl_1483 rfl rfl ?_
  refine g_arg (k := 1) (kn := 1) C hX hb (by omega) hL rfl dl_1484 dl_1485 dl_1486 dl_1487 dl_1488 ?_
  refine g_arg (k := 2) (kn := 2) C hX hb (by omega) hL rfl dl_1489 dl_1490 dl_1491 dl_1492 dl_1493 ?_
  refine g_arg (k := 3) (kn := 3) C hX hb (by omega) hL rfl dl_1494 dl_1495 dl_1496 dl_1497 dl_1498 ?_
  refine g_cY (S := [.int r]) (As := [.int (xs (i + 1)), .int (xs (i + 2)), .int (xs (i + 3))]) C hg hcs (c_X12_lay l G1 e2) wc_X12_lay wm_L_182 ws_X12_lay wl_X12_lay wi_X12 hy_X12_lay ⟨Nat.le_of_ble_eq_true rfl, Nat.le_of_ble_eq_true rfl⟩ rfl rfl (Nat.le_of_ble_eq_true rfl) dl_1499 ?_
  exact g_icmp_eq (tgt := 1596) C dl_1502 (fun _ => hK _ _ R2) (fun q => absurd rfl q)
theorem lc_40 {p : Program} {l : Launch} {e : Env} {s : State} {m : MethodId} {below : List Frame} {meth : Method} {c : Code} {b Ln i cells slots : Nat} {xs : Nat → Int32} {Q : State → Prop} {G G1 : GG} {M N : Mm} (C : GX p s m #[Value.ref b] c code 4 "SnowSentriesLaw") (hX : va_X b Ln xs s s.heap) (hb : b < s.heap.size) (hL : Ln ≤ 320) (hg : LG s G G1) (hcs : cells ≤ room_1.cells ∧ slots ≤ room_1.slots) (hi : i + 5 ≤ Ln) (R0 : Rel M N) (hK : ∀ M2 N2, Rel M2 N2 → Zg p l e room_1 s m #[Value.ref b] below meth c 4 Q cells slots (FL s G G1 M2 N2) 1596 [(3, .int (nI i)), (2, .ref (gB G1 + 0)), (1, .ref (gB G + 0)), (0, .ref b)] []) : Zg p l e room_1 s m #[Value.ref b] below meth c 4 Q cells slots (FL s G G1 M N) 1507 [(3, .int (nI i)), (2, .ref (gB G1 + 0)), (1, .ref (gB G + 0)), (0, .ref b)] [] := by
  refine g_aload_n (x := gB G + 0) 2 C dl_1507 rfl rfl ?_
  refine g_arg (k := 1) (kn := 1) C hX hb (by omega) hL rfl dl_1508 dl_1509 dl_1510 dl_1511 dl_1512 ?_
  refine g_arg (k := 2) (kn := 2) C hX hb (by omega) hL rfl dl_1513 dl_1514 dl_1515 dl_1516 dl_1517 ?_
  refine g_arg (k := 3) (kn := 3) C hX hb (by omega) hL rfl dl_1518 dl_1519 dl_1520 dl_1521 dl_1522 ?_
  refine g_arg (k := 4) (kn := 4) C hX hb (by omega) hL rfl dl_1523 dl_1524 dl_1525 dl_1526 dl_1527 ?_
  obtain ⟨r, M2, N2, e1, e2, R2⟩ := s_read R0 ((xs (i + 1))) ((xs (i + 2))) ((xs (i + 3))) ((xs (i + 4)))
  refine g_cX (S := []) (As := [.int (xs (i + 1)), .int (xs (i + 2)), .int (xs (i + 3)), .int (xs (i + 4))]) C hg hcs (c_X11_read l G e1) wc_X11_read wm_L_183 ws_X11_read wl_X11_read wi_X11 hy_X11_read ⟨Nat.le_of_ble_eq_true rfl, Nat.le_of_ble_eq_true rfl⟩ rfl rfl (Nat.le_of_ble_eq_true rfl) dl_1528 ?_
  refine g_aload_n (x := gB G1 + 0) 1 C dl_1531 rfl rfl ?_
  refine g_arg (k := 1) (kn := 1) C hX hb (by omega) hL rfl dl_1532 dl_1533 dl_1534 dl_1535 dl_1536 ?_
  refine g_arg (k := 2) (kn := 2) C hX hb (by omega) hL rfl dl_1537 dl_1538 dl_1539 dl_1540 dl_1541 ?_
  refine g_arg (k := 3) (kn := 3) C hX hb (by omega) hL rfl dl_1542 dl_1543 dl_1544 dl_1545 dl_1546 ?_
  refine g_arg (k := 4) (kn := 4) C hX hb (by omega) hL rfl dl_1547 dl_1548 dl_1549 dl_1550 dl_1551 ?_
  refine g_cY (S := [.int r]) (As := [.int (xs (i + 1)), .int (xs (i + 2)), .int (xs (i + 3)), .int (xs (i + 4))]) C hg hcs (c_X12_read l G1 e2) wc_X12_read wm_L_186 ws_X12_read wl_X12_read wi_X12 hy_X12_read ⟨Nat.le_of_ble_eq_true rfl, Nat.le_of_ble_eq_true rfl⟩ rfl rfl (Nat.le_of_ble_eq_true rfl) dl_1552 ?_
  exact g_icmp_eq (tgt := 1596) C dl_1555 (fun _ => hK _ _ R2) (fun q => absurd rfl q)
theorem lc_41 {p : Program} {l : Launch} {e : Env} {s : State} {m : MethodId} {below : List Frame} {meth : Method} {c : Code} {b Ln i cells slots : Nat} {xs : Nat → Int32} {Q : State → Prop} {G G1 : GG} {M N : Mm} (C : GX p s m #[Value.ref b] c code 4 "SnowSentriesLaw") (hX : va_X b Ln xs s s.heap) (hb : b < s.heap.size) (hL : Ln ≤ 320) (hg : LG s G G1) (hcs : cells ≤ room_1.cells ∧ slots ≤ room_1.slots) (hi : i + 5 ≤ Ln) (R0 : Rel M N) (hK : ∀ M2 N2, Rel M2 N2 → Zg p l e room_1 s m #[Value.ref b] below meth c 4 Q cells slots (FL s G G1 M2 N2) 1596 [(3, .int (nI i)), (2, .ref (gB G1 + 0)), (1, .ref (gB G + 0)), (0, .ref b)] []) : Zg p l e room_1 s m #[Value.ref b] below meth c 4 Q cells slots (FL s G G1 M N) 1560 [(3, .int (nI i)), (2, .ref (gB G1 + 0)), (1, .ref (gB G + 0)), (0, .ref b)] [] := by
  refine g_aload_n (x := gB G + 0) 2 C dl_1560 rfl rfl ?_
  obtain ⟨r, e1, e2⟩ := s_torn R0 
  refine g_cX (S := []) (As := []) C hg hcs (c_X11_torn l G e1) wc_X11_torn wm_L_187 ws_X11_torn wl_X11_torn wi_X11 hy_X11_torn ⟨Nat.le_of_ble_eq_true rfl, Nat.le_of_ble_eq_true rfl⟩ rfl rfl (Nat.le_of_ble_eq_true rfl) dl_1561 ?_
  refine g_aload_n (x := gB G1 + 0) 1 C dl_1564 rfl rfl ?_
  refine g_cY (S := [.int r]) (As := []) C hg hcs (c_X12_torn l G1 e2) wc_X12_torn wm_L_190 ws_X12_torn wl_X12_torn wi_X12 hy_X12_torn ⟨Nat.le_of_ble_eq_true rfl, Nat.le_of_ble_eq_true rfl⟩ rfl rfl (Nat.le_of_ble_eq_true rfl) dl_1565 ?_
  exact g_icmp_eq (tgt := 1596) C dl_1568 (fun _ => hK _ _ R0) (fun q => absurd rfl q)
theorem lc_42 {p : Program} {l : Launch} {e : Env} {s : State} {m : MethodId} {below : List Frame} {meth : Method} {c : Code} {b Ln i cells slots : Nat} {xs : Nat → Int32} {Q : State → Prop} {G G1 : GG} {M N : Mm} (C : GX p s m #[Value.ref b] c code 4 "SnowSentriesLaw") (hX : va_X b Ln xs s s.heap) (hb : b < s.heap.size) (hL : Ln ≤ 320) (hg : LG s G G1) (hcs : cells ≤ room_1.cells ∧ slots ≤ room_1.slots) (hi : i + 5 ≤ Ln) (R0 : Rel M N) (hK : ∀ M2 N2, Rel M2 N2 → Zg p l e room_1 s m #[Value.ref b] below meth c 4 Q cells slots (FL s G G1 M2 N2) 1596 [(3, .int (nI i)), (2, .ref (gB G1 + 0)), (1, .ref (gB G + 0)), (0, .ref b)] []) : Zg p l e room_1 s m #[Value.ref b] below meth c 4 Q cells slots (FL s G G1 M N) 1573 [(3, .int (nI i)), (2, .ref (gB G1 + 0)), (1, .ref (gB G + 0)), (0, .ref b)] [] := by
  refine g_aload_n (x := gB G + 0) 2 C dl_1573 rfl rfl ?_
  refine g_arg (k := 1) (kn := 1) C hX hb (by omega) hL rfl dl_1574 dl_1575 dl_1576 dl_1577 dl_1578 ?_
  obtain ⟨r, e1, e2⟩ := s_count R0 ((xs (i + 1)))
  refine g_cX (S := []) (As := [.int (xs (i + 1))]) C hg hcs (c_X11_count l G e1) wc_X11_count wm_L_191 ws_X11_count wl_X11_count wi_X11 hy_X11_count ⟨Nat.le_of_ble_eq_true rfl, Nat.le_of_ble_eq_true rfl⟩ rfl rfl (Nat.le_of_ble_eq_true rfl) dl_1579 ?_
  refine g_aload_n (x := gB G1 + 0) 1 C dl_1582 rfl rfl ?_
  refine g_arg (k := 1) (kn := 1) C hX hb (by omega) hL rfl dl_1583 dl_1584 dl_1585 dl_1586 dl_1587 ?_
  refine g_cY (S := [.int r]) (As := [.int (xs (i + 1))]) C hg hcs (c_X12_count l G1 e2) wc_X12_count wm_L_194 ws_X12_count wl_X12_count wi_X12 hy_X12_count ⟨Nat.le_of_ble_eq_true rfl, Nat.le_of_ble_eq_true rfl⟩ rfl rfl (Nat.le_of_ble_eq_true rfl) dl_1588 ?_
  exact g_icmp_eq (tgt := 1596) C dl_1591 (fun _ => hK _ _ R0) (fun q => absurd rfl q)
