def y_X12_gap : MethodName := ⟨"SnowSentriesModel", "gap", "(II)I"⟩
def y_X12_layHeat : MethodName := ⟨"SnowSentriesModel", "layHeat", "()V"⟩
def y_X12_lead : MethodName := ⟨"SnowSentriesModel", "lead", "(III)I"⟩
def y_X12_felt : MethodName := ⟨"SnowSentriesModel", "felt", "(I)I"⟩
def y_X12_forget : MethodName := ⟨"SnowSentriesModel", "forget", "()I"⟩
def y_X12_areFelt : MethodName := ⟨"SnowSentriesModel", "areFelt", "(IIII)Z"⟩
def y_X12_spy : MethodName := ⟨"SnowSentriesModel", "spy", "(I)I"⟩
def y_X12_spies : MethodName := ⟨"SnowSentriesModel", "spies", "(I)I"⟩
def y_X12_lowest : MethodName := ⟨"SnowSentriesModel", "lowest", "(JJI)J"⟩
def y_X12_odds : MethodName := ⟨"SnowSentriesModel", "odds", "(IIII)J"⟩
def y_X12_strengthOf : MethodName := ⟨"SnowSentriesModel", "strengthOf", "(I)I"⟩
def y_X12_talks : MethodName := ⟨"SnowSentriesModel", "talks", "(I)I"⟩
def y_X12_strength : MethodName := ⟨"SnowSentriesModel", "strength", "(I)I"⟩
def y_X12_keep : MethodName := ⟨"SnowSentriesModel", "keep", "(I)I"⟩
def y_X12_back : MethodName := ⟨"SnowSentriesModel", "back", "(I)I"⟩
def y_X12_sheet : MethodName := ⟨"SnowSentriesModel", "sheet", "(III)I"⟩
def y_X12_lay : MethodName := ⟨"SnowSentriesModel", "lay", "(III)I"⟩
def y_X12_read : MethodName := ⟨"SnowSentriesModel", "read", "(IIII)I"⟩
def y_X12_torn : MethodName := ⟨"SnowSentriesModel", "torn", "()I"⟩
def y_X12_count : MethodName := ⟨"SnowSentriesModel", "count", "(I)I"⟩
theorem wf_X12_53 : Cond.fieldLink "SnowSentriesModel" 53 "SnowSentriesModel" "leastHeat" "[I" ∈ TB := it_5 (List.mem_of_getElem? (i := 138) rfl) rfl
theorem wm_X12_267 : Cond.methodLink "SnowSentriesModel" 267 y_X12_heat ∈ TB := it_7 (List.mem_of_getElem? (i := 12) rfl) rfl
theorem wc_X12_heat : Cond.code y_X12_heat prog_14_method_47_code 4 (some .int) ∈ TB := it_6 (List.mem_of_getElem? (i := 160) rfl) rfl
theorem ws_X12_heat : Cond.instanceMethod y_X12_heat ∈ TB := it_6 (List.mem_of_getElem? (i := 158) rfl) rfl
theorem hy_X12_heat : (y_X12_heat).cls ≠ "java/lang/invoke/MethodHandle" ∧ (y_X12_heat).cls ≠ "java/lang/invoke/VarHandle" ∧ (parseMethodDescriptor (y_X12_heat).desc).map (fun d => d.parameters.length) = some 3 := by decide +kernel
theorem wl_X12_heat : Cond.selects "SnowSentriesModel" y_X12_heat y_X12_heat ∈ TB := it_6 (List.mem_of_getElem? (i := 159) rfl) rfl
theorem wm_X12_271 : Cond.methodLink "SnowSentriesModel" 271 y_X12_layHeat ∈ TB := it_7 (List.mem_of_getElem? (i := 8) rfl) rfl
theorem wc_X12_layHeat : Cond.code y_X12_layHeat prog_14_method_67_code 6 none ∈ TB := it_7 (List.mem_of_getElem? (i := 11) rfl) rfl
theorem ws_X12_layHeat : Cond.instanceMethod y_X12_layHeat ∈ TB := it_7 (List.mem_of_getElem? (i := 10) rfl) rfl
theorem hy_X12_layHeat : (y_X12_layHeat).cls ≠ "java/lang/invoke/MethodHandle" ∧ (y_X12_layHeat).cls ≠ "java/lang/invoke/VarHandle" ∧ (parseMethodDescriptor (y_X12_layHeat).desc).map (fun d => d.parameters.length) = some 0 := by decide +kernel
theorem wl_X12_layHeat : Cond.selects "SnowSentriesModel" y_X12_layHeat y_X12_layHeat ∈ TB := TB_in (List.mem_append_left _ (List.mem_of_getElem? (i := 66) rfl)) rfl
theorem wf_X12_56 : Cond.fieldLink "SnowSentriesModel" 56 "SnowSentriesModel" "felts" "[I" ∈ TB := it_5 (List.mem_of_getElem? (i := 139) rfl) rfl
theorem wm_X12_274 : Cond.methodLink "SnowSentriesModel" 274 y_X12_areFelt ∈ TB := it_7 (List.mem_of_getElem? (i := 25) rfl) rfl
theorem wc_X12_areFelt : Cond.code y_X12_areFelt prog_14_method_71_code 7 (some .boolean) ∈ TB := it_7 (List.mem_of_getElem? (i := 28) rfl) rfl
theorem ws_X12_areFelt : Cond.instanceMethod y_X12_areFelt ∈ TB := it_7 (List.mem_of_getElem? (i := 27) rfl) rfl
theorem hy_X12_areFelt : (y_X12_areFelt).cls ≠ "java/lang/invoke/MethodHandle" ∧ (y_X12_areFelt).cls ≠ "java/lang/invoke/VarHandle" ∧ (parseMethodDescriptor (y_X12_areFelt).desc).map (fun d => d.parameters.length) = some 4 := by decide +kernel
theorem wl_X12_areFelt : Cond.selects "SnowSentriesModel" y_X12_areFelt y_X12_areFelt ∈ TB := TB_in (List.mem_append_left _ (List.mem_of_getElem? (i := 67) rfl)) rfl
theorem wk_X12_278 : Cond.constantLong "SnowSentriesModel" 278 (-1 : Int64) ∈ TB := it_7 (List.mem_of_getElem? (i := 37) rfl) rfl
theorem wm_X12_282 : Cond.methodLink "SnowSentriesModel" 282 y_X12_lowest ∈ TB := it_7 (List.mem_of_getElem? (i := 39) rfl) rfl
theorem wc_X12_lowest : Cond.code y_X12_lowest prog_14_method_74_code 11 (some .long) ∈ TB := it_7 (List.mem_of_getElem? (i := 41) rfl) rfl
theorem ws_X12_lowest : Cond.static y_X12_lowest ∈ TB := it_7 (List.mem_of_getElem? (i := 40) rfl) rfl
theorem hy_X12_lowest : (y_X12_lowest).cls ≠ "java/lang/invoke/MethodHandle" ∧ (y_X12_lowest).cls ≠ "java/lang/invoke/VarHandle" ∧ (parseMethodDescriptor (y_X12_lowest).desc).map (fun d => d.parameters.length) = some 3 := by decide +kernel
theorem wk_X12_280 : Cond.constantLong "SnowSentriesModel" 280 (-4 : Int64) ∈ TB := it_7 (List.mem_of_getElem? (i := 38) rfl) rfl
theorem wm_X12_286 : Cond.methodLink "SnowSentriesModel" 286 y_X12_strengthOf ∈ TB := it_7 (List.mem_of_getElem? (i := 46) rfl) rfl
theorem wc_X12_strengthOf : Cond.code y_X12_strengthOf prog_14_method_76_code 4 (some .int) ∈ TB := it_7 (List.mem_of_getElem? (i := 49) rfl) rfl
theorem ws_X12_strengthOf : Cond.instanceMethod y_X12_strengthOf ∈ TB := it_7 (List.mem_of_getElem? (i := 48) rfl) rfl
theorem hy_X12_strengthOf : (y_X12_strengthOf).cls ≠ "java/lang/invoke/MethodHandle" ∧ (y_X12_strengthOf).cls ≠ "java/lang/invoke/VarHandle" ∧ (parseMethodDescriptor (y_X12_strengthOf).desc).map (fun d => d.parameters.length) = some 1 := by decide +kernel
theorem wl_X12_strengthOf : Cond.selects "SnowSentriesModel" y_X12_strengthOf y_X12_strengthOf ∈ TB := TB_in (List.mem_append_left _ (List.mem_of_getElem? (i := 68) rfl)) rfl
theorem wf_X12_69 : Cond.fieldLink "SnowSentriesModel" 69 "SnowSentriesModel" "cells" "[I" ∈ TB := it_5 (List.mem_of_getElem? (i := 144) rfl) rfl
theorem wf_X12_63 : Cond.fieldLink "SnowSentriesModel" 63 "SnowSentriesModel" "lanes" "[I" ∈ TB := it_5 (List.mem_of_getElem? (i := 142) rfl) rfl
theorem wf_X12_66 : Cond.fieldLink "SnowSentriesModel" 66 "SnowSentriesModel" "lengths" "[I" ∈ TB := it_5 (List.mem_of_getElem? (i := 143) rfl) rfl
theorem wf_X12_289 : Cond.fieldLink "SnowSentriesModel" 289 "SnowSentriesModel" "torn" "I" ∈ TB := it_5 (List.mem_of_getElem? (i := 145) rfl) rfl
theorem d_X12_gap_0 : DD prog_14_method_66_code 0 (.iload_n 1) 1 1 := ⟨by decide +kernel, rfl⟩
theorem d_X12_gap_1 : DD prog_14_method_66_code 1 (.invokestatic 210) 3 4 := ⟨by decide +kernel, rfl⟩
theorem d_X12_gap_4 : DJ prog_14_method_66_code 4 (fun o => .ifCond .eq o) 17 3 7 := ⟨by decide +kernel, rfl⟩
theorem d_X12_gap_7 : DD prog_14_method_66_code 7 (.iload_n 2) 1 8 := ⟨by decide +kernel, rfl⟩
theorem d_X12_gap_8 : DD prog_14_method_66_code 8 (.i2l) 1 9 := ⟨by decide +kernel, rfl⟩
theorem d_X12_gap_9 : DD prog_14_method_66_code 9 (.lconst 0) 1 10 := ⟨by decide +kernel, rfl⟩
theorem d_X12_gap_10 : DD prog_14_method_66_code 10 (.lconst 1) 1 11 := ⟨by decide +kernel, rfl⟩
theorem d_X12_gap_11 : DD prog_14_method_66_code 11 (.invokestatic 75) 3 14 := ⟨by decide +kernel, rfl⟩
theorem d_X12_gap_14 : DJ prog_14_method_66_code 14 (fun o => .ifCond .ne o) 19 3 17 := ⟨by decide +kernel, rfl⟩
theorem d_X12_gap_17 : DD prog_14_method_66_code 17 (.iconst (-1)) 1 18 := ⟨by decide +kernel, rfl⟩
theorem d_X12_gap_18 : DD prog_14_method_66_code 18 (.ireturn) 1 19 := ⟨by decide +kernel, rfl⟩
theorem d_X12_gap_19 : DD prog_14_method_66_code 19 (.bipush 13) 2 21 := ⟨by decide +kernel, rfl⟩
theorem d_X12_gap_21 : DD prog_14_method_66_code 21 (.istore_n 3) 1 22 := ⟨by decide +kernel, rfl⟩
theorem d_X12_gap_22 : DD prog_14_method_66_code 22 (.bipush (-4)) 2 24 := ⟨by decide +kernel, rfl⟩
theorem d_X12_gap_24 : DD prog_14_method_66_code 24 (.istore 4) 2 26 := ⟨by decide +kernel, rfl⟩
theorem d_X12_gap_26 : DD prog_14_method_66_code 26 (.iconst 0) 1 27 := ⟨by decide +kernel, rfl⟩
theorem d_X12_gap_27 : DD prog_14_method_66_code 27 (.istore 5) 2 29 := ⟨by decide +kernel, rfl⟩
theorem d_X12_gap_29 : DD prog_14_method_66_code 29 (.iload 5) 2 31 := ⟨by decide +kernel, rfl⟩
theorem d_X12_gap_31 : DD prog_14_method_66_code 31 (.aload_n 0) 1 32 := ⟨by decide +kernel, rfl⟩
theorem d_X12_gap_32 : DD prog_14_method_66_code 32 (.getfield 13) 3 35 := ⟨by decide +kernel, rfl⟩
theorem d_X12_gap_35 : DJ prog_14_method_66_code 35 (fun o => .if_icmp .ge o) 103 3 38 := ⟨by decide +kernel, rfl⟩
theorem d_X12_gap_38 : DD prog_14_method_66_code 38 (.aload_n 0) 1 39 := ⟨by decide +kernel, rfl⟩
theorem d_X12_gap_39 : DD prog_14_method_66_code 39 (.iconst 0) 1 40 := ⟨by decide +kernel, rfl⟩
theorem d_X12_gap_40 : DD prog_14_method_66_code 40 (.iload_n 1) 1 41 := ⟨by decide +kernel, rfl⟩
theorem d_X12_gap_41 : DD prog_14_method_66_code 41 (.iload 5) 2 43 := ⟨by decide +kernel, rfl⟩
theorem d_X12_gap_43 : DD prog_14_method_66_code 43 (.invokevirtual 206) 3 46 := ⟨by decide +kernel, rfl⟩
theorem d_X12_gap_46 : DJ prog_14_method_66_code 46 (fun o => .ifCond .eq o) 97 3 49 := ⟨by decide +kernel, rfl⟩
theorem d_X12_gap_49 : DD prog_14_method_66_code 49 (.aload_n 0) 1 50 := ⟨by decide +kernel, rfl⟩
theorem d_X12_gap_50 : DD prog_14_method_66_code 50 (.iload_n 1) 1 51 := ⟨by decide +kernel, rfl⟩
theorem d_X12_gap_51 : DD prog_14_method_66_code 51 (.iload 5) 2 53 := ⟨by decide +kernel, rfl⟩
theorem d_X12_gap_53 : DD prog_14_method_66_code 53 (.iconst 0) 1 54 := ⟨by decide +kernel, rfl⟩
theorem d_X12_gap_54 : DD prog_14_method_66_code 54 (.iconst 0) 1 55 := ⟨by decide +kernel, rfl⟩
theorem d_X12_gap_55 : DD prog_14_method_66_code 55 (.invokevirtual 257) 3 58 := ⟨by decide +kernel, rfl⟩
theorem d_X12_gap_58 : DD prog_14_method_66_code 58 (.iconst 1) 1 59 := ⟨by decide +kernel, rfl⟩
theorem d_X12_gap_59 : DD prog_14_method_66_code 59 (.iadd) 1 60 := ⟨by decide +kernel, rfl⟩
theorem d_X12_gap_60 : DD prog_14_method_66_code 60 (.istore 6) 2 62 := ⟨by decide +kernel, rfl⟩
theorem d_X12_gap_62 : DD prog_14_method_66_code 62 (.iload 6) 2 64 := ⟨by decide +kernel, rfl⟩
theorem d_X12_gap_64 : DD prog_14_method_66_code 64 (.iload_n 3) 1 65 := ⟨by decide +kernel, rfl⟩
theorem d_X12_gap_65 : DJ prog_14_method_66_code 65 (fun o => .if_icmp .ge o) 80 3 68 := ⟨by decide +kernel, rfl⟩
theorem d_X12_gap_68 : DD prog_14_method_66_code 68 (.iload 6) 2 70 := ⟨by decide +kernel, rfl⟩
theorem d_X12_gap_70 : DD prog_14_method_66_code 70 (.bipush 12) 2 72 := ⟨by decide +kernel, rfl⟩
theorem d_X12_gap_72 : DJ prog_14_method_66_code 72 (fun o => .if_icmp .gt o) 80 3 75 := ⟨by decide +kernel, rfl⟩
theorem d_X12_gap_75 : DD prog_14_method_66_code 75 (.iload 5) 2 77 := ⟨by decide +kernel, rfl⟩
theorem d_X12_gap_77 : DJ prog_14_method_66_code 77 (fun o => .goto o) 82 3 80 := ⟨by decide +kernel, rfl⟩
theorem d_X12_gap_80 : DD prog_14_method_66_code 80 (.iload 4) 2 82 := ⟨by decide +kernel, rfl⟩
theorem d_X12_gap_82 : DD prog_14_method_66_code 82 (.istore 4) 2 84 := ⟨by decide +kernel, rfl⟩
theorem d_X12_gap_84 : DD prog_14_method_66_code 84 (.iload 6) 2 86 := ⟨by decide +kernel, rfl⟩
theorem d_X12_gap_86 : DD prog_14_method_66_code 86 (.iload_n 3) 1 87 := ⟨by decide +kernel, rfl⟩
theorem d_X12_gap_87 : DJ prog_14_method_66_code 87 (fun o => .if_icmp .ge o) 95 3 90 := ⟨by decide +kernel, rfl⟩
theorem d_X12_gap_90 : DD prog_14_method_66_code 90 (.iload 6) 2 92 := ⟨by decide +kernel, rfl⟩
theorem d_X12_gap_92 : DJ prog_14_method_66_code 92 (fun o => .goto o) 96 3 95 := ⟨by decide +kernel, rfl⟩
theorem d_X12_gap_95 : DD prog_14_method_66_code 95 (.iload_n 3) 1 96 := ⟨by decide +kernel, rfl⟩
theorem d_X12_gap_96 : DD prog_14_method_66_code 96 (.istore_n 3) 1 97 := ⟨by decide +kernel, rfl⟩
theorem d_X12_gap_97 : DD prog_14_method_66_code 97 (.iinc 5 1) 3 100 := ⟨by decide +kernel, rfl⟩
theorem d_X12_gap_100 : DJ prog_14_method_66_code 100 (fun o => .goto o) 29 3 103 := ⟨by decide +kernel, rfl⟩
theorem d_X12_gap_103 : DD prog_14_method_66_code 103 (.iload 4) 2 105 := ⟨by decide +kernel, rfl⟩
theorem d_X12_gap_105 : DD prog_14_method_66_code 105 (.bipush (-4)) 2 107 := ⟨by decide +kernel, rfl⟩
theorem d_X12_gap_107 : DJ prog_14_method_66_code 107 (fun o => .if_icmp .ne o) 115 3 110 := ⟨by decide +kernel, rfl⟩
theorem d_X12_gap_110 : DD prog_14_method_66_code 110 (.bipush (-4)) 2 112 := ⟨by decide +kernel, rfl⟩
theorem d_X12_gap_112 : DJ prog_14_method_66_code 112 (fun o => .goto o) 125 3 115 := ⟨by decide +kernel, rfl⟩
theorem d_X12_gap_115 : DD prog_14_method_66_code 115 (.iload_n 2) 1 116 := ⟨by decide +kernel, rfl⟩
theorem d_X12_gap_116 : DJ prog_14_method_66_code 116 (fun o => .ifCond .ne o) 123 3 119 := ⟨by decide +kernel, rfl⟩
theorem d_X12_gap_119 : DD prog_14_method_66_code 119 (.iload_n 3) 1 120 := ⟨by decide +kernel, rfl⟩
theorem d_X12_gap_120 : DJ prog_14_method_66_code 120 (fun o => .goto o) 125 3 123 := ⟨by decide +kernel, rfl⟩
theorem d_X12_gap_123 : DD prog_14_method_66_code 123 (.iload 4) 2 125 := ⟨by decide +kernel, rfl⟩
theorem d_X12_gap_125 : DD prog_14_method_66_code 125 (.ireturn) 1 126 := ⟨by decide +kernel, rfl⟩
theorem d_X12_layHeat_0 : DD prog_14_method_67_code 0 (.iconst 0) 1 1 := ⟨by decide +kernel, rfl⟩
theorem d_X12_layHeat_1 : DD prog_14_method_67_code 1 (.istore_n 1) 1 2 := ⟨by decide +kernel, rfl⟩
theorem d_X12_layHeat_2 : DD prog_14_method_67_code 2 (.iload_n 1) 1 3 := ⟨by decide +kernel, rfl⟩
theorem d_X12_layHeat_3 : DD prog_14_method_67_code 3 (.bipush 10) 2 5 := ⟨by decide +kernel, rfl⟩
theorem d_X12_layHeat_5 : DJ prog_14_method_67_code 5 (fun o => .if_icmp .ge o) 24 3 8 := ⟨by decide +kernel, rfl⟩
theorem d_X12_layHeat_8 : DD prog_14_method_67_code 8 (.aload_n 0) 1 9 := ⟨by decide +kernel, rfl⟩
theorem d_X12_layHeat_9 : DD prog_14_method_67_code 9 (.getfield 53) 3 12 := ⟨by decide +kernel, rfl⟩
theorem d_X12_layHeat_12 : DD prog_14_method_67_code 12 (.bipush 120) 2 14 := ⟨by decide +kernel, rfl⟩
theorem d_X12_layHeat_14 : DD prog_14_method_67_code 14 (.iload_n 1) 1 15 := ⟨by decide +kernel, rfl⟩
theorem d_X12_layHeat_15 : DD prog_14_method_67_code 15 (.iadd) 1 16 := ⟨by decide +kernel, rfl⟩
theorem d_X12_layHeat_16 : DD prog_14_method_67_code 16 (.iconst 0) 1 17 := ⟨by decide +kernel, rfl⟩
theorem d_X12_layHeat_17 : DD prog_14_method_67_code 17 (.iastore) 1 18 := ⟨by decide +kernel, rfl⟩
theorem d_X12_layHeat_18 : DD prog_14_method_67_code 18 (.iinc 1 1) 3 21 := ⟨by decide +kernel, rfl⟩
theorem d_X12_layHeat_21 : DJ prog_14_method_67_code 21 (fun o => .goto o) 2 3 24 := ⟨by decide +kernel, rfl⟩
theorem d_X12_layHeat_24 : DD prog_14_method_67_code 24 (.bipush 11) 2 26 := ⟨by decide +kernel, rfl⟩
theorem d_X12_layHeat_26 : DD prog_14_method_67_code 26 (.istore_n 1) 1 27 := ⟨by decide +kernel, rfl⟩
theorem d_X12_layHeat_27 : DD prog_14_method_67_code 27 (.iload_n 1) 1 28 := ⟨by decide +kernel, rfl⟩
theorem d_X12_layHeat_28 : DD prog_14_method_67_code 28 (.aload_n 0) 1 29 := ⟨by decide +kernel, rfl⟩
theorem d_X12_layHeat_29 : DD prog_14_method_67_code 29 (.invokevirtual 185) 3 32 := ⟨by decide +kernel, rfl⟩
theorem d_X12_layHeat_32 : DJ prog_14_method_67_code 32 (fun o => .if_icmp .lt o) 141 3 35 := ⟨by decide +kernel, rfl⟩
theorem d_X12_layHeat_35 : DD prog_14_method_67_code 35 (.iconst 0) 1 36 := ⟨by decide +kernel, rfl⟩
theorem d_X12_layHeat_36 : DD prog_14_method_67_code 36 (.istore_n 2) 1 37 := ⟨by decide +kernel, rfl⟩
theorem d_X12_layHeat_37 : DD prog_14_method_67_code 37 (.iload_n 2) 1 38 := ⟨by decide +kernel, rfl⟩
theorem d_X12_layHeat_38 : DD prog_14_method_67_code 38 (.aload_n 0) 1 39 := ⟨by decide +kernel, rfl⟩
theorem d_X12_layHeat_39 : DD prog_14_method_67_code 39 (.getfield 13) 3 42 := ⟨by decide +kernel, rfl⟩
theorem d_X12_layHeat_42 : DJ prog_14_method_67_code 42 (fun o => .if_icmp .ge o) 135 3 45 := ⟨by decide +kernel, rfl⟩
theorem d_X12_layHeat_45 : DD prog_14_method_67_code 45 (.iconst (-1)) 1 46 := ⟨by decide +kernel, rfl⟩
theorem d_X12_layHeat_46 : DD prog_14_method_67_code 46 (.istore_n 3) 1 47 := ⟨by decide +kernel, rfl⟩
theorem d_X12_layHeat_47 : DD prog_14_method_67_code 47 (.iload_n 2) 1 48 := ⟨by decide +kernel, rfl⟩
theorem d_X12_layHeat_48 : DD prog_14_method_67_code 48 (.iconst 1) 1 49 := ⟨by decide +kernel, rfl⟩
theorem d_X12_layHeat_49 : DD prog_14_method_67_code 49 (.isub) 1 50 := ⟨by decide +kernel, rfl⟩
theorem d_X12_layHeat_50 : DD prog_14_method_67_code 50 (.istore 4) 2 52 := ⟨by decide +kernel, rfl⟩
theorem d_X12_layHeat_52 : DD prog_14_method_67_code 52 (.iload 4) 2 54 := ⟨by decide +kernel, rfl⟩
theorem d_X12_layHeat_54 : DD prog_14_method_67_code 54 (.iload_n 2) 1 55 := ⟨by decide +kernel, rfl⟩
theorem d_X12_layHeat_55 : DD prog_14_method_67_code 55 (.iconst 1) 1 56 := ⟨by decide +kernel, rfl⟩
theorem d_X12_layHeat_56 : DD prog_14_method_67_code 56 (.iadd) 1 57 := ⟨by decide +kernel, rfl⟩
theorem d_X12_layHeat_57 : DJ prog_14_method_67_code 57 (fun o => .if_icmp .gt o) 117 3 60 := ⟨by decide +kernel, rfl⟩
theorem d_X12_layHeat_60 : DD prog_14_method_67_code 60 (.aload_n 0) 1 61 := ⟨by decide +kernel, rfl⟩
theorem d_X12_layHeat_61 : DD prog_14_method_67_code 61 (.iload 4) 2 63 := ⟨by decide +kernel, rfl⟩
theorem d_X12_layHeat_63 : DD prog_14_method_67_code 63 (.invokevirtual 201) 3 66 := ⟨by decide +kernel, rfl⟩
theorem d_X12_layHeat_66 : DJ prog_14_method_67_code 66 (fun o => .ifCond .eq o) 111 3 69 := ⟨by decide +kernel, rfl⟩
theorem d_X12_layHeat_69 : DD prog_14_method_67_code 69 (.aload_n 0) 1 70 := ⟨by decide +kernel, rfl⟩
theorem d_X12_layHeat_70 : DD prog_14_method_67_code 70 (.iload 4) 2 72 := ⟨by decide +kernel, rfl⟩
theorem d_X12_layHeat_72 : DD prog_14_method_67_code 72 (.iload_n 1) 1 73 := ⟨by decide +kernel, rfl⟩
theorem d_X12_layHeat_73 : DD prog_14_method_67_code 73 (.iconst 1) 1 74 := ⟨by decide +kernel, rfl⟩
theorem d_X12_layHeat_74 : DD prog_14_method_67_code 74 (.invokevirtual 267) 3 77 := ⟨by decide +kernel, rfl⟩
theorem d_X12_layHeat_77 : DD prog_14_method_67_code 77 (.aload_n 0) 1 78 := ⟨by decide +kernel, rfl⟩
theorem d_X12_layHeat_78 : DD prog_14_method_67_code 78 (.getfield 53) 3 81 := ⟨by decide +kernel, rfl⟩
theorem d_X12_layHeat_81 : DD prog_14_method_67_code 81 (.bipush 10) 2 83 := ⟨by decide +kernel, rfl⟩
theorem d_X12_layHeat_83 : DD prog_14_method_67_code 83 (.iload_n 1) 1 84 := ⟨by decide +kernel, rfl⟩
theorem d_X12_layHeat_84 : DD prog_14_method_67_code 84 (.iconst 1) 1 85 := ⟨by decide +kernel, rfl⟩
theorem d_X12_layHeat_85 : DD prog_14_method_67_code 85 (.iadd) 1 86 := ⟨by decide +kernel, rfl⟩
theorem d_X12_layHeat_86 : DD prog_14_method_67_code 86 (.imul) 1 87 := ⟨by decide +kernel, rfl⟩
theorem d_X12_layHeat_87 : DD prog_14_method_67_code 87 (.iload 4) 2 89 := ⟨by decide +kernel, rfl⟩
theorem d_X12_layHeat_89 : DD prog_14_method_67_code 89 (.iadd) 1 90 := ⟨by decide +kernel, rfl⟩
theorem d_X12_layHeat_90 : DD prog_14_method_67_code 90 (.iaload) 1 91 := ⟨by decide +kernel, rfl⟩
theorem d_X12_layHeat_91 : DD prog_14_method_67_code 91 (.iadd) 1 92 := ⟨by decide +kernel, rfl⟩
theorem d_X12_layHeat_92 : DD prog_14_method_67_code 92 (.istore 5) 2 94 := ⟨by decide +kernel, rfl⟩
theorem d_X12_layHeat_94 : DD prog_14_method_67_code 94 (.iload_n 3) 1 95 := ⟨by decide +kernel, rfl⟩
theorem d_X12_layHeat_95 : DJ prog_14_method_67_code 95 (fun o => .ifCond .lt o) 104 3 98 := ⟨by decide +kernel, rfl⟩
theorem d_X12_layHeat_98 : DD prog_14_method_67_code 98 (.iload 5) 2 100 := ⟨by decide +kernel, rfl⟩
theorem d_X12_layHeat_100 : DD prog_14_method_67_code 100 (.iload_n 3) 1 101 := ⟨by decide +kernel, rfl⟩
theorem d_X12_layHeat_101 : DJ prog_14_method_67_code 101 (fun o => .if_icmp .ge o) 109 3 104 := ⟨by decide +kernel, rfl⟩
theorem d_X12_layHeat_104 : DD prog_14_method_67_code 104 (.iload 5) 2 106 := ⟨by decide +kernel, rfl⟩
theorem d_X12_layHeat_106 : DJ prog_14_method_67_code 106 (fun o => .goto o) 110 3 109 := ⟨by decide +kernel, rfl⟩
theorem d_X12_layHeat_109 : DD prog_14_method_67_code 109 (.iload_n 3) 1 110 := ⟨by decide +kernel, rfl⟩
theorem d_X12_layHeat_110 : DD prog_14_method_67_code 110 (.istore_n 3) 1 111 := ⟨by decide +kernel, rfl⟩
theorem d_X12_layHeat_111 : DD prog_14_method_67_code 111 (.iinc 4 1) 3 114 := ⟨by decide +kernel, rfl⟩
theorem d_X12_layHeat_114 : DJ prog_14_method_67_code 114 (fun o => .goto o) 52 3 117 := ⟨by decide +kernel, rfl⟩
theorem d_X12_layHeat_117 : DD prog_14_method_67_code 117 (.aload_n 0) 1 118 := ⟨by decide +kernel, rfl⟩
theorem d_X12_layHeat_118 : DD prog_14_method_67_code 118 (.getfield 53) 3 121 := ⟨by decide +kernel, rfl⟩
theorem d_X12_layHeat_121 : DD prog_14_method_67_code 121 (.bipush 10) 2 123 := ⟨by decide +kernel, rfl⟩
theorem d_X12_layHeat_123 : DD prog_14_method_67_code 123 (.iload_n 1) 1 124 := ⟨by decide +kernel, rfl⟩
theorem d_X12_layHeat_124 : DD prog_14_method_67_code 124 (.imul) 1 125 := ⟨by decide +kernel, rfl⟩
theorem d_X12_layHeat_125 : DD prog_14_method_67_code 125 (.iload_n 2) 1 126 := ⟨by decide +kernel, rfl⟩
theorem d_X12_layHeat_126 : DD prog_14_method_67_code 126 (.iadd) 1 127 := ⟨by decide +kernel, rfl⟩
theorem d_X12_layHeat_127 : DD prog_14_method_67_code 127 (.iload_n 3) 1 128 := ⟨by decide +kernel, rfl⟩
theorem d_X12_layHeat_128 : DD prog_14_method_67_code 128 (.iastore) 1 129 := ⟨by decide +kernel, rfl⟩
theorem d_X12_layHeat_129 : DD prog_14_method_67_code 129 (.iinc 2 1) 3 132 := ⟨by decide +kernel, rfl⟩
theorem d_X12_layHeat_132 : DJ prog_14_method_67_code 132 (fun o => .goto o) 37 3 135 := ⟨by decide +kernel, rfl⟩
theorem d_X12_layHeat_135 : DD prog_14_method_67_code 135 (.iinc 1 (-1)) 3 138 := ⟨by decide +kernel, rfl⟩
theorem d_X12_layHeat_138 : DJ prog_14_method_67_code 138 (fun o => .goto o) 27 3 141 := ⟨by decide +kernel, rfl⟩
theorem d_X12_layHeat_141 : DD prog_14_method_67_code 141 (.return_) 1 142 := ⟨by decide +kernel, rfl⟩
theorem d_X12_lead_0 : DD prog_14_method_68_code 0 (.aload_n 0) 1 1 := ⟨by decide +kernel, rfl⟩
theorem d_X12_lead_1 : DD prog_14_method_68_code 1 (.iload_n 1) 1 2 := ⟨by decide +kernel, rfl⟩
theorem d_X12_lead_2 : DD prog_14_method_68_code 2 (.invokevirtual 201) 3 5 := ⟨by decide +kernel, rfl⟩
theorem d_X12_lead_5 : DJ prog_14_method_68_code 5 (fun o => .ifCond .eq o) 52 3 8 := ⟨by decide +kernel, rfl⟩
theorem d_X12_lead_8 : DD prog_14_method_68_code 8 (.iload_n 2) 1 9 := ⟨by decide +kernel, rfl⟩
theorem d_X12_lead_9 : DD prog_14_method_68_code 9 (.i2l) 1 10 := ⟨by decide +kernel, rfl⟩
theorem d_X12_lead_10 : DD prog_14_method_68_code 10 (.lconst 1) 1 11 := ⟨by decide +kernel, rfl⟩
theorem d_X12_lead_11 : DD prog_14_method_68_code 11 (.ldc2_w 223) 3 14 := ⟨by decide +kernel, rfl⟩
theorem d_X12_lead_14 : DD prog_14_method_68_code 14 (.invokestatic 75) 3 17 := ⟨by decide +kernel, rfl⟩
theorem d_X12_lead_17 : DJ prog_14_method_68_code 17 (fun o => .ifCond .eq o) 52 3 20 := ⟨by decide +kernel, rfl⟩
theorem d_X12_lead_20 : DD prog_14_method_68_code 20 (.iload_n 3) 1 21 := ⟨by decide +kernel, rfl⟩
theorem d_X12_lead_21 : DJ prog_14_method_68_code 21 (fun o => .ifCond .eq o) 54 3 24 := ⟨by decide +kernel, rfl⟩
theorem d_X12_lead_24 : DD prog_14_method_68_code 24 (.iload_n 3) 1 25 := ⟨by decide +kernel, rfl⟩
theorem d_X12_lead_25 : DD prog_14_method_68_code 25 (.i2l) 1 26 := ⟨by decide +kernel, rfl⟩
theorem d_X12_lead_26 : DD prog_14_method_68_code 26 (.ldc2_w 225) 3 29 := ⟨by decide +kernel, rfl⟩
theorem d_X12_lead_29 : DD prog_14_method_68_code 29 (.bipush 21) 2 31 := ⟨by decide +kernel, rfl⟩
theorem d_X12_lead_31 : DD prog_14_method_68_code 31 (.aload_n 0) 1 32 := ⟨by decide +kernel, rfl⟩
theorem d_X12_lead_32 : DD prog_14_method_68_code 32 (.invokevirtual 185) 3 35 := ⟨by decide +kernel, rfl⟩
theorem d_X12_lead_35 : DD prog_14_method_68_code 35 (.isub) 1 36 := ⟨by decide +kernel, rfl⟩
theorem d_X12_lead_36 : DD prog_14_method_68_code 36 (.i2l) 1 37 := ⟨by decide +kernel, rfl⟩
theorem d_X12_lead_37 : DD prog_14_method_68_code 37 (.invokestatic 75) 3 40 := ⟨by decide +kernel, rfl⟩
theorem d_X12_lead_40 : DJ prog_14_method_68_code 40 (fun o => .ifCond .ne o) 54 3 43 := ⟨by decide +kernel, rfl⟩
theorem d_X12_lead_43 : DD prog_14_method_68_code 43 (.aload_n 0) 1 44 := ⟨by decide +kernel, rfl⟩
theorem d_X12_lead_44 : DD prog_14_method_68_code 44 (.invokevirtual 185) 3 47 := ⟨by decide +kernel, rfl⟩
theorem d_X12_lead_47 : DD prog_14_method_68_code 47 (.bipush 12) 2 49 := ⟨by decide +kernel, rfl⟩
theorem d_X12_lead_49 : DJ prog_14_method_68_code 49 (fun o => .if_icmp .ge o) 54 3 52 := ⟨by decide +kernel, rfl⟩
theorem d_X12_lead_52 : DD prog_14_method_68_code 52 (.iconst (-1)) 1 53 := ⟨by decide +kernel, rfl⟩
theorem d_X12_lead_53 : DD prog_14_method_68_code 53 (.ireturn) 1 54 := ⟨by decide +kernel, rfl⟩
theorem d_X12_lead_54 : DD prog_14_method_68_code 54 (.aload_n 0) 1 55 := ⟨by decide +kernel, rfl⟩
theorem d_X12_lead_55 : DD prog_14_method_68_code 55 (.invokevirtual 185) 3 58 := ⟨by decide +kernel, rfl⟩
theorem d_X12_lead_58 : DD prog_14_method_68_code 58 (.bipush 12) 2 60 := ⟨by decide +kernel, rfl⟩
theorem d_X12_lead_60 : DJ prog_14_method_68_code 60 (fun o => .if_icmp .ne o) 74 3 63 := ⟨by decide +kernel, rfl⟩
theorem d_X12_lead_63 : DD prog_14_method_68_code 63 (.iload_n 3) 1 64 := ⟨by decide +kernel, rfl⟩
theorem d_X12_lead_64 : DJ prog_14_method_68_code 64 (fun o => .ifCond .ne o) 72 3 67 := ⟨by decide +kernel, rfl⟩
theorem d_X12_lead_67 : DD prog_14_method_68_code 67 (.bipush (-2)) 2 69 := ⟨by decide +kernel, rfl⟩
theorem d_X12_lead_69 : DJ prog_14_method_68_code 69 (fun o => .goto o) 73 3 72 := ⟨by decide +kernel, rfl⟩
theorem d_X12_lead_72 : DD prog_14_method_68_code 72 (.iconst (-1)) 1 73 := ⟨by decide +kernel, rfl⟩
theorem d_X12_lead_73 : DD prog_14_method_68_code 73 (.ireturn) 1 74 := ⟨by decide +kernel, rfl⟩
theorem d_X12_lead_74 : DD prog_14_method_68_code 74 (.aload_n 0) 1 75 := ⟨by decide +kernel, rfl⟩
theorem d_X12_lead_75 : DD prog_14_method_68_code 75 (.invokevirtual 271) 3 78 := ⟨by decide +kernel, rfl⟩
theorem d_X12_lead_78 : DD prog_14_method_68_code 78 (.aload_n 0) 1 79 := ⟨by decide +kernel, rfl⟩
theorem d_X12_lead_79 : DD prog_14_method_68_code 79 (.getfield 53) 3 82 := ⟨by decide +kernel, rfl⟩
theorem d_X12_lead_82 : DD prog_14_method_68_code 82 (.bipush 10) 2 84 := ⟨by decide +kernel, rfl⟩
theorem d_X12_lead_84 : DD prog_14_method_68_code 84 (.aload_n 0) 1 85 := ⟨by decide +kernel, rfl⟩
theorem d_X12_lead_85 : DD prog_14_method_68_code 85 (.invokevirtual 185) 3 88 := ⟨by decide +kernel, rfl⟩
theorem d_X12_lead_88 : DD prog_14_method_68_code 88 (.imul) 1 89 := ⟨by decide +kernel, rfl⟩
theorem d_X12_lead_89 : DD prog_14_method_68_code 89 (.iload_n 1) 1 90 := ⟨by decide +kernel, rfl⟩
theorem d_X12_lead_90 : DD prog_14_method_68_code 90 (.iadd) 1 91 := ⟨by decide +kernel, rfl⟩
theorem d_X12_lead_91 : DD prog_14_method_68_code 91 (.iaload) 1 92 := ⟨by decide +kernel, rfl⟩
theorem d_X12_lead_92 : DD prog_14_method_68_code 92 (.istore 4) 2 94 := ⟨by decide +kernel, rfl⟩
theorem d_X12_lead_94 : DD prog_14_method_68_code 94 (.iload_n 3) 1 95 := ⟨by decide +kernel, rfl⟩
theorem d_X12_lead_95 : DJ prog_14_method_68_code 95 (fun o => .ifCond .ne o) 113 3 98 := ⟨by decide +kernel, rfl⟩
theorem d_X12_lead_98 : DD prog_14_method_68_code 98 (.iload_n 2) 1 99 := ⟨by decide +kernel, rfl⟩
theorem d_X12_lead_99 : DD prog_14_method_68_code 99 (.iload 4) 2 101 := ⟨by decide +kernel, rfl⟩
theorem d_X12_lead_101 : DJ prog_14_method_68_code 101 (fun o => .if_icmp .le o) 111 3 104 := ⟨by decide +kernel, rfl⟩
theorem d_X12_lead_104 : DD prog_14_method_68_code 104 (.iload_n 2) 1 105 := ⟨by decide +kernel, rfl⟩
theorem d_X12_lead_105 : DD prog_14_method_68_code 105 (.iload 4) 2 107 := ⟨by decide +kernel, rfl⟩
theorem d_X12_lead_107 : DD prog_14_method_68_code 107 (.isub) 1 108 := ⟨by decide +kernel, rfl⟩
theorem d_X12_lead_108 : DJ prog_14_method_68_code 108 (fun o => .goto o) 112 3 111 := ⟨by decide +kernel, rfl⟩
theorem d_X12_lead_111 : DD prog_14_method_68_code 111 (.iconst 0) 1 112 := ⟨by decide +kernel, rfl⟩
theorem d_X12_lead_112 : DD prog_14_method_68_code 112 (.ireturn) 1 113 := ⟨by decide +kernel, rfl⟩
theorem d_X12_lead_113 : DD prog_14_method_68_code 113 (.iload_n 2) 1 114 := ⟨by decide +kernel, rfl⟩
theorem d_X12_lead_114 : DD prog_14_method_68_code 114 (.iload 4) 2 116 := ⟨by decide +kernel, rfl⟩
theorem d_X12_lead_116 : DJ prog_14_method_68_code 116 (fun o => .if_icmp .gt o) 123 3 119 := ⟨by decide +kernel, rfl⟩
theorem d_X12_lead_119 : DD prog_14_method_68_code 119 (.iconst 1) 1 120 := ⟨by decide +kernel, rfl⟩
theorem d_X12_lead_120 : DJ prog_14_method_68_code 120 (fun o => .goto o) 124 3 123 := ⟨by decide +kernel, rfl⟩
theorem d_X12_lead_123 : DD prog_14_method_68_code 123 (.iconst 0) 1 124 := ⟨by decide +kernel, rfl⟩
theorem d_X12_lead_124 : DD prog_14_method_68_code 124 (.istore 5) 2 126 := ⟨by decide +kernel, rfl⟩
theorem d_X12_lead_126 : DD prog_14_method_68_code 126 (.iload_n 1) 1 127 := ⟨by decide +kernel, rfl⟩
theorem d_X12_lead_127 : DD prog_14_method_68_code 127 (.istore 6) 2 129 := ⟨by decide +kernel, rfl⟩
theorem d_X12_lead_129 : DD prog_14_method_68_code 129 (.aload_n 0) 1 130 := ⟨by decide +kernel, rfl⟩
theorem d_X12_lead_130 : DD prog_14_method_68_code 130 (.invokevirtual 185) 3 133 := ⟨by decide +kernel, rfl⟩
theorem d_X12_lead_133 : DD prog_14_method_68_code 133 (.istore 7) 2 135 := ⟨by decide +kernel, rfl⟩
theorem d_X12_lead_135 : DD prog_14_method_68_code 135 (.iload 7) 2 137 := ⟨by decide +kernel, rfl⟩
theorem d_X12_lead_137 : DD prog_14_method_68_code 137 (.aload_n 0) 1 138 := ⟨by decide +kernel, rfl⟩
theorem d_X12_lead_138 : DD prog_14_method_68_code 138 (.invokevirtual 185) 3 141 := ⟨by decide +kernel, rfl⟩
theorem d_X12_lead_141 : DD prog_14_method_68_code 141 (.iload_n 3) 1 142 := ⟨by decide +kernel, rfl⟩
theorem d_X12_lead_142 : DD prog_14_method_68_code 142 (.iadd) 1 143 := ⟨by decide +kernel, rfl⟩
theorem d_X12_lead_143 : DD prog_14_method_68_code 143 (.bipush 10) 2 145 := ⟨by decide +kernel, rfl⟩
theorem d_X12_lead_145 : DD prog_14_method_68_code 145 (.isub) 1 146 := ⟨by decide +kernel, rfl⟩
theorem d_X12_lead_146 : DJ prog_14_method_68_code 146 (fun o => .if_icmp .gt o) 230 3 149 := ⟨by decide +kernel, rfl⟩
theorem d_X12_lead_149 : DD prog_14_method_68_code 149 (.iload 6) 2 151 := ⟨by decide +kernel, rfl⟩
theorem d_X12_lead_151 : DJ prog_14_method_68_code 151 (fun o => .ifCond .le o) 161 3 154 := ⟨by decide +kernel, rfl⟩
theorem d_X12_lead_154 : DD prog_14_method_68_code 154 (.iload 6) 2 156 := ⟨by decide +kernel, rfl⟩
theorem d_X12_lead_156 : DD prog_14_method_68_code 156 (.iconst 1) 1 157 := ⟨by decide +kernel, rfl⟩
theorem d_X12_lead_157 : DD prog_14_method_68_code 157 (.isub) 1 158 := ⟨by decide +kernel, rfl⟩
theorem d_X12_lead_158 : DJ prog_14_method_68_code 158 (fun o => .goto o) 163 3 161 := ⟨by decide +kernel, rfl⟩
theorem d_X12_lead_161 : DD prog_14_method_68_code 161 (.iload 6) 2 163 := ⟨by decide +kernel, rfl⟩
theorem d_X12_lead_163 : DD prog_14_method_68_code 163 (.istore 8) 2 165 := ⟨by decide +kernel, rfl⟩
theorem d_X12_lead_165 : DD prog_14_method_68_code 165 (.iload 5) 2 167 := ⟨by decide +kernel, rfl⟩
theorem d_X12_lead_167 : DJ prog_14_method_68_code 167 (fun o => .ifCond .ne o) 206 3 170 := ⟨by decide +kernel, rfl⟩
theorem d_X12_lead_170 : DD prog_14_method_68_code 170 (.aload_n 0) 1 171 := ⟨by decide +kernel, rfl⟩
theorem d_X12_lead_171 : DD prog_14_method_68_code 171 (.iload 8) 2 173 := ⟨by decide +kernel, rfl⟩
theorem d_X12_lead_173 : DD prog_14_method_68_code 173 (.iload 7) 2 175 := ⟨by decide +kernel, rfl⟩
theorem d_X12_lead_175 : DD prog_14_method_68_code 175 (.iconst 1) 1 176 := ⟨by decide +kernel, rfl⟩
theorem d_X12_lead_176 : DD prog_14_method_68_code 176 (.invokevirtual 267) 3 179 := ⟨by decide +kernel, rfl⟩
theorem d_X12_lead_179 : DD prog_14_method_68_code 179 (.aload_n 0) 1 180 := ⟨by decide +kernel, rfl⟩
theorem d_X12_lead_180 : DD prog_14_method_68_code 180 (.getfield 53) 3 183 := ⟨by decide +kernel, rfl⟩
theorem d_X12_lead_183 : DD prog_14_method_68_code 183 (.bipush 10) 2 185 := ⟨by decide +kernel, rfl⟩
theorem d_X12_lead_185 : DD prog_14_method_68_code 185 (.iload 7) 2 187 := ⟨by decide +kernel, rfl⟩
theorem d_X12_lead_187 : DD prog_14_method_68_code 187 (.iconst 1) 1 188 := ⟨by decide +kernel, rfl⟩
theorem d_X12_lead_188 : DD prog_14_method_68_code 188 (.iadd) 1 189 := ⟨by decide +kernel, rfl⟩
theorem d_X12_lead_189 : DD prog_14_method_68_code 189 (.imul) 1 190 := ⟨by decide +kernel, rfl⟩
theorem d_X12_lead_190 : DD prog_14_method_68_code 190 (.iload 8) 2 192 := ⟨by decide +kernel, rfl⟩
theorem d_X12_lead_192 : DD prog_14_method_68_code 192 (.iadd) 1 193 := ⟨by decide +kernel, rfl⟩
theorem d_X12_lead_193 : DD prog_14_method_68_code 193 (.iaload) 1 194 := ⟨by decide +kernel, rfl⟩
theorem d_X12_lead_194 : DD prog_14_method_68_code 194 (.iadd) 1 195 := ⟨by decide +kernel, rfl⟩
theorem d_X12_lead_195 : DD prog_14_method_68_code 195 (.iload 4) 2 197 := ⟨by decide +kernel, rfl⟩
theorem d_X12_lead_197 : DJ prog_14_method_68_code 197 (fun o => .if_icmp .eq o) 206 3 200 := ⟨by decide +kernel, rfl⟩
theorem d_X12_lead_200 : DD prog_14_method_68_code 200 (.iinc 8 1) 3 203 := ⟨by decide +kernel, rfl⟩
theorem d_X12_lead_203 : DJ prog_14_method_68_code 203 (fun o => .goto o) 165 3 206 := ⟨by decide +kernel, rfl⟩
theorem d_X12_lead_206 : DD prog_14_method_68_code 206 (.iload 4) 2 208 := ⟨by decide +kernel, rfl⟩
theorem d_X12_lead_208 : DD prog_14_method_68_code 208 (.aload_n 0) 1 209 := ⟨by decide +kernel, rfl⟩
theorem d_X12_lead_209 : DD prog_14_method_68_code 209 (.iload 8) 2 211 := ⟨by decide +kernel, rfl⟩
theorem d_X12_lead_211 : DD prog_14_method_68_code 211 (.iload 7) 2 213 := ⟨by decide +kernel, rfl⟩
theorem d_X12_lead_213 : DD prog_14_method_68_code 213 (.iconst 1) 1 214 := ⟨by decide +kernel, rfl⟩
theorem d_X12_lead_214 : DD prog_14_method_68_code 214 (.invokevirtual 267) 3 217 := ⟨by decide +kernel, rfl⟩
theorem d_X12_lead_217 : DD prog_14_method_68_code 217 (.isub) 1 218 := ⟨by decide +kernel, rfl⟩
theorem d_X12_lead_218 : DD prog_14_method_68_code 218 (.istore 4) 2 220 := ⟨by decide +kernel, rfl⟩
theorem d_X12_lead_220 : DD prog_14_method_68_code 220 (.iload 8) 2 222 := ⟨by decide +kernel, rfl⟩
theorem d_X12_lead_222 : DD prog_14_method_68_code 222 (.istore 6) 2 224 := ⟨by decide +kernel, rfl⟩
theorem d_X12_lead_224 : DD prog_14_method_68_code 224 (.iinc 7 1) 3 227 := ⟨by decide +kernel, rfl⟩
theorem d_X12_lead_227 : DJ prog_14_method_68_code 227 (fun o => .goto o) 135 3 230 := ⟨by decide +kernel, rfl⟩
theorem d_X12_lead_230 : DD prog_14_method_68_code 230 (.iload 6) 2 232 := ⟨by decide +kernel, rfl⟩
theorem d_X12_lead_232 : DD prog_14_method_68_code 232 (.ireturn) 1 233 := ⟨by decide +kernel, rfl⟩
theorem d_X12_felt_0 : DD prog_14_method_69_code 0 (.iload_n 1) 1 1 := ⟨by decide +kernel, rfl⟩
theorem d_X12_felt_1 : DD prog_14_method_69_code 1 (.i2l) 1 2 := ⟨by decide +kernel, rfl⟩
theorem d_X12_felt_2 : DD prog_14_method_69_code 2 (.lconst 0) 1 3 := ⟨by decide +kernel, rfl⟩
theorem d_X12_felt_3 : DD prog_14_method_69_code 3 (.ldc2_w 223) 3 6 := ⟨by decide +kernel, rfl⟩
theorem d_X12_felt_6 : DD prog_14_method_69_code 6 (.invokestatic 75) 3 9 := ⟨by decide +kernel, rfl⟩
theorem d_X12_felt_9 : DJ prog_14_method_69_code 9 (fun o => .ifCond .ne o) 14 3 12 := ⟨by decide +kernel, rfl⟩
theorem d_X12_felt_12 : DD prog_14_method_69_code 12 (.iconst (-1)) 1 13 := ⟨by decide +kernel, rfl⟩
theorem d_X12_felt_13 : DD prog_14_method_69_code 13 (.ireturn) 1 14 := ⟨by decide +kernel, rfl⟩
theorem d_X12_felt_14 : DD prog_14_method_69_code 14 (.aload_n 0) 1 15 := ⟨by decide +kernel, rfl⟩
theorem d_X12_felt_15 : DD prog_14_method_69_code 15 (.getfield 173) 3 18 := ⟨by decide +kernel, rfl⟩
theorem d_X12_felt_18 : DD prog_14_method_69_code 18 (.aload_n 0) 1 19 := ⟨by decide +kernel, rfl⟩
theorem d_X12_felt_19 : DD prog_14_method_69_code 19 (.getfield 13) 3 22 := ⟨by decide +kernel, rfl⟩
theorem d_X12_felt_22 : DJ prog_14_method_69_code 22 (fun o => .if_icmp .ne o) 28 3 25 := ⟨by decide +kernel, rfl⟩
theorem d_X12_felt_25 : DD prog_14_method_69_code 25 (.bipush (-3)) 2 27 := ⟨by decide +kernel, rfl⟩
theorem d_X12_felt_27 : DD prog_14_method_69_code 27 (.ireturn) 1 28 := ⟨by decide +kernel, rfl⟩
theorem d_X12_felt_28 : DD prog_14_method_69_code 28 (.aload_n 0) 1 29 := ⟨by decide +kernel, rfl⟩
theorem d_X12_felt_29 : DD prog_14_method_69_code 29 (.getfield 56) 3 32 := ⟨by decide +kernel, rfl⟩
theorem d_X12_felt_32 : DD prog_14_method_69_code 32 (.aload_n 0) 1 33 := ⟨by decide +kernel, rfl⟩
theorem d_X12_felt_33 : DD prog_14_method_69_code 33 (.getfield 173) 3 36 := ⟨by decide +kernel, rfl⟩
theorem d_X12_felt_36 : DD prog_14_method_69_code 36 (.iload_n 1) 1 37 := ⟨by decide +kernel, rfl⟩
theorem d_X12_felt_37 : DD prog_14_method_69_code 37 (.iastore) 1 38 := ⟨by decide +kernel, rfl⟩
theorem d_X12_felt_38 : DD prog_14_method_69_code 38 (.aload_n 0) 1 39 := ⟨by decide +kernel, rfl⟩
theorem d_X12_felt_39 : DD prog_14_method_69_code 39 (.dup) 1 40 := ⟨by decide +kernel, rfl⟩
theorem d_X12_felt_40 : DD prog_14_method_69_code 40 (.getfield 173) 3 43 := ⟨by decide +kernel, rfl⟩
theorem d_X12_felt_43 : DD prog_14_method_69_code 43 (.iconst 1) 1 44 := ⟨by decide +kernel, rfl⟩
theorem d_X12_felt_44 : DD prog_14_method_69_code 44 (.iadd) 1 45 := ⟨by decide +kernel, rfl⟩
theorem d_X12_felt_45 : DD prog_14_method_69_code 45 (.putfield 173) 3 48 := ⟨by decide +kernel, rfl⟩
theorem d_X12_felt_48 : DD prog_14_method_69_code 48 (.aload_n 0) 1 49 := ⟨by decide +kernel, rfl⟩
theorem d_X12_felt_49 : DD prog_14_method_69_code 49 (.getfield 173) 3 52 := ⟨by decide +kernel, rfl⟩
theorem d_X12_felt_52 : DD prog_14_method_69_code 52 (.ireturn) 1 53 := ⟨by decide +kernel, rfl⟩
theorem d_X12_forget_0 : DD prog_14_method_70_code 0 (.aload_n 0) 1 1 := ⟨by decide +kernel, rfl⟩
theorem d_X12_forget_1 : DD prog_14_method_70_code 1 (.getfield 173) 3 4 := ⟨by decide +kernel, rfl⟩
theorem d_X12_forget_4 : DD prog_14_method_70_code 4 (.istore_n 1) 1 5 := ⟨by decide +kernel, rfl⟩
theorem d_X12_forget_5 : DD prog_14_method_70_code 5 (.aload_n 0) 1 6 := ⟨by decide +kernel, rfl⟩
theorem d_X12_forget_6 : DD prog_14_method_70_code 6 (.iconst 0) 1 7 := ⟨by decide +kernel, rfl⟩
theorem d_X12_forget_7 : DD prog_14_method_70_code 7 (.putfield 173) 3 10 := ⟨by decide +kernel, rfl⟩
theorem d_X12_forget_10 : DD prog_14_method_70_code 10 (.iload_n 1) 1 11 := ⟨by decide +kernel, rfl⟩
theorem d_X12_forget_11 : DD prog_14_method_70_code 11 (.ireturn) 1 12 := ⟨by decide +kernel, rfl⟩
theorem d_X12_areFelt_0 : DD prog_14_method_71_code 0 (.iconst 1) 1 1 := ⟨by decide +kernel, rfl⟩
theorem d_X12_areFelt_1 : DD prog_14_method_71_code 1 (.istore 5) 2 3 := ⟨by decide +kernel, rfl⟩
theorem d_X12_areFelt_3 : DD prog_14_method_71_code 3 (.iconst 0) 1 4 := ⟨by decide +kernel, rfl⟩
theorem d_X12_areFelt_4 : DD prog_14_method_71_code 4 (.istore 6) 2 6 := ⟨by decide +kernel, rfl⟩
theorem d_X12_areFelt_6 : DD prog_14_method_71_code 6 (.iload 6) 2 8 := ⟨by decide +kernel, rfl⟩
theorem d_X12_areFelt_8 : DD prog_14_method_71_code 8 (.aload_n 0) 1 9 := ⟨by decide +kernel, rfl⟩
theorem d_X12_areFelt_9 : DD prog_14_method_71_code 9 (.getfield 173) 3 12 := ⟨by decide +kernel, rfl⟩
theorem d_X12_areFelt_12 : DJ prog_14_method_71_code 12 (fun o => .if_icmp .ge o) 59 3 15 := ⟨by decide +kernel, rfl⟩
theorem d_X12_areFelt_15 : DD prog_14_method_71_code 15 (.iload 5) 2 17 := ⟨by decide +kernel, rfl⟩
theorem d_X12_areFelt_17 : DJ prog_14_method_71_code 17 (fun o => .ifCond .eq o) 59 3 20 := ⟨by decide +kernel, rfl⟩
theorem d_X12_areFelt_20 : DD prog_14_method_71_code 20 (.aload_n 0) 1 21 := ⟨by decide +kernel, rfl⟩
theorem d_X12_areFelt_21 : DD prog_14_method_71_code 21 (.getfield 56) 3 24 := ⟨by decide +kernel, rfl⟩
theorem d_X12_areFelt_24 : DD prog_14_method_71_code 24 (.iload 6) 2 26 := ⟨by decide +kernel, rfl⟩
theorem d_X12_areFelt_26 : DD prog_14_method_71_code 26 (.iaload) 1 27 := ⟨by decide +kernel, rfl⟩
theorem d_X12_areFelt_27 : DD prog_14_method_71_code 27 (.iload_n 2) 1 28 := ⟨by decide +kernel, rfl⟩
theorem d_X12_areFelt_28 : DD prog_14_method_71_code 28 (.iload_n 1) 1 29 := ⟨by decide +kernel, rfl⟩
theorem d_X12_areFelt_29 : DD prog_14_method_71_code 29 (.iload 6) 2 31 := ⟨by decide +kernel, rfl⟩
theorem d_X12_areFelt_31 : DD prog_14_method_71_code 31 (.invokestatic 229) 3 34 := ⟨by decide +kernel, rfl⟩
theorem d_X12_areFelt_34 : DD prog_14_method_71_code 34 (.iload 4) 2 36 := ⟨by decide +kernel, rfl⟩
theorem d_X12_areFelt_36 : DD prog_14_method_71_code 36 (.iload_n 3) 1 37 := ⟨by decide +kernel, rfl⟩
theorem d_X12_areFelt_37 : DD prog_14_method_71_code 37 (.iload 6) 2 39 := ⟨by decide +kernel, rfl⟩
theorem d_X12_areFelt_39 : DD prog_14_method_71_code 39 (.invokestatic 229) 3 42 := ⟨by decide +kernel, rfl⟩
theorem d_X12_areFelt_42 : DD prog_14_method_71_code 42 (.iadd) 1 43 := ⟨by decide +kernel, rfl⟩
theorem d_X12_areFelt_43 : DJ prog_14_method_71_code 43 (fun o => .if_icmp .ne o) 50 3 46 := ⟨by decide +kernel, rfl⟩
theorem d_X12_areFelt_46 : DD prog_14_method_71_code 46 (.iconst 1) 1 47 := ⟨by decide +kernel, rfl⟩
theorem d_X12_areFelt_47 : DJ prog_14_method_71_code 47 (fun o => .goto o) 51 3 50 := ⟨by decide +kernel, rfl⟩
theorem d_X12_areFelt_50 : DD prog_14_method_71_code 50 (.iconst 0) 1 51 := ⟨by decide +kernel, rfl⟩
theorem d_X12_areFelt_51 : DD prog_14_method_71_code 51 (.istore 5) 2 53 := ⟨by decide +kernel, rfl⟩
theorem d_X12_areFelt_53 : DD prog_14_method_71_code 53 (.iinc 6 1) 3 56 := ⟨by decide +kernel, rfl⟩
theorem d_X12_areFelt_56 : DJ prog_14_method_71_code 56 (fun o => .goto o) 6 3 59 := ⟨by decide +kernel, rfl⟩
theorem d_X12_areFelt_59 : DD prog_14_method_71_code 59 (.iload 5) 2 61 := ⟨by decide +kernel, rfl⟩
theorem d_X12_areFelt_61 : DD prog_14_method_71_code 61 (.ireturn) 1 62 := ⟨by decide +kernel, rfl⟩
theorem d_X12_spy_0 : DD prog_14_method_72_code 0 (.iload_n 1) 1 1 := ⟨by decide +kernel, rfl⟩
theorem d_X12_spy_1 : DD prog_14_method_72_code 1 (.i2l) 1 2 := ⟨by decide +kernel, rfl⟩
theorem d_X12_spy_2 : DD prog_14_method_72_code 2 (.lconst 0) 1 3 := ⟨by decide +kernel, rfl⟩
theorem d_X12_spy_3 : DD prog_14_method_72_code 3 (.ldc2_w 188) 3 6 := ⟨by decide +kernel, rfl⟩
theorem d_X12_spy_6 : DD prog_14_method_72_code 6 (.invokestatic 75) 3 9 := ⟨by decide +kernel, rfl⟩
theorem d_X12_spy_9 : DJ prog_14_method_72_code 9 (fun o => .ifCond .ne o) 14 3 12 := ⟨by decide +kernel, rfl⟩
theorem d_X12_spy_12 : DD prog_14_method_72_code 12 (.iconst (-1)) 1 13 := ⟨by decide +kernel, rfl⟩
theorem d_X12_spy_13 : DD prog_14_method_72_code 13 (.ireturn) 1 14 := ⟨by decide +kernel, rfl⟩
theorem d_X12_spy_14 : DD prog_14_method_72_code 14 (.aload_n 0) 1 15 := ⟨by decide +kernel, rfl⟩
theorem d_X12_spy_15 : DD prog_14_method_72_code 15 (.getfield 173) 3 18 := ⟨by decide +kernel, rfl⟩
theorem d_X12_spy_18 : DJ prog_14_method_72_code 18 (fun o => .ifCond .ne o) 24 3 21 := ⟨by decide +kernel, rfl⟩
theorem d_X12_spy_21 : DD prog_14_method_72_code 21 (.bipush (-2)) 2 23 := ⟨by decide +kernel, rfl⟩
theorem d_X12_spy_23 : DD prog_14_method_72_code 23 (.ireturn) 1 24 := ⟨by decide +kernel, rfl⟩
theorem d_X12_spy_24 : DD prog_14_method_72_code 24 (.iconst 0) 1 25 := ⟨by decide +kernel, rfl⟩
theorem d_X12_spy_25 : DD prog_14_method_72_code 25 (.istore_n 2) 1 26 := ⟨by decide +kernel, rfl⟩
theorem d_X12_spy_26 : DD prog_14_method_72_code 26 (.bipush (-4)) 2 28 := ⟨by decide +kernel, rfl⟩
theorem d_X12_spy_28 : DD prog_14_method_72_code 28 (.istore_n 3) 1 29 := ⟨by decide +kernel, rfl⟩
theorem d_X12_spy_29 : DD prog_14_method_72_code 29 (.bipush (-4)) 2 31 := ⟨by decide +kernel, rfl⟩
theorem d_X12_spy_31 : DD prog_14_method_72_code 31 (.istore 4) 2 33 := ⟨by decide +kernel, rfl⟩
theorem d_X12_spy_33 : DD prog_14_method_72_code 33 (.iconst 0) 1 34 := ⟨by decide +kernel, rfl⟩
theorem d_X12_spy_34 : DD prog_14_method_72_code 34 (.istore 5) 2 36 := ⟨by decide +kernel, rfl⟩
theorem d_X12_spy_36 : DD prog_14_method_72_code 36 (.iload 5) 2 38 := ⟨by decide +kernel, rfl⟩
theorem d_X12_spy_38 : DD prog_14_method_72_code 38 (.aload_n 0) 1 39 := ⟨by decide +kernel, rfl⟩
theorem d_X12_spy_39 : DD prog_14_method_72_code 39 (.getfield 13) 3 42 := ⟨by decide +kernel, rfl⟩
theorem d_X12_spy_42 : DJ prog_14_method_72_code 42 (fun o => .if_icmp .ge o) 107 3 45 := ⟨by decide +kernel, rfl⟩
theorem d_X12_spy_45 : DD prog_14_method_72_code 45 (.iconst 1) 1 46 := ⟨by decide +kernel, rfl⟩
theorem d_X12_spy_46 : DD prog_14_method_72_code 46 (.istore 6) 2 48 := ⟨by decide +kernel, rfl⟩
theorem d_X12_spy_48 : DD prog_14_method_72_code 48 (.iload 6) 2 50 := ⟨by decide +kernel, rfl⟩
theorem d_X12_spy_50 : DD prog_14_method_72_code 50 (.bipush 20) 2 52 := ⟨by decide +kernel, rfl⟩
theorem d_X12_spy_52 : DJ prog_14_method_72_code 52 (fun o => .if_icmp .gt o) 101 3 55 := ⟨by decide +kernel, rfl⟩
theorem d_X12_spy_55 : DD prog_14_method_72_code 55 (.aload_n 0) 1 56 := ⟨by decide +kernel, rfl⟩
theorem d_X12_spy_56 : DD prog_14_method_72_code 56 (.iload 5) 2 58 := ⟨by decide +kernel, rfl⟩
theorem d_X12_spy_58 : DD prog_14_method_72_code 58 (.iload 6) 2 60 := ⟨by decide +kernel, rfl⟩
theorem d_X12_spy_60 : DD prog_14_method_72_code 60 (.iconst 0) 1 61 := ⟨by decide +kernel, rfl⟩
theorem d_X12_spy_61 : DD prog_14_method_72_code 61 (.iconst 0) 1 62 := ⟨by decide +kernel, rfl⟩
theorem d_X12_spy_62 : DD prog_14_method_72_code 62 (.invokevirtual 274) 3 65 := ⟨by decide +kernel, rfl⟩
theorem d_X12_spy_65 : DJ prog_14_method_72_code 65 (fun o => .ifCond .eq o) 95 3 68 := ⟨by decide +kernel, rfl⟩
theorem d_X12_spy_68 : DD prog_14_method_72_code 68 (.iload_n 2) 1 69 := ⟨by decide +kernel, rfl⟩
theorem d_X12_spy_69 : DJ prog_14_method_72_code 69 (fun o => .ifCond .ne o) 77 3 72 := ⟨by decide +kernel, rfl⟩
theorem d_X12_spy_72 : DD prog_14_method_72_code 72 (.iload 5) 2 74 := ⟨by decide +kernel, rfl⟩
theorem d_X12_spy_74 : DJ prog_14_method_72_code 74 (fun o => .goto o) 78 3 77 := ⟨by decide +kernel, rfl⟩
theorem d_X12_spy_77 : DD prog_14_method_72_code 77 (.iload_n 3) 1 78 := ⟨by decide +kernel, rfl⟩
theorem d_X12_spy_78 : DD prog_14_method_72_code 78 (.istore_n 3) 1 79 := ⟨by decide +kernel, rfl⟩
theorem d_X12_spy_79 : DD prog_14_method_72_code 79 (.iload_n 2) 1 80 := ⟨by decide +kernel, rfl⟩
theorem d_X12_spy_80 : DJ prog_14_method_72_code 80 (fun o => .ifCond .ne o) 88 3 83 := ⟨by decide +kernel, rfl⟩
theorem d_X12_spy_83 : DD prog_14_method_72_code 83 (.iload 6) 2 85 := ⟨by decide +kernel, rfl⟩
theorem d_X12_spy_85 : DJ prog_14_method_72_code 85 (fun o => .goto o) 90 3 88 := ⟨by decide +kernel, rfl⟩
theorem d_X12_spy_88 : DD prog_14_method_72_code 88 (.iload 4) 2 90 := ⟨by decide +kernel, rfl⟩
theorem d_X12_spy_90 : DD prog_14_method_72_code 90 (.istore 4) 2 92 := ⟨by decide +kernel, rfl⟩
theorem d_X12_spy_92 : DD prog_14_method_72_code 92 (.iinc 2 1) 3 95 := ⟨by decide +kernel, rfl⟩
theorem d_X12_spy_95 : DD prog_14_method_72_code 95 (.iinc 6 1) 3 98 := ⟨by decide +kernel, rfl⟩
theorem d_X12_spy_98 : DJ prog_14_method_72_code 98 (fun o => .goto o) 48 3 101 := ⟨by decide +kernel, rfl⟩
theorem d_X12_spy_101 : DD prog_14_method_72_code 101 (.iinc 5 1) 3 104 := ⟨by decide +kernel, rfl⟩
theorem d_X12_spy_104 : DJ prog_14_method_72_code 104 (fun o => .goto o) 36 3 107 := ⟨by decide +kernel, rfl⟩
theorem d_X12_spy_107 : DD prog_14_method_72_code 107 (.iload_n 1) 1 108 := ⟨by decide +kernel, rfl⟩
theorem d_X12_spy_108 : DJ prog_14_method_72_code 108 (fun o => .ifCond .ne o) 115 3 111 := ⟨by decide +kernel, rfl⟩
theorem d_X12_spy_111 : DD prog_14_method_72_code 111 (.iload_n 2) 1 112 := ⟨by decide +kernel, rfl⟩
theorem d_X12_spy_112 : DJ prog_14_method_72_code 112 (fun o => .goto o) 126 3 115 := ⟨by decide +kernel, rfl⟩
theorem d_X12_spy_115 : DD prog_14_method_72_code 115 (.iload_n 1) 1 116 := ⟨by decide +kernel, rfl⟩
theorem d_X12_spy_116 : DD prog_14_method_72_code 116 (.iconst 1) 1 117 := ⟨by decide +kernel, rfl⟩
theorem d_X12_spy_117 : DJ prog_14_method_72_code 117 (fun o => .if_icmp .ne o) 124 3 120 := ⟨by decide +kernel, rfl⟩
theorem d_X12_spy_120 : DD prog_14_method_72_code 120 (.iload_n 3) 1 121 := ⟨by decide +kernel, rfl⟩
theorem d_X12_spy_121 : DJ prog_14_method_72_code 121 (fun o => .goto o) 126 3 124 := ⟨by decide +kernel, rfl⟩
theorem d_X12_spy_124 : DD prog_14_method_72_code 124 (.iload 4) 2 126 := ⟨by decide +kernel, rfl⟩
theorem d_X12_spy_126 : DD prog_14_method_72_code 126 (.ireturn) 1 127 := ⟨by decide +kernel, rfl⟩
theorem d_X12_spies_0 : DD prog_14_method_73_code 0 (.iload_n 1) 1 1 := ⟨by decide +kernel, rfl⟩
theorem d_X12_spies_1 : DD prog_14_method_73_code 1 (.i2l) 1 2 := ⟨by decide +kernel, rfl⟩
theorem d_X12_spies_2 : DD prog_14_method_73_code 2 (.lconst 0) 1 3 := ⟨by decide +kernel, rfl⟩
theorem d_X12_spies_3 : DD prog_14_method_73_code 3 (.ldc2_w 188) 3 6 := ⟨by decide +kernel, rfl⟩
theorem d_X12_spies_6 : DD prog_14_method_73_code 6 (.invokestatic 75) 3 9 := ⟨by decide +kernel, rfl⟩
theorem d_X12_spies_9 : DJ prog_14_method_73_code 9 (fun o => .ifCond .ne o) 14 3 12 := ⟨by decide +kernel, rfl⟩
theorem d_X12_spies_12 : DD prog_14_method_73_code 12 (.iconst (-1)) 1 13 := ⟨by decide +kernel, rfl⟩
theorem d_X12_spies_13 : DD prog_14_method_73_code 13 (.ireturn) 1 14 := ⟨by decide +kernel, rfl⟩
theorem d_X12_spies_14 : DD prog_14_method_73_code 14 (.aload_n 0) 1 15 := ⟨by decide +kernel, rfl⟩
theorem d_X12_spies_15 : DD prog_14_method_73_code 15 (.getfield 173) 3 18 := ⟨by decide +kernel, rfl⟩
theorem d_X12_spies_18 : DJ prog_14_method_73_code 18 (fun o => .ifCond .ne o) 24 3 21 := ⟨by decide +kernel, rfl⟩
theorem d_X12_spies_21 : DD prog_14_method_73_code 21 (.bipush (-2)) 2 23 := ⟨by decide +kernel, rfl⟩
theorem d_X12_spies_23 : DD prog_14_method_73_code 23 (.ireturn) 1 24 := ⟨by decide +kernel, rfl⟩
theorem d_X12_spies_24 : DD prog_14_method_73_code 24 (.iconst 0) 1 25 := ⟨by decide +kernel, rfl⟩
theorem d_X12_spies_25 : DD prog_14_method_73_code 25 (.istore_n 2) 1 26 := ⟨by decide +kernel, rfl⟩
theorem d_X12_spies_26 : DD prog_14_method_73_code 26 (.bipush (-4)) 2 28 := ⟨by decide +kernel, rfl⟩
theorem d_X12_spies_28 : DD prog_14_method_73_code 28 (.istore_n 3) 1 29 := ⟨by decide +kernel, rfl⟩
theorem d_X12_spies_29 : DD prog_14_method_73_code 29 (.bipush (-4)) 2 31 := ⟨by decide +kernel, rfl⟩
theorem d_X12_spies_31 : DD prog_14_method_73_code 31 (.istore 4) 2 33 := ⟨by decide +kernel, rfl⟩
theorem d_X12_spies_33 : DD prog_14_method_73_code 33 (.iconst 0) 1 34 := ⟨by decide +kernel, rfl⟩
theorem d_X12_spies_34 : DD prog_14_method_73_code 34 (.istore 5) 2 36 := ⟨by decide +kernel, rfl⟩
theorem d_X12_spies_36 : DD prog_14_method_73_code 36 (.iload 5) 2 38 := ⟨by decide +kernel, rfl⟩
theorem d_X12_spies_38 : DD prog_14_method_73_code 38 (.aload_n 0) 1 39 := ⟨by decide +kernel, rfl⟩
theorem d_X12_spies_39 : DD prog_14_method_73_code 39 (.getfield 13) 3 42 := ⟨by decide +kernel, rfl⟩
theorem d_X12_spies_42 : DJ prog_14_method_73_code 42 (fun o => .if_icmp .ge o) 163 3 45 := ⟨by decide +kernel, rfl⟩
theorem d_X12_spies_45 : DD prog_14_method_73_code 45 (.iload 5) 2 47 := ⟨by decide +kernel, rfl⟩
theorem d_X12_spies_47 : DD prog_14_method_73_code 47 (.iconst 1) 1 48 := ⟨by decide +kernel, rfl⟩
theorem d_X12_spies_48 : DD prog_14_method_73_code 48 (.iadd) 1 49 := ⟨by decide +kernel, rfl⟩
theorem d_X12_spies_49 : DD prog_14_method_73_code 49 (.istore 6) 2 51 := ⟨by decide +kernel, rfl⟩
theorem d_X12_spies_51 : DD prog_14_method_73_code 51 (.iload 6) 2 53 := ⟨by decide +kernel, rfl⟩
theorem d_X12_spies_53 : DD prog_14_method_73_code 53 (.aload_n 0) 1 54 := ⟨by decide +kernel, rfl⟩
theorem d_X12_spies_54 : DD prog_14_method_73_code 54 (.getfield 13) 3 57 := ⟨by decide +kernel, rfl⟩
theorem d_X12_spies_57 : DJ prog_14_method_73_code 57 (fun o => .if_icmp .ge o) 157 3 60 := ⟨by decide +kernel, rfl⟩
theorem d_X12_spies_60 : DD prog_14_method_73_code 60 (.iconst 0) 1 61 := ⟨by decide +kernel, rfl⟩
theorem d_X12_spies_61 : DD prog_14_method_73_code 61 (.istore 7) 2 63 := ⟨by decide +kernel, rfl⟩
theorem d_X12_spies_63 : DD prog_14_method_73_code 63 (.iload 7) 2 65 := ⟨by decide +kernel, rfl⟩
theorem d_X12_spies_65 : DD prog_14_method_73_code 65 (.sipush 400) 3 68 := ⟨by decide +kernel, rfl⟩
theorem d_X12_spies_68 : DJ prog_14_method_73_code 68 (fun o => .if_icmp .ge o) 151 3 71 := ⟨by decide +kernel, rfl⟩
theorem d_X12_spies_71 : DD prog_14_method_73_code 71 (.aload_n 0) 1 72 := ⟨by decide +kernel, rfl⟩
theorem d_X12_spies_72 : DD prog_14_method_73_code 72 (.iload 5) 2 74 := ⟨by decide +kernel, rfl⟩
theorem d_X12_spies_74 : DD prog_14_method_73_code 74 (.iconst 1) 1 75 := ⟨by decide +kernel, rfl⟩
theorem d_X12_spies_75 : DD prog_14_method_73_code 75 (.iload 7) 2 77 := ⟨by decide +kernel, rfl⟩
theorem d_X12_spies_77 : DD prog_14_method_73_code 77 (.bipush 20) 2 79 := ⟨by decide +kernel, rfl⟩
theorem d_X12_spies_79 : DD prog_14_method_73_code 79 (.idiv) 1 80 := ⟨by decide +kernel, rfl⟩
theorem d_X12_spies_80 : DD prog_14_method_73_code 80 (.iadd) 1 81 := ⟨by decide +kernel, rfl⟩
theorem d_X12_spies_81 : DD prog_14_method_73_code 81 (.iload 6) 2 83 := ⟨by decide +kernel, rfl⟩
theorem d_X12_spies_83 : DD prog_14_method_73_code 83 (.iconst 1) 1 84 := ⟨by decide +kernel, rfl⟩
theorem d_X12_spies_84 : DD prog_14_method_73_code 84 (.iload 7) 2 86 := ⟨by decide +kernel, rfl⟩
theorem d_X12_spies_86 : DD prog_14_method_73_code 86 (.bipush 20) 2 88 := ⟨by decide +kernel, rfl⟩
theorem d_X12_spies_88 : DD prog_14_method_73_code 88 (.irem) 1 89 := ⟨by decide +kernel, rfl⟩
theorem d_X12_spies_89 : DD prog_14_method_73_code 89 (.iadd) 1 90 := ⟨by decide +kernel, rfl⟩
theorem d_X12_spies_90 : DD prog_14_method_73_code 90 (.invokevirtual 274) 3 93 := ⟨by decide +kernel, rfl⟩
theorem d_X12_spies_93 : DJ prog_14_method_73_code 93 (fun o => .ifCond .eq o) 145 3 96 := ⟨by decide +kernel, rfl⟩
theorem d_X12_spies_96 : DD prog_14_method_73_code 96 (.iload_n 2) 1 97 := ⟨by decide +kernel, rfl⟩
theorem d_X12_spies_97 : DJ prog_14_method_73_code 97 (fun o => .ifCond .ne o) 111 3 100 := ⟨by decide +kernel, rfl⟩
theorem d_X12_spies_100 : DD prog_14_method_73_code 100 (.bipush 10) 2 102 := ⟨by decide +kernel, rfl⟩
theorem d_X12_spies_102 : DD prog_14_method_73_code 102 (.iload 5) 2 104 := ⟨by decide +kernel, rfl⟩
theorem d_X12_spies_104 : DD prog_14_method_73_code 104 (.imul) 1 105 := ⟨by decide +kernel, rfl⟩
theorem d_X12_spies_105 : DD prog_14_method_73_code 105 (.iload 6) 2 107 := ⟨by decide +kernel, rfl⟩
theorem d_X12_spies_107 : DD prog_14_method_73_code 107 (.iadd) 1 108 := ⟨by decide +kernel, rfl⟩
theorem d_X12_spies_108 : DJ prog_14_method_73_code 108 (fun o => .goto o) 112 3 111 := ⟨by decide +kernel, rfl⟩
theorem d_X12_spies_111 : DD prog_14_method_73_code 111 (.iload_n 3) 1 112 := ⟨by decide +kernel, rfl⟩
theorem d_X12_spies_112 : DD prog_14_method_73_code 112 (.istore_n 3) 1 113 := ⟨by decide +kernel, rfl⟩
theorem d_X12_spies_113 : DD prog_14_method_73_code 113 (.iload_n 2) 1 114 := ⟨by decide +kernel, rfl⟩
theorem d_X12_spies_114 : DJ prog_14_method_73_code 114 (fun o => .ifCond .ne o) 138 3 117 := ⟨by decide +kernel, rfl⟩
theorem d_X12_spies_117 : DD prog_14_method_73_code 117 (.bipush 100) 2 119 := ⟨by decide +kernel, rfl⟩
theorem d_X12_spies_119 : DD prog_14_method_73_code 119 (.iconst 1) 1 120 := ⟨by decide +kernel, rfl⟩
theorem d_X12_spies_120 : DD prog_14_method_73_code 120 (.iload 7) 2 122 := ⟨by decide +kernel, rfl⟩
theorem d_X12_spies_122 : DD prog_14_method_73_code 122 (.bipush 20) 2 124 := ⟨by decide +kernel, rfl⟩
theorem d_X12_spies_124 : DD prog_14_method_73_code 124 (.idiv) 1 125 := ⟨by decide +kernel, rfl⟩
theorem d_X12_spies_125 : DD prog_14_method_73_code 125 (.iadd) 1 126 := ⟨by decide +kernel, rfl⟩
theorem d_X12_spies_126 : DD prog_14_method_73_code 126 (.imul) 1 127 := ⟨by decide +kernel, rfl⟩
theorem d_X12_spies_127 : DD prog_14_method_73_code 127 (.iconst 1) 1 128 := ⟨by decide +kernel, rfl⟩
theorem d_X12_spies_128 : DD prog_14_method_73_code 128 (.iadd) 1 129 := ⟨by decide +kernel, rfl⟩
theorem d_X12_spies_129 : DD prog_14_method_73_code 129 (.iload 7) 2 131 := ⟨by decide +kernel, rfl⟩
theorem d_X12_spies_131 : DD prog_14_method_73_code 131 (.bipush 20) 2 133 := ⟨by decide +kernel, rfl⟩
theorem d_X12_spies_133 : DD prog_14_method_73_code 133 (.irem) 1 134 := ⟨by decide +kernel, rfl⟩
theorem d_X12_spies_134 : DD prog_14_method_73_code 134 (.iadd) 1 135 := ⟨by decide +kernel, rfl⟩
theorem d_X12_spies_135 : DJ prog_14_method_73_code 135 (fun o => .goto o) 140 3 138 := ⟨by decide +kernel, rfl⟩
theorem d_X12_spies_138 : DD prog_14_method_73_code 138 (.iload 4) 2 140 := ⟨by decide +kernel, rfl⟩
theorem d_X12_spies_140 : DD prog_14_method_73_code 140 (.istore 4) 2 142 := ⟨by decide +kernel, rfl⟩
theorem d_X12_spies_142 : DD prog_14_method_73_code 142 (.iinc 2 1) 3 145 := ⟨by decide +kernel, rfl⟩
theorem d_X12_spies_145 : DD prog_14_method_73_code 145 (.iinc 7 1) 3 148 := ⟨by decide +kernel, rfl⟩
theorem d_X12_spies_148 : DJ prog_14_method_73_code 148 (fun o => .goto o) 63 3 151 := ⟨by decide +kernel, rfl⟩
theorem d_X12_spies_151 : DD prog_14_method_73_code 151 (.iinc 6 1) 3 154 := ⟨by decide +kernel, rfl⟩
theorem d_X12_spies_154 : DJ prog_14_method_73_code 154 (fun o => .goto o) 51 3 157 := ⟨by decide +kernel, rfl⟩
theorem d_X12_spies_157 : DD prog_14_method_73_code 157 (.iinc 5 1) 3 160 := ⟨by decide +kernel, rfl⟩
theorem d_X12_spies_160 : DJ prog_14_method_73_code 160 (fun o => .goto o) 36 3 163 := ⟨by decide +kernel, rfl⟩
theorem d_X12_spies_163 : DD prog_14_method_73_code 163 (.iload_n 1) 1 164 := ⟨by decide +kernel, rfl⟩
theorem d_X12_spies_164 : DJ prog_14_method_73_code 164 (fun o => .ifCond .ne o) 171 3 167 := ⟨by decide +kernel, rfl⟩
theorem d_X12_spies_167 : DD prog_14_method_73_code 167 (.iload_n 2) 1 168 := ⟨by decide +kernel, rfl⟩
theorem d_X12_spies_168 : DJ prog_14_method_73_code 168 (fun o => .goto o) 182 3 171 := ⟨by decide +kernel, rfl⟩
theorem d_X12_spies_171 : DD prog_14_method_73_code 171 (.iload_n 1) 1 172 := ⟨by decide +kernel, rfl⟩
theorem d_X12_spies_172 : DD prog_14_method_73_code 172 (.iconst 1) 1 173 := ⟨by decide +kernel, rfl⟩
theorem d_X12_spies_173 : DJ prog_14_method_73_code 173 (fun o => .if_icmp .ne o) 180 3 176 := ⟨by decide +kernel, rfl⟩
theorem d_X12_spies_176 : DD prog_14_method_73_code 176 (.iload_n 3) 1 177 := ⟨by decide +kernel, rfl⟩
theorem d_X12_spies_177 : DJ prog_14_method_73_code 177 (fun o => .goto o) 182 3 180 := ⟨by decide +kernel, rfl⟩
theorem d_X12_spies_180 : DD prog_14_method_73_code 180 (.iload 4) 2 182 := ⟨by decide +kernel, rfl⟩
theorem d_X12_spies_182 : DD prog_14_method_73_code 182 (.ireturn) 1 183 := ⟨by decide +kernel, rfl⟩
theorem d_X12_lowest_0 : DD prog_14_method_74_code 0 (.lload_n 0) 1 1 := ⟨by decide +kernel, rfl⟩
theorem d_X12_lowest_1 : DD prog_14_method_74_code 1 (.lstore 5) 2 3 := ⟨by decide +kernel, rfl⟩
theorem d_X12_lowest_3 : DD prog_14_method_74_code 3 (.lload_n 2) 1 4 := ⟨by decide +kernel, rfl⟩
theorem d_X12_lowest_4 : DD prog_14_method_74_code 4 (.lstore 7) 2 6 := ⟨by decide +kernel, rfl⟩
theorem d_X12_lowest_6 : DD prog_14_method_74_code 6 (.lload 7) 2 8 := ⟨by decide +kernel, rfl⟩
theorem d_X12_lowest_8 : DD prog_14_method_74_code 8 (.lconst 0) 1 9 := ⟨by decide +kernel, rfl⟩
theorem d_X12_lowest_9 : DD prog_14_method_74_code 9 (.lcmp) 1 10 := ⟨by decide +kernel, rfl⟩
theorem d_X12_lowest_10 : DJ prog_14_method_74_code 10 (fun o => .ifCond .eq o) 31 3 13 := ⟨by decide +kernel, rfl⟩
theorem d_X12_lowest_13 : DD prog_14_method_74_code 13 (.lload 5) 2 15 := ⟨by decide +kernel, rfl⟩
theorem d_X12_lowest_15 : DD prog_14_method_74_code 15 (.lload 7) 2 17 := ⟨by decide +kernel, rfl⟩
theorem d_X12_lowest_17 : DD prog_14_method_74_code 17 (.lrem) 1 18 := ⟨by decide +kernel, rfl⟩
theorem d_X12_lowest_18 : DD prog_14_method_74_code 18 (.lstore 9) 2 20 := ⟨by decide +kernel, rfl⟩
theorem d_X12_lowest_20 : DD prog_14_method_74_code 20 (.lload 7) 2 22 := ⟨by decide +kernel, rfl⟩
theorem d_X12_lowest_22 : DD prog_14_method_74_code 22 (.lstore 5) 2 24 := ⟨by decide +kernel, rfl⟩
theorem d_X12_lowest_24 : DD prog_14_method_74_code 24 (.lload 9) 2 26 := ⟨by decide +kernel, rfl⟩
theorem d_X12_lowest_26 : DD prog_14_method_74_code 26 (.lstore 7) 2 28 := ⟨by decide +kernel, rfl⟩
theorem d_X12_lowest_28 : DJ prog_14_method_74_code 28 (fun o => .goto o) 6 3 31 := ⟨by decide +kernel, rfl⟩
theorem d_X12_lowest_31 : DD prog_14_method_74_code 31 (.iload 4) 2 33 := ⟨by decide +kernel, rfl⟩
theorem d_X12_lowest_33 : DJ prog_14_method_74_code 33 (fun o => .ifCond .ne o) 40 3 36 := ⟨by decide +kernel, rfl⟩
theorem d_X12_lowest_36 : DD prog_14_method_74_code 36 (.lload_n 0) 1 37 := ⟨by decide +kernel, rfl⟩
theorem d_X12_lowest_37 : DJ prog_14_method_74_code 37 (fun o => .goto o) 41 3 40 := ⟨by decide +kernel, rfl⟩
theorem d_X12_lowest_40 : DD prog_14_method_74_code 40 (.lload_n 2) 1 41 := ⟨by decide +kernel, rfl⟩
theorem d_X12_lowest_41 : DD prog_14_method_74_code 41 (.lload 5) 2 43 := ⟨by decide +kernel, rfl⟩
theorem d_X12_lowest_43 : DD prog_14_method_74_code 43 (.ldiv) 1 44 := ⟨by decide +kernel, rfl⟩
theorem d_X12_lowest_44 : DD prog_14_method_74_code 44 (.lreturn) 1 45 := ⟨by decide +kernel, rfl⟩
theorem d_X12_odds_0 : DD prog_14_method_75_code 0 (.iload_n 1) 1 1 := ⟨by decide +kernel, rfl⟩
theorem d_X12_odds_1 : DD prog_14_method_75_code 1 (.invokestatic 210) 3 4 := ⟨by decide +kernel, rfl⟩
theorem d_X12_odds_4 : DJ prog_14_method_75_code 4 (fun o => .ifCond .eq o) 34 3 7 := ⟨by decide +kernel, rfl⟩
theorem d_X12_odds_7 : DD prog_14_method_75_code 7 (.aload_n 0) 1 8 := ⟨by decide +kernel, rfl⟩
theorem d_X12_odds_8 : DD prog_14_method_75_code 8 (.iload_n 2) 1 9 := ⟨by decide +kernel, rfl⟩
theorem d_X12_odds_9 : DD prog_14_method_75_code 9 (.invokevirtual 201) 3 12 := ⟨by decide +kernel, rfl⟩
theorem d_X12_odds_12 : DJ prog_14_method_75_code 12 (fun o => .ifCond .eq o) 34 3 15 := ⟨by decide +kernel, rfl⟩
theorem d_X12_odds_15 : DD prog_14_method_75_code 15 (.aload_n 0) 1 16 := ⟨by decide +kernel, rfl⟩
theorem d_X12_odds_16 : DD prog_14_method_75_code 16 (.iload_n 3) 1 17 := ⟨by decide +kernel, rfl⟩
theorem d_X12_odds_17 : DD prog_14_method_75_code 17 (.invokevirtual 251) 3 20 := ⟨by decide +kernel, rfl⟩
theorem d_X12_odds_20 : DJ prog_14_method_75_code 20 (fun o => .ifCond .eq o) 34 3 23 := ⟨by decide +kernel, rfl⟩
theorem d_X12_odds_23 : DD prog_14_method_75_code 23 (.iload 4) 2 25 := ⟨by decide +kernel, rfl⟩
theorem d_X12_odds_25 : DD prog_14_method_75_code 25 (.i2l) 1 26 := ⟨by decide +kernel, rfl⟩
theorem d_X12_odds_26 : DD prog_14_method_75_code 26 (.lconst 0) 1 27 := ⟨by decide +kernel, rfl⟩
theorem d_X12_odds_27 : DD prog_14_method_75_code 27 (.lconst 1) 1 28 := ⟨by decide +kernel, rfl⟩
theorem d_X12_odds_28 : DD prog_14_method_75_code 28 (.invokestatic 75) 3 31 := ⟨by decide +kernel, rfl⟩
theorem d_X12_odds_31 : DJ prog_14_method_75_code 31 (fun o => .ifCond .ne o) 38 3 34 := ⟨by decide +kernel, rfl⟩
theorem d_X12_odds_34 : DD prog_14_method_75_code 34 (.ldc2_w 278) 3 37 := ⟨by decide +kernel, rfl⟩
theorem d_X12_odds_37 : DD prog_14_method_75_code 37 (.lreturn) 1 38 := ⟨by decide +kernel, rfl⟩
theorem d_X12_odds_38 : DD prog_14_method_75_code 38 (.aload_n 0) 1 39 := ⟨by decide +kernel, rfl⟩
theorem d_X12_odds_39 : DD prog_14_method_75_code 39 (.iconst 0) 1 40 := ⟨by decide +kernel, rfl⟩
theorem d_X12_odds_40 : DD prog_14_method_75_code 40 (.iload_n 1) 1 41 := ⟨by decide +kernel, rfl⟩
theorem d_X12_odds_41 : DD prog_14_method_75_code 41 (.iload_n 2) 1 42 := ⟨by decide +kernel, rfl⟩
theorem d_X12_odds_42 : DD prog_14_method_75_code 42 (.invokevirtual 215) 3 45 := ⟨by decide +kernel, rfl⟩
theorem d_X12_odds_45 : DJ prog_14_method_75_code 45 (fun o => .ifCond .ne o) 52 3 48 := ⟨by decide +kernel, rfl⟩
theorem d_X12_odds_48 : DD prog_14_method_75_code 48 (.ldc2_w 280) 3 51 := ⟨by decide +kernel, rfl⟩
theorem d_X12_odds_51 : DD prog_14_method_75_code 51 (.lreturn) 1 52 := ⟨by decide +kernel, rfl⟩
theorem d_X12_odds_52 : DD prog_14_method_75_code 52 (.iload_n 3) 1 53 := ⟨by decide +kernel, rfl⟩
theorem d_X12_odds_53 : DD prog_14_method_75_code 53 (.aload_n 0) 1 54 := ⟨by decide +kernel, rfl⟩
theorem d_X12_odds_54 : DD prog_14_method_75_code 54 (.invokevirtual 185) 3 57 := ⟨by decide +kernel, rfl⟩
theorem d_X12_odds_57 : DD prog_14_method_75_code 57 (.isub) 1 58 := ⟨by decide +kernel, rfl⟩
theorem d_X12_odds_58 : DD prog_14_method_75_code 58 (.istore 5) 2 60 := ⟨by decide +kernel, rfl⟩
theorem d_X12_odds_60 : DD prog_14_method_75_code 60 (.lconst 1) 1 61 := ⟨by decide +kernel, rfl⟩
theorem d_X12_odds_61 : DD prog_14_method_75_code 61 (.lstore 6) 2 63 := ⟨by decide +kernel, rfl⟩
theorem d_X12_odds_63 : DD prog_14_method_75_code 63 (.iconst 0) 1 64 := ⟨by decide +kernel, rfl⟩
theorem d_X12_odds_64 : DD prog_14_method_75_code 64 (.istore 8) 2 66 := ⟨by decide +kernel, rfl⟩
theorem d_X12_odds_66 : DD prog_14_method_75_code 66 (.iload 8) 2 68 := ⟨by decide +kernel, rfl⟩
theorem d_X12_odds_68 : DD prog_14_method_75_code 68 (.iload 5) 2 70 := ⟨by decide +kernel, rfl⟩
theorem d_X12_odds_70 : DJ prog_14_method_75_code 70 (fun o => .if_icmp .ge o) 87 3 73 := ⟨by decide +kernel, rfl⟩
theorem d_X12_odds_73 : DD prog_14_method_75_code 73 (.lload 6) 2 75 := ⟨by decide +kernel, rfl⟩
theorem d_X12_odds_75 : DD prog_14_method_75_code 75 (.ldc2_w 225) 3 78 := ⟨by decide +kernel, rfl⟩
theorem d_X12_odds_78 : DD prog_14_method_75_code 78 (.lmul) 1 79 := ⟨by decide +kernel, rfl⟩
theorem d_X12_odds_79 : DD prog_14_method_75_code 79 (.lstore 6) 2 81 := ⟨by decide +kernel, rfl⟩
theorem d_X12_odds_81 : DD prog_14_method_75_code 81 (.iinc 8 1) 3 84 := ⟨by decide +kernel, rfl⟩
theorem d_X12_odds_84 : DJ prog_14_method_75_code 84 (fun o => .goto o) 66 3 87 := ⟨by decide +kernel, rfl⟩
theorem d_X12_odds_87 : DD prog_14_method_75_code 87 (.lconst 0) 1 88 := ⟨by decide +kernel, rfl⟩
theorem d_X12_odds_88 : DD prog_14_method_75_code 88 (.lstore 8) 2 90 := ⟨by decide +kernel, rfl⟩
theorem d_X12_odds_90 : DD prog_14_method_75_code 90 (.iconst 0) 1 91 := ⟨by decide +kernel, rfl⟩
theorem d_X12_odds_91 : DD prog_14_method_75_code 91 (.istore 10) 2 93 := ⟨by decide +kernel, rfl⟩
theorem d_X12_odds_93 : DD prog_14_method_75_code 93 (.iload 10) 2 95 := ⟨by decide +kernel, rfl⟩
theorem d_X12_odds_95 : DD prog_14_method_75_code 95 (.iconst 1) 1 96 := ⟨by decide +kernel, rfl⟩
theorem d_X12_odds_96 : DD prog_14_method_75_code 96 (.iload 5) 2 98 := ⟨by decide +kernel, rfl⟩
theorem d_X12_odds_98 : DD prog_14_method_75_code 98 (.ishl) 1 99 := ⟨by decide +kernel, rfl⟩
theorem d_X12_odds_99 : DJ prog_14_method_75_code 99 (fun o => .if_icmp .ge o) 195 3 102 := ⟨by decide +kernel, rfl⟩
theorem d_X12_odds_102 : DD prog_14_method_75_code 102 (.lconst 1) 1 103 := ⟨by decide +kernel, rfl⟩
theorem d_X12_odds_103 : DD prog_14_method_75_code 103 (.lstore 11) 2 105 := ⟨by decide +kernel, rfl⟩
theorem d_X12_odds_105 : DD prog_14_method_75_code 105 (.iconst 0) 1 106 := ⟨by decide +kernel, rfl⟩
theorem d_X12_odds_106 : DD prog_14_method_75_code 106 (.istore 13) 2 108 := ⟨by decide +kernel, rfl⟩
theorem d_X12_odds_108 : DD prog_14_method_75_code 108 (.iload 13) 2 110 := ⟨by decide +kernel, rfl⟩
theorem d_X12_odds_110 : DD prog_14_method_75_code 110 (.iload 5) 2 112 := ⟨by decide +kernel, rfl⟩
theorem d_X12_odds_112 : DJ prog_14_method_75_code 112 (fun o => .if_icmp .ge o) 153 3 115 := ⟨by decide +kernel, rfl⟩
theorem d_X12_odds_115 : DD prog_14_method_75_code 115 (.lload 11) 2 117 := ⟨by decide +kernel, rfl⟩
theorem d_X12_odds_117 : DD prog_14_method_75_code 117 (.iload 10) 2 119 := ⟨by decide +kernel, rfl⟩
theorem d_X12_odds_119 : DD prog_14_method_75_code 119 (.iload 13) 2 121 := ⟨by decide +kernel, rfl⟩
theorem d_X12_odds_121 : DD prog_14_method_75_code 121 (.ishr) 1 122 := ⟨by decide +kernel, rfl⟩
theorem d_X12_odds_122 : DD prog_14_method_75_code 122 (.iconst 1) 1 123 := ⟨by decide +kernel, rfl⟩
theorem d_X12_odds_123 : DD prog_14_method_75_code 123 (.iand) 1 124 := ⟨by decide +kernel, rfl⟩
theorem d_X12_odds_124 : DD prog_14_method_75_code 124 (.iconst 1) 1 125 := ⟨by decide +kernel, rfl⟩
theorem d_X12_odds_125 : DJ prog_14_method_75_code 125 (fun o => .if_icmp .ne o) 136 3 128 := ⟨by decide +kernel, rfl⟩
theorem d_X12_odds_128 : DD prog_14_method_75_code 128 (.aload_n 0) 1 129 := ⟨by decide +kernel, rfl⟩
theorem d_X12_odds_129 : DD prog_14_method_75_code 129 (.getfield 26) 3 132 := ⟨by decide +kernel, rfl⟩
theorem d_X12_odds_132 : DD prog_14_method_75_code 132 (.i2l) 1 133 := ⟨by decide +kernel, rfl⟩
theorem d_X12_odds_133 : DJ prog_14_method_75_code 133 (fun o => .goto o) 144 3 136 := ⟨by decide +kernel, rfl⟩
theorem d_X12_odds_136 : DD prog_14_method_75_code 136 (.bipush 10) 2 138 := ⟨by decide +kernel, rfl⟩
theorem d_X12_odds_138 : DD prog_14_method_75_code 138 (.aload_n 0) 1 139 := ⟨by decide +kernel, rfl⟩
theorem d_X12_odds_139 : DD prog_14_method_75_code 139 (.getfield 26) 3 142 := ⟨by decide +kernel, rfl⟩
theorem d_X12_odds_142 : DD prog_14_method_75_code 142 (.isub) 1 143 := ⟨by decide +kernel, rfl⟩
theorem d_X12_odds_143 : DD prog_14_method_75_code 143 (.i2l) 1 144 := ⟨by decide +kernel, rfl⟩
theorem d_X12_odds_144 : DD prog_14_method_75_code 144 (.lmul) 1 145 := ⟨by decide +kernel, rfl⟩
theorem d_X12_odds_145 : DD prog_14_method_75_code 145 (.lstore 11) 2 147 := ⟨by decide +kernel, rfl⟩
theorem d_X12_odds_147 : DD prog_14_method_75_code 147 (.iinc 13 1) 3 150 := ⟨by decide +kernel, rfl⟩
theorem d_X12_odds_150 : DJ prog_14_method_75_code 150 (fun o => .goto o) 108 3 153 := ⟨by decide +kernel, rfl⟩
theorem d_X12_odds_153 : DD prog_14_method_75_code 153 (.lload 8) 2 155 := ⟨by decide +kernel, rfl⟩
theorem d_X12_odds_155 : DD prog_14_method_75_code 155 (.lload 11) 2 157 := ⟨by decide +kernel, rfl⟩
theorem d_X12_odds_157 : DD prog_14_method_75_code 157 (.lconst 0) 1 158 := ⟨by decide +kernel, rfl⟩
theorem d_X12_odds_158 : DD prog_14_method_75_code 158 (.lcmp) 1 159 := ⟨by decide +kernel, rfl⟩
theorem d_X12_odds_159 : DJ prog_14_method_75_code 159 (fun o => .ifCond .le o) 185 3 162 := ⟨by decide +kernel, rfl⟩
theorem d_X12_odds_162 : DD prog_14_method_75_code 162 (.aload_n 0) 1 163 := ⟨by decide +kernel, rfl⟩
theorem d_X12_odds_163 : DD prog_14_method_75_code 163 (.iload_n 1) 1 164 := ⟨by decide +kernel, rfl⟩
theorem d_X12_odds_164 : DD prog_14_method_75_code 164 (.iload_n 2) 1 165 := ⟨by decide +kernel, rfl⟩
theorem d_X12_odds_165 : DD prog_14_method_75_code 165 (.iconst 0) 1 166 := ⟨by decide +kernel, rfl⟩
theorem d_X12_odds_166 : DD prog_14_method_75_code 166 (.iload 10) 2 168 := ⟨by decide +kernel, rfl⟩
theorem d_X12_odds_168 : DD prog_14_method_75_code 168 (.aload_n 0) 1 169 := ⟨by decide +kernel, rfl⟩
theorem d_X12_odds_169 : DD prog_14_method_75_code 169 (.invokevirtual 185) 3 172 := ⟨by decide +kernel, rfl⟩
theorem d_X12_odds_172 : DD prog_14_method_75_code 172 (.ishl) 1 173 := ⟨by decide +kernel, rfl⟩
theorem d_X12_odds_173 : DD prog_14_method_75_code 173 (.invokevirtual 257) 3 176 := ⟨by decide +kernel, rfl⟩
theorem d_X12_odds_176 : DD prog_14_method_75_code 176 (.iload_n 3) 1 177 := ⟨by decide +kernel, rfl⟩
theorem d_X12_odds_177 : DJ prog_14_method_75_code 177 (fun o => .if_icmp .ge o) 185 3 180 := ⟨by decide +kernel, rfl⟩
theorem d_X12_odds_180 : DD prog_14_method_75_code 180 (.lload 11) 2 182 := ⟨by decide +kernel, rfl⟩
theorem d_X12_odds_182 : DJ prog_14_method_75_code 182 (fun o => .goto o) 186 3 185 := ⟨by decide +kernel, rfl⟩
theorem d_X12_odds_185 : DD prog_14_method_75_code 185 (.lconst 0) 1 186 := ⟨by decide +kernel, rfl⟩
theorem d_X12_odds_186 : DD prog_14_method_75_code 186 (.ladd) 1 187 := ⟨by decide +kernel, rfl⟩
theorem d_X12_odds_187 : DD prog_14_method_75_code 187 (.lstore 8) 2 189 := ⟨by decide +kernel, rfl⟩
theorem d_X12_odds_189 : DD prog_14_method_75_code 189 (.iinc 10 1) 3 192 := ⟨by decide +kernel, rfl⟩
theorem d_X12_odds_192 : DJ prog_14_method_75_code 192 (fun o => .goto o) 93 3 195 := ⟨by decide +kernel, rfl⟩
theorem d_X12_odds_195 : DD prog_14_method_75_code 195 (.lload 8) 2 197 := ⟨by decide +kernel, rfl⟩
theorem d_X12_odds_197 : DD prog_14_method_75_code 197 (.lload 6) 2 199 := ⟨by decide +kernel, rfl⟩
theorem d_X12_odds_199 : DD prog_14_method_75_code 199 (.iload 4) 2 201 := ⟨by decide +kernel, rfl⟩
theorem d_X12_odds_201 : DD prog_14_method_75_code 201 (.invokestatic 282) 3 204 := ⟨by decide +kernel, rfl⟩
theorem d_X12_odds_204 : DD prog_14_method_75_code 204 (.lreturn) 1 205 := ⟨by decide +kernel, rfl⟩
theorem d_X12_strengthOf_0 : DD prog_14_method_76_code 0 (.iconst 0) 1 1 := ⟨by decide +kernel, rfl⟩
theorem d_X12_strengthOf_1 : DD prog_14_method_76_code 1 (.istore_n 2) 1 2 := ⟨by decide +kernel, rfl⟩
theorem d_X12_strengthOf_2 : DD prog_14_method_76_code 2 (.iconst 0) 1 3 := ⟨by decide +kernel, rfl⟩
theorem d_X12_strengthOf_3 : DD prog_14_method_76_code 3 (.istore_n 3) 1 4 := ⟨by decide +kernel, rfl⟩
theorem d_X12_strengthOf_4 : DD prog_14_method_76_code 4 (.iload_n 3) 1 5 := ⟨by decide +kernel, rfl⟩
theorem d_X12_strengthOf_5 : DD prog_14_method_76_code 5 (.aload_n 0) 1 6 := ⟨by decide +kernel, rfl⟩
theorem d_X12_strengthOf_6 : DD prog_14_method_76_code 6 (.getfield 13) 3 9 := ⟨by decide +kernel, rfl⟩
theorem d_X12_strengthOf_9 : DJ prog_14_method_76_code 9 (fun o => .if_icmp .ge o) 36 3 12 := ⟨by decide +kernel, rfl⟩
theorem d_X12_strengthOf_12 : DD prog_14_method_76_code 12 (.iload_n 2) 1 13 := ⟨by decide +kernel, rfl⟩
theorem d_X12_strengthOf_13 : DD prog_14_method_76_code 13 (.aload_n 0) 1 14 := ⟨by decide +kernel, rfl⟩
theorem d_X12_strengthOf_14 : DD prog_14_method_76_code 14 (.iconst 0) 1 15 := ⟨by decide +kernel, rfl⟩
theorem d_X12_strengthOf_15 : DD prog_14_method_76_code 15 (.iload_n 1) 1 16 := ⟨by decide +kernel, rfl⟩
theorem d_X12_strengthOf_16 : DD prog_14_method_76_code 16 (.iload_n 3) 1 17 := ⟨by decide +kernel, rfl⟩
theorem d_X12_strengthOf_17 : DD prog_14_method_76_code 17 (.invokevirtual 206) 3 20 := ⟨by decide +kernel, rfl⟩
theorem d_X12_strengthOf_20 : DJ prog_14_method_76_code 20 (fun o => .ifCond .eq o) 27 3 23 := ⟨by decide +kernel, rfl⟩
theorem d_X12_strengthOf_23 : DD prog_14_method_76_code 23 (.iconst 1) 1 24 := ⟨by decide +kernel, rfl⟩
theorem d_X12_strengthOf_24 : DJ prog_14_method_76_code 24 (fun o => .goto o) 28 3 27 := ⟨by decide +kernel, rfl⟩
theorem d_X12_strengthOf_27 : DD prog_14_method_76_code 27 (.iconst 0) 1 28 := ⟨by decide +kernel, rfl⟩
theorem d_X12_strengthOf_28 : DD prog_14_method_76_code 28 (.iadd) 1 29 := ⟨by decide +kernel, rfl⟩
theorem d_X12_strengthOf_29 : DD prog_14_method_76_code 29 (.istore_n 2) 1 30 := ⟨by decide +kernel, rfl⟩
theorem d_X12_strengthOf_30 : DD prog_14_method_76_code 30 (.iinc 3 1) 3 33 := ⟨by decide +kernel, rfl⟩
theorem d_X12_strengthOf_33 : DJ prog_14_method_76_code 33 (fun o => .goto o) 4 3 36 := ⟨by decide +kernel, rfl⟩
theorem d_X12_strengthOf_36 : DD prog_14_method_76_code 36 (.iload_n 2) 1 37 := ⟨by decide +kernel, rfl⟩
theorem d_X12_strengthOf_37 : DD prog_14_method_76_code 37 (.ireturn) 1 38 := ⟨by decide +kernel, rfl⟩
theorem d_X12_talks_0 : DD prog_14_method_77_code 0 (.iload_n 1) 1 1 := ⟨by decide +kernel, rfl⟩
theorem d_X12_talks_1 : DD prog_14_method_77_code 1 (.i2l) 1 2 := ⟨by decide +kernel, rfl⟩
theorem d_X12_talks_2 : DD prog_14_method_77_code 2 (.lconst 0) 1 3 := ⟨by decide +kernel, rfl⟩
theorem d_X12_talks_3 : DD prog_14_method_77_code 3 (.lconst 1) 1 4 := ⟨by decide +kernel, rfl⟩
theorem d_X12_talks_4 : DD prog_14_method_77_code 4 (.invokestatic 75) 3 7 := ⟨by decide +kernel, rfl⟩
theorem d_X12_talks_7 : DJ prog_14_method_77_code 7 (fun o => .ifCond .ne o) 12 3 10 := ⟨by decide +kernel, rfl⟩
theorem d_X12_talks_10 : DD prog_14_method_77_code 10 (.iconst (-1)) 1 11 := ⟨by decide +kernel, rfl⟩
theorem d_X12_talks_11 : DD prog_14_method_77_code 11 (.ireturn) 1 12 := ⟨by decide +kernel, rfl⟩
theorem d_X12_talks_12 : DD prog_14_method_77_code 12 (.aload_n 0) 1 13 := ⟨by decide +kernel, rfl⟩
theorem d_X12_talks_13 : DD prog_14_method_77_code 13 (.getfield 20) 3 16 := ⟨by decide +kernel, rfl⟩
theorem d_X12_talks_16 : DD prog_14_method_77_code 16 (.iconst 0) 1 17 := ⟨by decide +kernel, rfl⟩
theorem d_X12_talks_17 : DD prog_14_method_77_code 17 (.iaload) 1 18 := ⟨by decide +kernel, rfl⟩
theorem d_X12_talks_18 : DD prog_14_method_77_code 18 (.istore_n 2) 1 19 := ⟨by decide +kernel, rfl⟩
theorem d_X12_talks_19 : DD prog_14_method_77_code 19 (.bipush (-4)) 2 21 := ⟨by decide +kernel, rfl⟩
theorem d_X12_talks_21 : DD prog_14_method_77_code 21 (.istore_n 3) 1 22 := ⟨by decide +kernel, rfl⟩
theorem d_X12_talks_22 : DD prog_14_method_77_code 22 (.iconst 0) 1 23 := ⟨by decide +kernel, rfl⟩
theorem d_X12_talks_23 : DD prog_14_method_77_code 23 (.istore 4) 2 25 := ⟨by decide +kernel, rfl⟩
theorem d_X12_talks_25 : DD prog_14_method_77_code 25 (.iconst 1) 1 26 := ⟨by decide +kernel, rfl⟩
theorem d_X12_talks_26 : DD prog_14_method_77_code 26 (.istore 5) 2 28 := ⟨by decide +kernel, rfl⟩
theorem d_X12_talks_28 : DD prog_14_method_77_code 28 (.iload 5) 2 30 := ⟨by decide +kernel, rfl⟩
theorem d_X12_talks_30 : DD prog_14_method_77_code 30 (.bipush 99) 2 32 := ⟨by decide +kernel, rfl⟩
theorem d_X12_talks_32 : DJ prog_14_method_77_code 32 (fun o => .if_icmp .gt o) 83 3 35 := ⟨by decide +kernel, rfl⟩
theorem d_X12_talks_35 : DD prog_14_method_77_code 35 (.iload_n 3) 1 36 := ⟨by decide +kernel, rfl⟩
theorem d_X12_talks_36 : DD prog_14_method_77_code 36 (.bipush (-4)) 2 38 := ⟨by decide +kernel, rfl⟩
theorem d_X12_talks_38 : DJ prog_14_method_77_code 38 (fun o => .if_icmp .ne o) 83 3 41 := ⟨by decide +kernel, rfl⟩
theorem d_X12_talks_41 : DD prog_14_method_77_code 41 (.aload_n 0) 1 42 := ⟨by decide +kernel, rfl⟩
theorem d_X12_talks_42 : DD prog_14_method_77_code 42 (.getfield 20) 3 45 := ⟨by decide +kernel, rfl⟩
theorem d_X12_talks_45 : DD prog_14_method_77_code 45 (.iconst 0) 1 46 := ⟨by decide +kernel, rfl⟩
theorem d_X12_talks_46 : DD prog_14_method_77_code 46 (.iload 5) 2 48 := ⟨by decide +kernel, rfl⟩
theorem d_X12_talks_48 : DD prog_14_method_77_code 48 (.iastore) 1 49 := ⟨by decide +kernel, rfl⟩
theorem d_X12_talks_49 : DD prog_14_method_77_code 49 (.aload_n 0) 1 50 := ⟨by decide +kernel, rfl⟩
theorem d_X12_talks_50 : DD prog_14_method_77_code 50 (.iconst 0) 1 51 := ⟨by decide +kernel, rfl⟩
theorem d_X12_talks_51 : DD prog_14_method_77_code 51 (.invokevirtual 286) 3 54 := ⟨by decide +kernel, rfl⟩
theorem d_X12_talks_54 : DD prog_14_method_77_code 54 (.aload_n 0) 1 55 := ⟨by decide +kernel, rfl⟩
theorem d_X12_talks_55 : DD prog_14_method_77_code 55 (.iconst 1) 1 56 := ⟨by decide +kernel, rfl⟩
theorem d_X12_talks_56 : DD prog_14_method_77_code 56 (.invokevirtual 286) 3 59 := ⟨by decide +kernel, rfl⟩
theorem d_X12_talks_59 : DJ prog_14_method_77_code 59 (fun o => .if_icmp .ne o) 67 3 62 := ⟨by decide +kernel, rfl⟩
theorem d_X12_talks_62 : DD prog_14_method_77_code 62 (.iload 5) 2 64 := ⟨by decide +kernel, rfl⟩
theorem d_X12_talks_64 : DJ prog_14_method_77_code 64 (fun o => .goto o) 69 3 67 := ⟨by decide +kernel, rfl⟩
theorem d_X12_talks_67 : DD prog_14_method_77_code 67 (.bipush (-4)) 2 69 := ⟨by decide +kernel, rfl⟩
theorem d_X12_talks_69 : DD prog_14_method_77_code 69 (.istore_n 3) 1 70 := ⟨by decide +kernel, rfl⟩
theorem d_X12_talks_70 : DD prog_14_method_77_code 70 (.aload_n 0) 1 71 := ⟨by decide +kernel, rfl⟩
theorem d_X12_talks_71 : DD prog_14_method_77_code 71 (.iconst 0) 1 72 := ⟨by decide +kernel, rfl⟩
theorem d_X12_talks_72 : DD prog_14_method_77_code 72 (.invokevirtual 286) 3 75 := ⟨by decide +kernel, rfl⟩
theorem d_X12_talks_75 : DD prog_14_method_77_code 75 (.istore 4) 2 77 := ⟨by decide +kernel, rfl⟩
theorem d_X12_talks_77 : DD prog_14_method_77_code 77 (.iinc 5 1) 3 80 := ⟨by decide +kernel, rfl⟩
theorem d_X12_talks_80 : DJ prog_14_method_77_code 80 (fun o => .goto o) 28 3 83 := ⟨by decide +kernel, rfl⟩
theorem d_X12_talks_83 : DD prog_14_method_77_code 83 (.aload_n 0) 1 84 := ⟨by decide +kernel, rfl⟩
theorem d_X12_talks_84 : DD prog_14_method_77_code 84 (.getfield 20) 3 87 := ⟨by decide +kernel, rfl⟩
theorem d_X12_talks_87 : DD prog_14_method_77_code 87 (.iconst 0) 1 88 := ⟨by decide +kernel, rfl⟩
theorem d_X12_talks_88 : DD prog_14_method_77_code 88 (.iload_n 2) 1 89 := ⟨by decide +kernel, rfl⟩
theorem d_X12_talks_89 : DD prog_14_method_77_code 89 (.iastore) 1 90 := ⟨by decide +kernel, rfl⟩
theorem d_X12_talks_90 : DD prog_14_method_77_code 90 (.iload_n 3) 1 91 := ⟨by decide +kernel, rfl⟩
theorem d_X12_talks_91 : DD prog_14_method_77_code 91 (.bipush (-4)) 2 93 := ⟨by decide +kernel, rfl⟩
theorem d_X12_talks_93 : DJ prog_14_method_77_code 93 (fun o => .if_icmp .eq o) 100 3 96 := ⟨by decide +kernel, rfl⟩
theorem d_X12_talks_96 : DD prog_14_method_77_code 96 (.iload_n 1) 1 97 := ⟨by decide +kernel, rfl⟩
theorem d_X12_talks_97 : DJ prog_14_method_77_code 97 (fun o => .ifCond .ne o) 104 3 100 := ⟨by decide +kernel, rfl⟩
theorem d_X12_talks_100 : DD prog_14_method_77_code 100 (.iload_n 3) 1 101 := ⟨by decide +kernel, rfl⟩
theorem d_X12_talks_101 : DJ prog_14_method_77_code 101 (fun o => .goto o) 106 3 104 := ⟨by decide +kernel, rfl⟩
theorem d_X12_talks_104 : DD prog_14_method_77_code 104 (.iload 4) 2 106 := ⟨by decide +kernel, rfl⟩
theorem d_X12_talks_106 : DD prog_14_method_77_code 106 (.ireturn) 1 107 := ⟨by decide +kernel, rfl⟩
theorem d_X12_strength_0 : DD prog_14_method_78_code 0 (.iload_n 1) 1 1 := ⟨by decide +kernel, rfl⟩
theorem d_X12_strength_1 : DD prog_14_method_78_code 1 (.invokestatic 210) 3 4 := ⟨by decide +kernel, rfl⟩
theorem d_X12_strength_4 : DJ prog_14_method_78_code 4 (fun o => .ifCond .eq o) 15 3 7 := ⟨by decide +kernel, rfl⟩
theorem d_X12_strength_7 : DD prog_14_method_78_code 7 (.aload_n 0) 1 8 := ⟨by decide +kernel, rfl⟩
theorem d_X12_strength_8 : DD prog_14_method_78_code 8 (.iload_n 1) 1 9 := ⟨by decide +kernel, rfl⟩
theorem d_X12_strength_9 : DD prog_14_method_78_code 9 (.invokevirtual 286) 3 12 := ⟨by decide +kernel, rfl⟩
theorem d_X12_strength_12 : DJ prog_14_method_78_code 12 (fun o => .goto o) 16 3 15 := ⟨by decide +kernel, rfl⟩
theorem d_X12_strength_15 : DD prog_14_method_78_code 15 (.iconst (-1)) 1 16 := ⟨by decide +kernel, rfl⟩
theorem d_X12_strength_16 : DD prog_14_method_78_code 16 (.ireturn) 1 17 := ⟨by decide +kernel, rfl⟩
theorem d_X12_keep_0 : DD prog_14_method_79_code 0 (.iload_n 1) 1 1 := ⟨by decide +kernel, rfl⟩
theorem d_X12_keep_1 : DD prog_14_method_79_code 1 (.i2l) 1 2 := ⟨by decide +kernel, rfl⟩
theorem d_X12_keep_2 : DD prog_14_method_79_code 2 (.lconst 0) 1 3 := ⟨by decide +kernel, rfl⟩
theorem d_X12_keep_3 : DD prog_14_method_79_code 3 (.lconst 1) 1 4 := ⟨by decide +kernel, rfl⟩
theorem d_X12_keep_4 : DD prog_14_method_79_code 4 (.invokestatic 75) 3 7 := ⟨by decide +kernel, rfl⟩
theorem d_X12_keep_7 : DJ prog_14_method_79_code 7 (fun o => .ifCond .ne o) 12 3 10 := ⟨by decide +kernel, rfl⟩
theorem d_X12_keep_10 : DD prog_14_method_79_code 10 (.iconst (-1)) 1 11 := ⟨by decide +kernel, rfl⟩
theorem d_X12_keep_11 : DD prog_14_method_79_code 11 (.ireturn) 1 12 := ⟨by decide +kernel, rfl⟩
theorem d_X12_keep_12 : DD prog_14_method_79_code 12 (.aload_n 0) 1 13 := ⟨by decide +kernel, rfl⟩
theorem d_X12_keep_13 : DD prog_14_method_79_code 13 (.iconst 0) 1 14 := ⟨by decide +kernel, rfl⟩
theorem d_X12_keep_14 : DD prog_14_method_79_code 14 (.sipush 210) 3 17 := ⟨by decide +kernel, rfl⟩
theorem d_X12_keep_17 : DD prog_14_method_79_code 17 (.iload_n 1) 1 18 := ⟨by decide +kernel, rfl⟩
theorem d_X12_keep_18 : DD prog_14_method_79_code 18 (.iconst 1) 1 19 := ⟨by decide +kernel, rfl⟩
theorem d_X12_keep_19 : DD prog_14_method_79_code 19 (.iadd) 1 20 := ⟨by decide +kernel, rfl⟩
theorem d_X12_keep_20 : DD prog_14_method_79_code 20 (.imul) 1 21 := ⟨by decide +kernel, rfl⟩
theorem d_X12_keep_21 : DD prog_14_method_79_code 21 (.invokevirtual 248) 3 24 := ⟨by decide +kernel, rfl⟩
theorem d_X12_keep_24 : DD prog_14_method_79_code 24 (.aload_n 0) 1 25 := ⟨by decide +kernel, rfl⟩
theorem d_X12_keep_25 : DD prog_14_method_79_code 25 (.getfield 59) 3 28 := ⟨by decide +kernel, rfl⟩
theorem d_X12_keep_28 : DD prog_14_method_79_code 28 (.iload_n 1) 1 29 := ⟨by decide +kernel, rfl⟩
theorem d_X12_keep_29 : DD prog_14_method_79_code 29 (.baload) 1 30 := ⟨by decide +kernel, rfl⟩
theorem d_X12_keep_30 : DJ prog_14_method_79_code 30 (fun o => .ifCond .eq o) 37 3 33 := ⟨by decide +kernel, rfl⟩
theorem d_X12_keep_33 : DD prog_14_method_79_code 33 (.iconst 1) 1 34 := ⟨by decide +kernel, rfl⟩
theorem d_X12_keep_34 : DJ prog_14_method_79_code 34 (fun o => .goto o) 38 3 37 := ⟨by decide +kernel, rfl⟩
theorem d_X12_keep_37 : DD prog_14_method_79_code 37 (.iconst 0) 1 38 := ⟨by decide +kernel, rfl⟩
theorem d_X12_keep_38 : DD prog_14_method_79_code 38 (.istore_n 2) 1 39 := ⟨by decide +kernel, rfl⟩
theorem d_X12_keep_39 : DD prog_14_method_79_code 39 (.aload_n 0) 1 40 := ⟨by decide +kernel, rfl⟩
theorem d_X12_keep_40 : DD prog_14_method_79_code 40 (.getfield 59) 3 43 := ⟨by decide +kernel, rfl⟩
theorem d_X12_keep_43 : DD prog_14_method_79_code 43 (.iload_n 1) 1 44 := ⟨by decide +kernel, rfl⟩
theorem d_X12_keep_44 : DD prog_14_method_79_code 44 (.iconst 1) 1 45 := ⟨by decide +kernel, rfl⟩
theorem d_X12_keep_45 : DD prog_14_method_79_code 45 (.bastore) 1 46 := ⟨by decide +kernel, rfl⟩
theorem d_X12_keep_46 : DD prog_14_method_79_code 46 (.iload_n 2) 1 47 := ⟨by decide +kernel, rfl⟩
theorem d_X12_keep_47 : DD prog_14_method_79_code 47 (.ireturn) 1 48 := ⟨by decide +kernel, rfl⟩
theorem d_X12_back_0 : DD prog_14_method_80_code 0 (.iload_n 1) 1 1 := ⟨by decide +kernel, rfl⟩
theorem d_X12_back_1 : DD prog_14_method_80_code 1 (.i2l) 1 2 := ⟨by decide +kernel, rfl⟩
theorem d_X12_back_2 : DD prog_14_method_80_code 2 (.lconst 0) 1 3 := ⟨by decide +kernel, rfl⟩
theorem d_X12_back_3 : DD prog_14_method_80_code 3 (.lconst 1) 1 4 := ⟨by decide +kernel, rfl⟩
theorem d_X12_back_4 : DD prog_14_method_80_code 4 (.invokestatic 75) 3 7 := ⟨by decide +kernel, rfl⟩
theorem d_X12_back_7 : DJ prog_14_method_80_code 7 (fun o => .ifCond .ne o) 12 3 10 := ⟨by decide +kernel, rfl⟩
theorem d_X12_back_10 : DD prog_14_method_80_code 10 (.iconst (-1)) 1 11 := ⟨by decide +kernel, rfl⟩
theorem d_X12_back_11 : DD prog_14_method_80_code 11 (.ireturn) 1 12 := ⟨by decide +kernel, rfl⟩
theorem d_X12_back_12 : DD prog_14_method_80_code 12 (.aload_n 0) 1 13 := ⟨by decide +kernel, rfl⟩
theorem d_X12_back_13 : DD prog_14_method_80_code 13 (.getfield 59) 3 16 := ⟨by decide +kernel, rfl⟩
theorem d_X12_back_16 : DD prog_14_method_80_code 16 (.iload_n 1) 1 17 := ⟨by decide +kernel, rfl⟩
theorem d_X12_back_17 : DD prog_14_method_80_code 17 (.baload) 1 18 := ⟨by decide +kernel, rfl⟩
theorem d_X12_back_18 : DJ prog_14_method_80_code 18 (fun o => .ifCond .ne o) 24 3 21 := ⟨by decide +kernel, rfl⟩
theorem d_X12_back_21 : DD prog_14_method_80_code 21 (.bipush (-2)) 2 23 := ⟨by decide +kernel, rfl⟩
theorem d_X12_back_23 : DD prog_14_method_80_code 23 (.ireturn) 1 24 := ⟨by decide +kernel, rfl⟩
theorem d_X12_back_24 : DD prog_14_method_80_code 24 (.aload_n 0) 1 25 := ⟨by decide +kernel, rfl⟩
theorem d_X12_back_25 : DD prog_14_method_80_code 25 (.sipush 210) 3 28 := ⟨by decide +kernel, rfl⟩
theorem d_X12_back_28 : DD prog_14_method_80_code 28 (.iload_n 1) 1 29 := ⟨by decide +kernel, rfl⟩
theorem d_X12_back_29 : DD prog_14_method_80_code 29 (.iconst 1) 1 30 := ⟨by decide +kernel, rfl⟩
theorem d_X12_back_30 : DD prog_14_method_80_code 30 (.iadd) 1 31 := ⟨by decide +kernel, rfl⟩
theorem d_X12_back_31 : DD prog_14_method_80_code 31 (.imul) 1 32 := ⟨by decide +kernel, rfl⟩
theorem d_X12_back_32 : DD prog_14_method_80_code 32 (.iconst 0) 1 33 := ⟨by decide +kernel, rfl⟩
theorem d_X12_back_33 : DD prog_14_method_80_code 33 (.invokevirtual 248) 3 36 := ⟨by decide +kernel, rfl⟩
theorem d_X12_back_36 : DD prog_14_method_80_code 36 (.aload_n 0) 1 37 := ⟨by decide +kernel, rfl⟩
theorem d_X12_back_37 : DD prog_14_method_80_code 37 (.invokevirtual 185) 3 40 := ⟨by decide +kernel, rfl⟩
theorem d_X12_back_40 : DD prog_14_method_80_code 40 (.ireturn) 1 41 := ⟨by decide +kernel, rfl⟩
theorem d_X12_sheet_0 : DD prog_14_method_81_code 0 (.iload_n 1) 1 1 := ⟨by decide +kernel, rfl⟩
theorem d_X12_sheet_1 : DD prog_14_method_81_code 1 (.i2l) 1 2 := ⟨by decide +kernel, rfl⟩
theorem d_X12_sheet_2 : DD prog_14_method_81_code 2 (.lconst 0) 1 3 := ⟨by decide +kernel, rfl⟩
theorem d_X12_sheet_3 : DD prog_14_method_81_code 3 (.ldc2_w 204) 3 6 := ⟨by decide +kernel, rfl⟩
theorem d_X12_sheet_6 : DD prog_14_method_81_code 6 (.invokestatic 75) 3 9 := ⟨by decide +kernel, rfl⟩
theorem d_X12_sheet_9 : DJ prog_14_method_81_code 9 (fun o => .ifCond .eq o) 30 3 12 := ⟨by decide +kernel, rfl⟩
theorem d_X12_sheet_12 : DD prog_14_method_81_code 12 (.iload_n 2) 1 13 := ⟨by decide +kernel, rfl⟩
theorem d_X12_sheet_13 : DD prog_14_method_81_code 13 (.i2l) 1 14 := ⟨by decide +kernel, rfl⟩
theorem d_X12_sheet_14 : DD prog_14_method_81_code 14 (.lconst 0) 1 15 := ⟨by decide +kernel, rfl⟩
theorem d_X12_sheet_15 : DD prog_14_method_81_code 15 (.ldc2_w 188) 3 18 := ⟨by decide +kernel, rfl⟩
theorem d_X12_sheet_18 : DD prog_14_method_81_code 18 (.invokestatic 75) 3 21 := ⟨by decide +kernel, rfl⟩
theorem d_X12_sheet_21 : DJ prog_14_method_81_code 21 (fun o => .ifCond .eq o) 30 3 24 := ⟨by decide +kernel, rfl⟩
theorem d_X12_sheet_24 : DD prog_14_method_81_code 24 (.iload_n 3) 1 25 := ⟨by decide +kernel, rfl⟩
theorem d_X12_sheet_25 : DD prog_14_method_81_code 25 (.bipush 40) 2 27 := ⟨by decide +kernel, rfl⟩
theorem d_X12_sheet_27 : DJ prog_14_method_81_code 27 (fun o => .if_icmp .le o) 32 3 30 := ⟨by decide +kernel, rfl⟩
theorem d_X12_sheet_30 : DD prog_14_method_81_code 30 (.iconst (-1)) 1 31 := ⟨by decide +kernel, rfl⟩
theorem d_X12_sheet_31 : DD prog_14_method_81_code 31 (.ireturn) 1 32 := ⟨by decide +kernel, rfl⟩
theorem d_X12_sheet_32 : DD prog_14_method_81_code 32 (.iload_n 3) 1 33 := ⟨by decide +kernel, rfl⟩
theorem d_X12_sheet_33 : DJ prog_14_method_81_code 33 (fun o => .ifCond .ge o) 39 3 36 := ⟨by decide +kernel, rfl⟩
theorem d_X12_sheet_36 : DD prog_14_method_81_code 36 (.bipush (-14)) 2 38 := ⟨by decide +kernel, rfl⟩
theorem d_X12_sheet_38 : DD prog_14_method_81_code 38 (.ireturn) 1 39 := ⟨by decide +kernel, rfl⟩
theorem d_X12_sheet_39 : DD prog_14_method_81_code 39 (.aload_n 0) 1 40 := ⟨by decide +kernel, rfl⟩
theorem d_X12_sheet_40 : DD prog_14_method_81_code 40 (.getfield 63) 3 43 := ⟨by decide +kernel, rfl⟩
theorem d_X12_sheet_43 : DD prog_14_method_81_code 43 (.iload_n 1) 1 44 := ⟨by decide +kernel, rfl⟩
theorem d_X12_sheet_44 : DD prog_14_method_81_code 44 (.iload_n 2) 1 45 := ⟨by decide +kernel, rfl⟩
theorem d_X12_sheet_45 : DD prog_14_method_81_code 45 (.iastore) 1 46 := ⟨by decide +kernel, rfl⟩
theorem d_X12_sheet_46 : DD prog_14_method_81_code 46 (.aload_n 0) 1 47 := ⟨by decide +kernel, rfl⟩
theorem d_X12_sheet_47 : DD prog_14_method_81_code 47 (.getfield 66) 3 50 := ⟨by decide +kernel, rfl⟩
theorem d_X12_sheet_50 : DD prog_14_method_81_code 50 (.iload_n 1) 1 51 := ⟨by decide +kernel, rfl⟩
theorem d_X12_sheet_51 : DD prog_14_method_81_code 51 (.iload_n 3) 1 52 := ⟨by decide +kernel, rfl⟩
theorem d_X12_sheet_52 : DD prog_14_method_81_code 52 (.iastore) 1 53 := ⟨by decide +kernel, rfl⟩
theorem d_X12_sheet_53 : DD prog_14_method_81_code 53 (.iconst 0) 1 54 := ⟨by decide +kernel, rfl⟩
theorem d_X12_sheet_54 : DD prog_14_method_81_code 54 (.istore 4) 2 56 := ⟨by decide +kernel, rfl⟩
theorem d_X12_sheet_56 : DD prog_14_method_81_code 56 (.iload 4) 2 58 := ⟨by decide +kernel, rfl⟩
theorem d_X12_sheet_58 : DD prog_14_method_81_code 58 (.bipush 40) 2 60 := ⟨by decide +kernel, rfl⟩
theorem d_X12_sheet_60 : DJ prog_14_method_81_code 60 (fun o => .if_icmp .ge o) 82 3 63 := ⟨by decide +kernel, rfl⟩
theorem d_X12_sheet_63 : DD prog_14_method_81_code 63 (.aload_n 0) 1 64 := ⟨by decide +kernel, rfl⟩
theorem d_X12_sheet_64 : DD prog_14_method_81_code 64 (.getfield 69) 3 67 := ⟨by decide +kernel, rfl⟩
theorem d_X12_sheet_67 : DD prog_14_method_81_code 67 (.bipush 40) 2 69 := ⟨by decide +kernel, rfl⟩
theorem d_X12_sheet_69 : DD prog_14_method_81_code 69 (.iload_n 1) 1 70 := ⟨by decide +kernel, rfl⟩
theorem d_X12_sheet_70 : DD prog_14_method_81_code 70 (.imul) 1 71 := ⟨by decide +kernel, rfl⟩
theorem d_X12_sheet_71 : DD prog_14_method_81_code 71 (.iload 4) 2 73 := ⟨by decide +kernel, rfl⟩
theorem d_X12_sheet_73 : DD prog_14_method_81_code 73 (.iadd) 1 74 := ⟨by decide +kernel, rfl⟩
theorem d_X12_sheet_74 : DD prog_14_method_81_code 74 (.iconst 0) 1 75 := ⟨by decide +kernel, rfl⟩
theorem d_X12_sheet_75 : DD prog_14_method_81_code 75 (.iastore) 1 76 := ⟨by decide +kernel, rfl⟩
theorem d_X12_sheet_76 : DD prog_14_method_81_code 76 (.iinc 4 1) 3 79 := ⟨by decide +kernel, rfl⟩
theorem d_X12_sheet_79 : DJ prog_14_method_81_code 79 (fun o => .goto o) 56 3 82 := ⟨by decide +kernel, rfl⟩
theorem d_X12_sheet_82 : DD prog_14_method_81_code 82 (.iconst 1) 1 83 := ⟨by decide +kernel, rfl⟩
theorem d_X12_sheet_83 : DD prog_14_method_81_code 83 (.ireturn) 1 84 := ⟨by decide +kernel, rfl⟩
theorem d_X12_lay_0 : DD prog_14_method_82_code 0 (.iload_n 1) 1 1 := ⟨by decide +kernel, rfl⟩
theorem d_X12_lay_1 : DD prog_14_method_82_code 1 (.i2l) 1 2 := ⟨by decide +kernel, rfl⟩
theorem d_X12_lay_2 : DD prog_14_method_82_code 2 (.lconst 0) 1 3 := ⟨by decide +kernel, rfl⟩
theorem d_X12_lay_3 : DD prog_14_method_82_code 3 (.ldc2_w 204) 3 6 := ⟨by decide +kernel, rfl⟩
theorem d_X12_lay_6 : DD prog_14_method_82_code 6 (.invokestatic 75) 3 9 := ⟨by decide +kernel, rfl⟩
theorem d_X12_lay_9 : DJ prog_14_method_82_code 9 (fun o => .ifCond .ne o) 14 3 12 := ⟨by decide +kernel, rfl⟩
theorem d_X12_lay_12 : DD prog_14_method_82_code 12 (.iconst (-1)) 1 13 := ⟨by decide +kernel, rfl⟩
theorem d_X12_lay_13 : DD prog_14_method_82_code 13 (.ireturn) 1 14 := ⟨by decide +kernel, rfl⟩
theorem d_X12_lay_14 : DD prog_14_method_82_code 14 (.aload_n 0) 1 15 := ⟨by decide +kernel, rfl⟩
theorem d_X12_lay_15 : DD prog_14_method_82_code 15 (.getfield 63) 3 18 := ⟨by decide +kernel, rfl⟩
theorem d_X12_lay_18 : DD prog_14_method_82_code 18 (.iload_n 1) 1 19 := ⟨by decide +kernel, rfl⟩
theorem d_X12_lay_19 : DD prog_14_method_82_code 19 (.iaload) 1 20 := ⟨by decide +kernel, rfl⟩
theorem d_X12_lay_20 : DD prog_14_method_82_code 20 (.bipush (-4)) 2 22 := ⟨by decide +kernel, rfl⟩
theorem d_X12_lay_22 : DJ prog_14_method_82_code 22 (fun o => .if_icmp .ne o) 28 3 25 := ⟨by decide +kernel, rfl⟩
theorem d_X12_lay_25 : DD prog_14_method_82_code 25 (.bipush (-11)) 2 27 := ⟨by decide +kernel, rfl⟩
theorem d_X12_lay_27 : DD prog_14_method_82_code 27 (.ireturn) 1 28 := ⟨by decide +kernel, rfl⟩
theorem d_X12_lay_28 : DD prog_14_method_82_code 28 (.iload_n 2) 1 29 := ⟨by decide +kernel, rfl⟩
theorem d_X12_lay_29 : DD prog_14_method_82_code 29 (.i2l) 1 30 := ⟨by decide +kernel, rfl⟩
theorem d_X12_lay_30 : DD prog_14_method_82_code 30 (.lconst 0) 1 31 := ⟨by decide +kernel, rfl⟩
theorem d_X12_lay_31 : DD prog_14_method_82_code 31 (.aload_n 0) 1 32 := ⟨by decide +kernel, rfl⟩
theorem d_X12_lay_32 : DD prog_14_method_82_code 32 (.getfield 66) 3 35 := ⟨by decide +kernel, rfl⟩
theorem d_X12_lay_35 : DD prog_14_method_82_code 35 (.iload_n 1) 1 36 := ⟨by decide +kernel, rfl⟩
theorem d_X12_lay_36 : DD prog_14_method_82_code 36 (.iaload) 1 37 := ⟨by decide +kernel, rfl⟩
theorem d_X12_lay_37 : DD prog_14_method_82_code 37 (.iconst 1) 1 38 := ⟨by decide +kernel, rfl⟩
theorem d_X12_lay_38 : DD prog_14_method_82_code 38 (.isub) 1 39 := ⟨by decide +kernel, rfl⟩
theorem d_X12_lay_39 : DD prog_14_method_82_code 39 (.i2l) 1 40 := ⟨by decide +kernel, rfl⟩
theorem d_X12_lay_40 : DD prog_14_method_82_code 40 (.invokestatic 75) 3 43 := ⟨by decide +kernel, rfl⟩
theorem d_X12_lay_43 : DJ prog_14_method_82_code 43 (fun o => .ifCond .ne o) 49 3 46 := ⟨by decide +kernel, rfl⟩
theorem d_X12_lay_46 : DD prog_14_method_82_code 46 (.bipush (-12)) 2 48 := ⟨by decide +kernel, rfl⟩
theorem d_X12_lay_48 : DD prog_14_method_82_code 48 (.ireturn) 1 49 := ⟨by decide +kernel, rfl⟩
theorem d_X12_lay_49 : DD prog_14_method_82_code 49 (.aload_n 0) 1 50 := ⟨by decide +kernel, rfl⟩
theorem d_X12_lay_50 : DD prog_14_method_82_code 50 (.getfield 69) 3 53 := ⟨by decide +kernel, rfl⟩
theorem d_X12_lay_53 : DD prog_14_method_82_code 53 (.bipush 40) 2 55 := ⟨by decide +kernel, rfl⟩
theorem d_X12_lay_55 : DD prog_14_method_82_code 55 (.iload_n 1) 1 56 := ⟨by decide +kernel, rfl⟩
theorem d_X12_lay_56 : DD prog_14_method_82_code 56 (.imul) 1 57 := ⟨by decide +kernel, rfl⟩
theorem d_X12_lay_57 : DD prog_14_method_82_code 57 (.iload_n 2) 1 58 := ⟨by decide +kernel, rfl⟩
theorem d_X12_lay_58 : DD prog_14_method_82_code 58 (.iadd) 1 59 := ⟨by decide +kernel, rfl⟩
theorem d_X12_lay_59 : DD prog_14_method_82_code 59 (.aload_n 0) 1 60 := ⟨by decide +kernel, rfl⟩
theorem d_X12_lay_60 : DD prog_14_method_82_code 60 (.getfield 63) 3 63 := ⟨by decide +kernel, rfl⟩
theorem d_X12_lay_63 : DD prog_14_method_82_code 63 (.iload_n 1) 1 64 := ⟨by decide +kernel, rfl⟩
theorem d_X12_lay_64 : DD prog_14_method_82_code 64 (.iaload) 1 65 := ⟨by decide +kernel, rfl⟩
theorem d_X12_lay_65 : DJ prog_14_method_82_code 65 (fun o => .ifCond .ne o) 78 3 68 := ⟨by decide +kernel, rfl⟩
theorem d_X12_lay_68 : DD prog_14_method_82_code 68 (.iload_n 3) 1 69 := ⟨by decide +kernel, rfl⟩
theorem d_X12_lay_69 : DD prog_14_method_82_code 69 (.bipush 24) 2 71 := ⟨by decide +kernel, rfl⟩
theorem d_X12_lay_71 : DD prog_14_method_82_code 71 (.ishl) 1 72 := ⟨by decide +kernel, rfl⟩
theorem d_X12_lay_72 : DD prog_14_method_82_code 72 (.bipush 24) 2 74 := ⟨by decide +kernel, rfl⟩
theorem d_X12_lay_74 : DD prog_14_method_82_code 74 (.ishr) 1 75 := ⟨by decide +kernel, rfl⟩
theorem d_X12_lay_75 : DJ prog_14_method_82_code 75 (fun o => .goto o) 99 3 78 := ⟨by decide +kernel, rfl⟩
theorem d_X12_lay_78 : DD prog_14_method_82_code 78 (.aload_n 0) 1 79 := ⟨by decide +kernel, rfl⟩
theorem d_X12_lay_79 : DD prog_14_method_82_code 79 (.getfield 63) 3 82 := ⟨by decide +kernel, rfl⟩
theorem d_X12_lay_82 : DD prog_14_method_82_code 82 (.iload_n 1) 1 83 := ⟨by decide +kernel, rfl⟩
theorem d_X12_lay_83 : DD prog_14_method_82_code 83 (.iaload) 1 84 := ⟨by decide +kernel, rfl⟩
theorem d_X12_lay_84 : DD prog_14_method_82_code 84 (.iconst 1) 1 85 := ⟨by decide +kernel, rfl⟩
theorem d_X12_lay_85 : DJ prog_14_method_82_code 85 (fun o => .if_icmp .ne o) 98 3 88 := ⟨by decide +kernel, rfl⟩
theorem d_X12_lay_88 : DD prog_14_method_82_code 88 (.iload_n 3) 1 89 := ⟨by decide +kernel, rfl⟩
theorem d_X12_lay_89 : DD prog_14_method_82_code 89 (.bipush 16) 2 91 := ⟨by decide +kernel, rfl⟩
theorem d_X12_lay_91 : DD prog_14_method_82_code 91 (.ishl) 1 92 := ⟨by decide +kernel, rfl⟩
theorem d_X12_lay_92 : DD prog_14_method_82_code 92 (.bipush 16) 2 94 := ⟨by decide +kernel, rfl⟩
theorem d_X12_lay_94 : DD prog_14_method_82_code 94 (.ishr) 1 95 := ⟨by decide +kernel, rfl⟩
theorem d_X12_lay_95 : DJ prog_14_method_82_code 95 (fun o => .goto o) 99 3 98 := ⟨by decide +kernel, rfl⟩
theorem d_X12_lay_98 : DD prog_14_method_82_code 98 (.iload_n 3) 1 99 := ⟨by decide +kernel, rfl⟩
theorem d_X12_lay_99 : DD prog_14_method_82_code 99 (.iastore) 1 100 := ⟨by decide +kernel, rfl⟩
theorem d_X12_lay_100 : DD prog_14_method_82_code 100 (.iconst 1) 1 101 := ⟨by decide +kernel, rfl⟩
theorem d_X12_lay_101 : DD prog_14_method_82_code 101 (.ireturn) 1 102 := ⟨by decide +kernel, rfl⟩
theorem d_X12_read_0 : DD prog_14_method_83_code 0 (.iload_n 1) 1 1 := ⟨by decide +kernel, rfl⟩
theorem d_X12_read_1 : DD prog_14_method_83_code 1 (.i2l) 1 2 := ⟨by decide +kernel, rfl⟩
theorem d_X12_read_2 : DD prog_14_method_83_code 2 (.lconst 0) 1 3 := ⟨by decide +kernel, rfl⟩
theorem d_X12_read_3 : DD prog_14_method_83_code 3 (.ldc2_w 204) 3 6 := ⟨by decide +kernel, rfl⟩
theorem d_X12_read_6 : DD prog_14_method_83_code 6 (.invokestatic 75) 3 9 := ⟨by decide +kernel, rfl⟩
theorem d_X12_read_9 : DJ prog_14_method_83_code 9 (fun o => .ifCond .eq o) 37 3 12 := ⟨by decide +kernel, rfl⟩
theorem d_X12_read_12 : DD prog_14_method_83_code 12 (.iload_n 2) 1 13 := ⟨by decide +kernel, rfl⟩
theorem d_X12_read_13 : DD prog_14_method_83_code 13 (.i2l) 1 14 := ⟨by decide +kernel, rfl⟩
theorem d_X12_read_14 : DD prog_14_method_83_code 14 (.lconst 0) 1 15 := ⟨by decide +kernel, rfl⟩
theorem d_X12_read_15 : DD prog_14_method_83_code 15 (.ldc2_w 188) 3 18 := ⟨by decide +kernel, rfl⟩
theorem d_X12_read_18 : DD prog_14_method_83_code 18 (.invokestatic 75) 3 21 := ⟨by decide +kernel, rfl⟩
theorem d_X12_read_21 : DJ prog_14_method_83_code 21 (fun o => .ifCond .eq o) 37 3 24 := ⟨by decide +kernel, rfl⟩
theorem d_X12_read_24 : DD prog_14_method_83_code 24 (.iload 4) 2 26 := ⟨by decide +kernel, rfl⟩
theorem d_X12_read_26 : DD prog_14_method_83_code 26 (.i2l) 1 27 := ⟨by decide +kernel, rfl⟩
theorem d_X12_read_27 : DD prog_14_method_83_code 27 (.lconst 0) 1 28 := ⟨by decide +kernel, rfl⟩
theorem d_X12_read_28 : DD prog_14_method_83_code 28 (.ldc2_w 243) 3 31 := ⟨by decide +kernel, rfl⟩
theorem d_X12_read_31 : DD prog_14_method_83_code 31 (.invokestatic 75) 3 34 := ⟨by decide +kernel, rfl⟩
theorem d_X12_read_34 : DJ prog_14_method_83_code 34 (fun o => .ifCond .ne o) 39 3 37 := ⟨by decide +kernel, rfl⟩
theorem d_X12_read_37 : DD prog_14_method_83_code 37 (.iconst (-1)) 1 38 := ⟨by decide +kernel, rfl⟩
theorem d_X12_read_38 : DD prog_14_method_83_code 38 (.ireturn) 1 39 := ⟨by decide +kernel, rfl⟩
theorem d_X12_read_39 : DD prog_14_method_83_code 39 (.iconst 0) 1 40 := ⟨by decide +kernel, rfl⟩
theorem d_X12_read_40 : DD prog_14_method_83_code 40 (.istore 5) 2 42 := ⟨by decide +kernel, rfl⟩
theorem d_X12_read_42 : DD prog_14_method_83_code 42 (.iconst 0) 1 43 := ⟨by decide +kernel, rfl⟩
theorem d_X12_read_43 : DD prog_14_method_83_code 43 (.istore 6) 2 45 := ⟨by decide +kernel, rfl⟩
theorem d_X12_read_45 : DD prog_14_method_83_code 45 (.iload 6) 2 47 := ⟨by decide +kernel, rfl⟩
theorem d_X12_read_47 : DD prog_14_method_83_code 47 (.iload 4) 2 49 := ⟨by decide +kernel, rfl⟩
theorem d_X12_read_49 : DJ prog_14_method_83_code 49 (fun o => .if_icmp .ge o) 169 3 52 := ⟨by decide +kernel, rfl⟩
theorem d_X12_read_52 : DD prog_14_method_83_code 52 (.iload 5) 2 54 := ⟨by decide +kernel, rfl⟩
theorem d_X12_read_54 : DJ prog_14_method_83_code 54 (fun o => .ifCond .ne o) 169 3 57 := ⟨by decide +kernel, rfl⟩
theorem d_X12_read_57 : DD prog_14_method_83_code 57 (.aload_n 0) 1 58 := ⟨by decide +kernel, rfl⟩
theorem d_X12_read_58 : DD prog_14_method_83_code 58 (.getfield 63) 3 61 := ⟨by decide +kernel, rfl⟩
theorem d_X12_read_61 : DD prog_14_method_83_code 61 (.iload_n 1) 1 62 := ⟨by decide +kernel, rfl⟩
theorem d_X12_read_62 : DD prog_14_method_83_code 62 (.iaload) 1 63 := ⟨by decide +kernel, rfl⟩
theorem d_X12_read_63 : DD prog_14_method_83_code 63 (.bipush (-4)) 2 65 := ⟨by decide +kernel, rfl⟩
theorem d_X12_read_65 : DJ prog_14_method_83_code 65 (fun o => .if_icmp .ne o) 72 3 68 := ⟨by decide +kernel, rfl⟩
theorem d_X12_read_68 : DD prog_14_method_83_code 68 (.iconst 1) 1 69 := ⟨by decide +kernel, rfl⟩
theorem d_X12_read_69 : DJ prog_14_method_83_code 69 (fun o => .goto o) 113 3 72 := ⟨by decide +kernel, rfl⟩
theorem d_X12_read_72 : DD prog_14_method_83_code 72 (.aload_n 0) 1 73 := ⟨by decide +kernel, rfl⟩
theorem d_X12_read_73 : DD prog_14_method_83_code 73 (.getfield 63) 3 76 := ⟨by decide +kernel, rfl⟩
theorem d_X12_read_76 : DD prog_14_method_83_code 76 (.iload_n 1) 1 77 := ⟨by decide +kernel, rfl⟩
theorem d_X12_read_77 : DD prog_14_method_83_code 77 (.iaload) 1 78 := ⟨by decide +kernel, rfl⟩
theorem d_X12_read_78 : DD prog_14_method_83_code 78 (.iload_n 2) 1 79 := ⟨by decide +kernel, rfl⟩
theorem d_X12_read_79 : DJ prog_14_method_83_code 79 (fun o => .if_icmp .eq o) 86 3 82 := ⟨by decide +kernel, rfl⟩
theorem d_X12_read_82 : DD prog_14_method_83_code 82 (.iconst 3) 1 83 := ⟨by decide +kernel, rfl⟩
theorem d_X12_read_83 : DJ prog_14_method_83_code 83 (fun o => .goto o) 113 3 86 := ⟨by decide +kernel, rfl⟩
theorem d_X12_read_86 : DD prog_14_method_83_code 86 (.iload_n 3) 1 87 := ⟨by decide +kernel, rfl⟩
theorem d_X12_read_87 : DD prog_14_method_83_code 87 (.i2l) 1 88 := ⟨by decide +kernel, rfl⟩
theorem d_X12_read_88 : DD prog_14_method_83_code 88 (.iload 6) 2 90 := ⟨by decide +kernel, rfl⟩
theorem d_X12_read_90 : DD prog_14_method_83_code 90 (.i2l) 1 91 := ⟨by decide +kernel, rfl⟩
theorem d_X12_read_91 : DD prog_14_method_83_code 91 (.ladd) 1 92 := ⟨by decide +kernel, rfl⟩
theorem d_X12_read_92 : DD prog_14_method_83_code 92 (.lconst 0) 1 93 := ⟨by decide +kernel, rfl⟩
theorem d_X12_read_93 : DD prog_14_method_83_code 93 (.aload_n 0) 1 94 := ⟨by decide +kernel, rfl⟩
theorem d_X12_read_94 : DD prog_14_method_83_code 94 (.getfield 66) 3 97 := ⟨by decide +kernel, rfl⟩
theorem d_X12_read_97 : DD prog_14_method_83_code 97 (.iload_n 1) 1 98 := ⟨by decide +kernel, rfl⟩
theorem d_X12_read_98 : DD prog_14_method_83_code 98 (.iaload) 1 99 := ⟨by decide +kernel, rfl⟩
theorem d_X12_read_99 : DD prog_14_method_83_code 99 (.iconst 1) 1 100 := ⟨by decide +kernel, rfl⟩
theorem d_X12_read_100 : DD prog_14_method_83_code 100 (.isub) 1 101 := ⟨by decide +kernel, rfl⟩
theorem d_X12_read_101 : DD prog_14_method_83_code 101 (.i2l) 1 102 := ⟨by decide +kernel, rfl⟩
theorem d_X12_read_102 : DD prog_14_method_83_code 102 (.invokestatic 75) 3 105 := ⟨by decide +kernel, rfl⟩
theorem d_X12_read_105 : DJ prog_14_method_83_code 105 (fun o => .ifCond .ne o) 112 3 108 := ⟨by decide +kernel, rfl⟩
theorem d_X12_read_108 : DD prog_14_method_83_code 108 (.iconst 2) 1 109 := ⟨by decide +kernel, rfl⟩
theorem d_X12_read_109 : DJ prog_14_method_83_code 109 (fun o => .goto o) 113 3 112 := ⟨by decide +kernel, rfl⟩
theorem d_X12_read_112 : DD prog_14_method_83_code 112 (.iconst 0) 1 113 := ⟨by decide +kernel, rfl⟩
theorem d_X12_read_113 : DD prog_14_method_83_code 113 (.istore 5) 2 115 := ⟨by decide +kernel, rfl⟩
theorem d_X12_read_115 : DD prog_14_method_83_code 115 (.iload 5) 2 117 := ⟨by decide +kernel, rfl⟩
theorem d_X12_read_117 : DJ prog_14_method_83_code 117 (fun o => .ifCond .ne o) 151 3 120 := ⟨by decide +kernel, rfl⟩
theorem d_X12_read_120 : DD prog_14_method_83_code 120 (.aload_n 0) 1 121 := ⟨by decide +kernel, rfl⟩
theorem d_X12_read_121 : DD prog_14_method_83_code 121 (.getfield 69) 3 124 := ⟨by decide +kernel, rfl⟩
theorem d_X12_read_124 : DD prog_14_method_83_code 124 (.bipush 40) 2 126 := ⟨by decide +kernel, rfl⟩
theorem d_X12_read_126 : DD prog_14_method_83_code 126 (.iload_n 1) 1 127 := ⟨by decide +kernel, rfl⟩
theorem d_X12_read_127 : DD prog_14_method_83_code 127 (.imul) 1 128 := ⟨by decide +kernel, rfl⟩
theorem d_X12_read_128 : DD prog_14_method_83_code 128 (.iload_n 3) 1 129 := ⟨by decide +kernel, rfl⟩
theorem d_X12_read_129 : DD prog_14_method_83_code 129 (.iadd) 1 130 := ⟨by decide +kernel, rfl⟩
theorem d_X12_read_130 : DD prog_14_method_83_code 130 (.iload 6) 2 132 := ⟨by decide +kernel, rfl⟩
theorem d_X12_read_132 : DD prog_14_method_83_code 132 (.iadd) 1 133 := ⟨by decide +kernel, rfl⟩
theorem d_X12_read_133 : DD prog_14_method_83_code 133 (.iaload) 1 134 := ⟨by decide +kernel, rfl⟩
theorem d_X12_read_134 : DD prog_14_method_83_code 134 (.i2l) 1 135 := ⟨by decide +kernel, rfl⟩
theorem d_X12_read_135 : DD prog_14_method_83_code 135 (.lconst 0) 1 136 := ⟨by decide +kernel, rfl⟩
theorem d_X12_read_136 : DD prog_14_method_83_code 136 (.ldc2_w 221) 3 139 := ⟨by decide +kernel, rfl⟩
theorem d_X12_read_139 : DD prog_14_method_83_code 139 (.invokestatic 75) 3 142 := ⟨by decide +kernel, rfl⟩
theorem d_X12_read_142 : DJ prog_14_method_83_code 142 (fun o => .ifCond .ne o) 151 3 145 := ⟨by decide +kernel, rfl⟩
theorem d_X12_read_145 : DD prog_14_method_83_code 145 (.bipush (-20)) 2 147 := ⟨by decide +kernel, rfl⟩
theorem d_X12_read_147 : DD prog_14_method_83_code 147 (.iload 6) 2 149 := ⟨by decide +kernel, rfl⟩
theorem d_X12_read_149 : DD prog_14_method_83_code 149 (.isub) 1 150 := ⟨by decide +kernel, rfl⟩
theorem d_X12_read_150 : DD prog_14_method_83_code 150 (.ireturn) 1 151 := ⟨by decide +kernel, rfl⟩
theorem d_X12_read_151 : DD prog_14_method_83_code 151 (.iload 6) 2 153 := ⟨by decide +kernel, rfl⟩
theorem d_X12_read_153 : DD prog_14_method_83_code 153 (.iload 5) 2 155 := ⟨by decide +kernel, rfl⟩
theorem d_X12_read_155 : DJ prog_14_method_83_code 155 (fun o => .ifCond .ne o) 162 3 158 := ⟨by decide +kernel, rfl⟩
theorem d_X12_read_158 : DD prog_14_method_83_code 158 (.iconst 1) 1 159 := ⟨by decide +kernel, rfl⟩
theorem d_X12_read_159 : DJ prog_14_method_83_code 159 (fun o => .goto o) 163 3 162 := ⟨by decide +kernel, rfl⟩
theorem d_X12_read_162 : DD prog_14_method_83_code 162 (.iconst 0) 1 163 := ⟨by decide +kernel, rfl⟩
theorem d_X12_read_163 : DD prog_14_method_83_code 163 (.iadd) 1 164 := ⟨by decide +kernel, rfl⟩
theorem d_X12_read_164 : DD prog_14_method_83_code 164 (.istore 6) 2 166 := ⟨by decide +kernel, rfl⟩
theorem d_X12_read_166 : DJ prog_14_method_83_code 166 (fun o => .goto o) 45 3 169 := ⟨by decide +kernel, rfl⟩
theorem d_X12_read_169 : DD prog_14_method_83_code 169 (.iconst 0) 1 170 := ⟨by decide +kernel, rfl⟩
theorem d_X12_read_170 : DD prog_14_method_83_code 170 (.istore 7) 2 172 := ⟨by decide +kernel, rfl⟩
theorem d_X12_read_172 : DD prog_14_method_83_code 172 (.iload 7) 2 174 := ⟨by decide +kernel, rfl⟩
theorem d_X12_read_174 : DD prog_14_method_83_code 174 (.iload 6) 2 176 := ⟨by decide +kernel, rfl⟩
theorem d_X12_read_176 : DJ prog_14_method_83_code 176 (fun o => .if_icmp .ge o) 210 3 179 := ⟨by decide +kernel, rfl⟩
theorem d_X12_read_179 : DD prog_14_method_83_code 179 (.aload_n 0) 1 180 := ⟨by decide +kernel, rfl⟩
theorem d_X12_read_180 : DD prog_14_method_83_code 180 (.getfield 7) 3 183 := ⟨by decide +kernel, rfl⟩
theorem d_X12_read_183 : DD prog_14_method_83_code 183 (.sipush 171) 3 186 := ⟨by decide +kernel, rfl⟩
theorem d_X12_read_186 : DD prog_14_method_83_code 186 (.iload 7) 2 188 := ⟨by decide +kernel, rfl⟩
theorem d_X12_read_188 : DD prog_14_method_83_code 188 (.iadd) 1 189 := ⟨by decide +kernel, rfl⟩
theorem d_X12_read_189 : DD prog_14_method_83_code 189 (.aload_n 0) 1 190 := ⟨by decide +kernel, rfl⟩
theorem d_X12_read_190 : DD prog_14_method_83_code 190 (.getfield 69) 3 193 := ⟨by decide +kernel, rfl⟩
theorem d_X12_read_193 : DD prog_14_method_83_code 193 (.bipush 40) 2 195 := ⟨by decide +kernel, rfl⟩
theorem d_X12_read_195 : DD prog_14_method_83_code 195 (.iload_n 1) 1 196 := ⟨by decide +kernel, rfl⟩
theorem d_X12_read_196 : DD prog_14_method_83_code 196 (.imul) 1 197 := ⟨by decide +kernel, rfl⟩
theorem d_X12_read_197 : DD prog_14_method_83_code 197 (.iload_n 3) 1 198 := ⟨by decide +kernel, rfl⟩
theorem d_X12_read_198 : DD prog_14_method_83_code 198 (.iadd) 1 199 := ⟨by decide +kernel, rfl⟩
theorem d_X12_read_199 : DD prog_14_method_83_code 199 (.iload 7) 2 201 := ⟨by decide +kernel, rfl⟩
theorem d_X12_read_201 : DD prog_14_method_83_code 201 (.iadd) 1 202 := ⟨by decide +kernel, rfl⟩
theorem d_X12_read_202 : DD prog_14_method_83_code 202 (.iaload) 1 203 := ⟨by decide +kernel, rfl⟩
theorem d_X12_read_203 : DD prog_14_method_83_code 203 (.iastore) 1 204 := ⟨by decide +kernel, rfl⟩
theorem d_X12_read_204 : DD prog_14_method_83_code 204 (.iinc 7 1) 3 207 := ⟨by decide +kernel, rfl⟩
theorem d_X12_read_207 : DJ prog_14_method_83_code 207 (fun o => .goto o) 172 3 210 := ⟨by decide +kernel, rfl⟩
theorem d_X12_read_210 : DD prog_14_method_83_code 210 (.aload_n 0) 1 211 := ⟨by decide +kernel, rfl⟩
theorem d_X12_read_211 : DD prog_14_method_83_code 211 (.iload 5) 2 213 := ⟨by decide +kernel, rfl⟩
theorem d_X12_read_213 : DD prog_14_method_83_code 213 (.putfield 289) 3 216 := ⟨by decide +kernel, rfl⟩
theorem d_X12_read_216 : DD prog_14_method_83_code 216 (.iload 6) 2 218 := ⟨by decide +kernel, rfl⟩
theorem d_X12_read_218 : DD prog_14_method_83_code 218 (.ireturn) 1 219 := ⟨by decide +kernel, rfl⟩
theorem d_X12_torn_0 : DD prog_14_method_84_code 0 (.aload_n 0) 1 1 := ⟨by decide +kernel, rfl⟩
theorem d_X12_torn_1 : DD prog_14_method_84_code 1 (.getfield 289) 3 4 := ⟨by decide +kernel, rfl⟩
theorem d_X12_torn_4 : DD prog_14_method_84_code 4 (.ireturn) 1 5 := ⟨by decide +kernel, rfl⟩
theorem d_X12_count_0 : DD prog_14_method_85_code 0 (.iconst 0) 1 1 := ⟨by decide +kernel, rfl⟩
theorem d_X12_count_1 : DD prog_14_method_85_code 1 (.istore_n 2) 1 2 := ⟨by decide +kernel, rfl⟩
theorem d_X12_count_2 : DD prog_14_method_85_code 2 (.iconst 0) 1 3 := ⟨by decide +kernel, rfl⟩
theorem d_X12_count_3 : DD prog_14_method_85_code 3 (.istore_n 3) 1 4 := ⟨by decide +kernel, rfl⟩
theorem d_X12_count_4 : DD prog_14_method_85_code 4 (.iload_n 3) 1 5 := ⟨by decide +kernel, rfl⟩
theorem d_X12_count_5 : DD prog_14_method_85_code 5 (.bipush 20) 2 7 := ⟨by decide +kernel, rfl⟩
theorem d_X12_count_7 : DJ prog_14_method_85_code 7 (fun o => .if_icmp .ge o) 28 3 10 := ⟨by decide +kernel, rfl⟩
theorem d_X12_count_10 : DD prog_14_method_85_code 10 (.iload_n 2) 1 11 := ⟨by decide +kernel, rfl⟩
theorem d_X12_count_11 : DD prog_14_method_85_code 11 (.aload_n 0) 1 12 := ⟨by decide +kernel, rfl⟩
theorem d_X12_count_12 : DD prog_14_method_85_code 12 (.getfield 7) 3 15 := ⟨by decide +kernel, rfl⟩
theorem d_X12_count_15 : DD prog_14_method_85_code 15 (.bipush 7) 2 17 := ⟨by decide +kernel, rfl⟩
theorem d_X12_count_17 : DD prog_14_method_85_code 17 (.iload_n 3) 1 18 := ⟨by decide +kernel, rfl⟩
theorem d_X12_count_18 : DD prog_14_method_85_code 18 (.imul) 1 19 := ⟨by decide +kernel, rfl⟩
theorem d_X12_count_19 : DD prog_14_method_85_code 19 (.iaload) 1 20 := ⟨by decide +kernel, rfl⟩
theorem d_X12_count_20 : DD prog_14_method_85_code 20 (.iadd) 1 21 := ⟨by decide +kernel, rfl⟩
theorem d_X12_count_21 : DD prog_14_method_85_code 21 (.istore_n 2) 1 22 := ⟨by decide +kernel, rfl⟩
theorem d_X12_count_22 : DD prog_14_method_85_code 22 (.iinc 3 1) 3 25 := ⟨by decide +kernel, rfl⟩
theorem d_X12_count_25 : DJ prog_14_method_85_code 25 (fun o => .goto o) 4 3 28 := ⟨by decide +kernel, rfl⟩
theorem d_X12_count_28 : DD prog_14_method_85_code 28 (.iload_n 1) 1 29 := ⟨by decide +kernel, rfl⟩
theorem d_X12_count_29 : DD prog_14_method_85_code 29 (.tableswitch 122 0 6 #[43, 45, 54, 59, 64, 94, 99]) 43 72 := ⟨by decide +kernel, rfl⟩
theorem d_X12_count_72 : DD prog_14_method_85_code 72 (.iload_n 2) 1 73 := ⟨by decide +kernel, rfl⟩
theorem d_X12_count_73 : DD prog_14_method_85_code 73 (.ireturn) 1 74 := ⟨by decide +kernel, rfl⟩
theorem d_X12_count_74 : DD prog_14_method_85_code 74 (.aload_n 0) 1 75 := ⟨by decide +kernel, rfl⟩
theorem d_X12_count_75 : DD prog_14_method_85_code 75 (.getfield 7) 3 78 := ⟨by decide +kernel, rfl⟩
theorem d_X12_count_78 : DD prog_14_method_85_code 78 (.sipush 207) 3 81 := ⟨by decide +kernel, rfl⟩
theorem d_X12_count_81 : DD prog_14_method_85_code 81 (.iaload) 1 82 := ⟨by decide +kernel, rfl⟩
theorem d_X12_count_82 : DD prog_14_method_85_code 82 (.ireturn) 1 83 := ⟨by decide +kernel, rfl⟩
theorem d_X12_count_83 : DD prog_14_method_85_code 83 (.aload_n 0) 1 84 := ⟨by decide +kernel, rfl⟩
theorem d_X12_count_84 : DD prog_14_method_85_code 84 (.getfield 170) 3 87 := ⟨by decide +kernel, rfl⟩
theorem d_X12_count_87 : DD prog_14_method_85_code 87 (.ireturn) 1 88 := ⟨by decide +kernel, rfl⟩
theorem d_X12_count_88 : DD prog_14_method_85_code 88 (.aload_n 0) 1 89 := ⟨by decide +kernel, rfl⟩
theorem d_X12_count_89 : DD prog_14_method_85_code 89 (.getfield 173) 3 92 := ⟨by decide +kernel, rfl⟩
theorem d_X12_count_92 : DD prog_14_method_85_code 92 (.ireturn) 1 93 := ⟨by decide +kernel, rfl⟩
theorem d_X12_count_93 : DD prog_14_method_85_code 93 (.aload_n 0) 1 94 := ⟨by decide +kernel, rfl⟩
theorem d_X12_count_94 : DD prog_14_method_85_code 94 (.getfield 59) 3 97 := ⟨by decide +kernel, rfl⟩
theorem d_X12_count_97 : DD prog_14_method_85_code 97 (.iconst 0) 1 98 := ⟨by decide +kernel, rfl⟩
theorem d_X12_count_98 : DD prog_14_method_85_code 98 (.baload) 1 99 := ⟨by decide +kernel, rfl⟩
theorem d_X12_count_99 : DJ prog_14_method_85_code 99 (fun o => .ifCond .eq o) 106 3 102 := ⟨by decide +kernel, rfl⟩
theorem d_X12_count_102 : DD prog_14_method_85_code 102 (.iconst 1) 1 103 := ⟨by decide +kernel, rfl⟩
theorem d_X12_count_103 : DJ prog_14_method_85_code 103 (fun o => .goto o) 107 3 106 := ⟨by decide +kernel, rfl⟩
theorem d_X12_count_106 : DD prog_14_method_85_code 106 (.iconst 0) 1 107 := ⟨by decide +kernel, rfl⟩
theorem d_X12_count_107 : DD prog_14_method_85_code 107 (.aload_n 0) 1 108 := ⟨by decide +kernel, rfl⟩
theorem d_X12_count_108 : DD prog_14_method_85_code 108 (.getfield 59) 3 111 := ⟨by decide +kernel, rfl⟩
theorem d_X12_count_111 : DD prog_14_method_85_code 111 (.iconst 1) 1 112 := ⟨by decide +kernel, rfl⟩
theorem d_X12_count_112 : DD prog_14_method_85_code 112 (.baload) 1 113 := ⟨by decide +kernel, rfl⟩
theorem d_X12_count_113 : DJ prog_14_method_85_code 113 (fun o => .ifCond .eq o) 120 3 116 := ⟨by decide +kernel, rfl⟩
theorem d_X12_count_116 : DD prog_14_method_85_code 116 (.iconst 1) 1 117 := ⟨by decide +kernel, rfl⟩
theorem d_X12_count_117 : DJ prog_14_method_85_code 117 (fun o => .goto o) 121 3 120 := ⟨by decide +kernel, rfl⟩
theorem d_X12_count_120 : DD prog_14_method_85_code 120 (.iconst 0) 1 121 := ⟨by decide +kernel, rfl⟩
theorem d_X12_count_121 : DD prog_14_method_85_code 121 (.iadd) 1 122 := ⟨by decide +kernel, rfl⟩
theorem d_X12_count_122 : DD prog_14_method_85_code 122 (.ireturn) 1 123 := ⟨by decide +kernel, rfl⟩
theorem d_X12_count_123 : DD prog_14_method_85_code 123 (.aload_n 0) 1 124 := ⟨by decide +kernel, rfl⟩
theorem d_X12_count_124 : DD prog_14_method_85_code 124 (.getfield 72) 3 127 := ⟨by decide +kernel, rfl⟩
theorem d_X12_count_127 : DD prog_14_method_85_code 127 (.ireturn) 1 128 := ⟨by decide +kernel, rfl⟩
theorem d_X12_count_128 : DD prog_14_method_85_code 128 (.aload_n 0) 1 129 := ⟨by decide +kernel, rfl⟩
theorem d_X12_count_129 : DD prog_14_method_85_code 129 (.getfield 63) 3 132 := ⟨by decide +kernel, rfl⟩
theorem d_X12_count_132 : DD prog_14_method_85_code 132 (.iconst 0) 1 133 := ⟨by decide +kernel, rfl⟩
theorem d_X12_count_133 : DD prog_14_method_85_code 133 (.iaload) 1 134 := ⟨by decide +kernel, rfl⟩
theorem d_X12_count_134 : DD prog_14_method_85_code 134 (.bipush (-4)) 2 136 := ⟨by decide +kernel, rfl⟩
theorem d_X12_count_136 : DJ prog_14_method_85_code 136 (fun o => .if_icmp .ne o) 144 3 139 := ⟨by decide +kernel, rfl⟩
theorem d_X12_count_139 : DD prog_14_method_85_code 139 (.bipush (-4)) 2 141 := ⟨by decide +kernel, rfl⟩
theorem d_X12_count_141 : DJ prog_14_method_85_code 141 (fun o => .goto o) 150 3 144 := ⟨by decide +kernel, rfl⟩
theorem d_X12_count_144 : DD prog_14_method_85_code 144 (.aload_n 0) 1 145 := ⟨by decide +kernel, rfl⟩
theorem d_X12_count_145 : DD prog_14_method_85_code 145 (.getfield 66) 3 148 := ⟨by decide +kernel, rfl⟩
theorem d_X12_count_148 : DD prog_14_method_85_code 148 (.iconst 0) 1 149 := ⟨by decide +kernel, rfl⟩
theorem d_X12_count_149 : DD prog_14_method_85_code 149 (.iaload) 1 150 := ⟨by decide +kernel, rfl⟩
theorem d_X12_count_150 : DD prog_14_method_85_code 150 (.ireturn) 1 151 := ⟨by decide +kernel, rfl⟩
theorem d_X12_count_151 : DD prog_14_method_85_code 151 (.iconst (-1)) 1 152 := ⟨by decide +kernel, rfl⟩
theorem d_X12_count_152 : DD prog_14_method_85_code 152 (.ireturn) 1 153 := ⟨by decide +kernel, rfl⟩
def f_X12_gap_17 (M : Mm) : Option (Int32 × Mm) :=
some ((-1 : Int32), M)
def f_X12_gap_97 (k29 : Mm → Int32 → Int32 → Int32 → Option (Int32 × Mm)) (M : Mm) (x1 : Int32) (x2 : Int32) (x3 : Int32) (x4 : Int32) (x5 : Int32) : Option (Int32 × Mm) :=
k29 M x3 x4 (x5 + (1 : Int32))
def f_X12_gap_96 (k29 : Mm → Int32 → Int32 → Int32 → Option (Int32 × Mm)) (M : Mm) (x1 : Int32) (x2 : Int32) (x4 : Int32) (x5 : Int32) (s_0 : Int32) : Option (Int32 × Mm) :=
f_X12_gap_97 k29 M x1 x2 s_0 x4 x5
def f_X12_gap_82 (k29 : Mm → Int32 → Int32 → Int32 → Option (Int32 × Mm)) (M : Mm) (x1 : Int32) (x2 : Int32) (x3 : Int32) (x5 : Int32) (x6 : Int32) (s_0 : Int32) : Option (Int32 × Mm) :=
if x3 ≤ x6 then
(f_X12_gap_96 k29 M x1 x2 s_0 x5 x3)
else
(f_X12_gap_96 k29 M x1 x2 s_0 x5 x6)
def f_X12_gap_80 (k29 : Mm → Int32 → Int32 → Int32 → Option (Int32 × Mm)) (M : Mm) (x1 : Int32) (x2 : Int32) (x3 : Int32) (x4 : Int32) (x5 : Int32) (x6 : Int32) : Option (Int32 × Mm) :=
f_X12_gap_82 k29 M x1 x2 x3 x5 x6 x4
def f_X12_gap_125 (M : Mm) (s_0 : Int32) : Option (Int32 × Mm) :=
some (s_0, M)
def f_X12_gap_103 (M : Mm) (x2 : Int32) (x3 : Int32) (x4 : Int32) : Option (Int32 × Mm) :=
if x4 = (-4 : Int32) then
(f_X12_gap_125 M (-4 : Int32))
else
(if x2 = 0 then
(f_X12_gap_125 M x3)
else
(f_X12_gap_125 M x4))
def b_X12_gap_29 (k29 : Mm → Int32 → Int32 → Int32 → Option (Int32 × Mm)) (x1 : Int32) (x2 : Int32) (M : Mm) (x3 : Int32) (x4 : Int32) (x5 : Int32) : Option (Int32 × Mm) :=
if (M.1 0 1) ≤ x5 then
(f_X12_gap_103 M x2 x3 x4)
else
(bd (f_X12_counts M (0 : Int32) x1 x5) fun p3 =>
if p3 = 0 then
(f_X12_gap_97 k29 M x1 x2 x3 x4 x5)
else
(bd (f_X12_holdsTo M x1 x5 (0 : Int32) (0 : Int32)) fun p6 =>
nm ((p6.1 + (1 : Int32))) fun v7 =>
if x3 ≤ v7 then
(f_X12_gap_80 k29 p6.2 x1 x2 x3 x4 x5 v7)
else
(if (12 : Int32) < v7 then
(f_X12_gap_80 k29 p6.2 x1 x2 x3 x4 x5 v7)
else
(f_X12_gap_82 k29 p6.2 x1 x2 x3 x5 v7 x5))))
def f_X12_gap_29 (x1 : Int32) (x2 : Int32) : Nat → Mm → Int32 → Int32 → Int32 → Option (Int32 × Mm)
  | 0, _, _, _, _ => none
  | n + 1, M, x3, x4, x5 => b_X12_gap_29 (fun M x3 x4 x5 => f_X12_gap_29 x1 x2 n M x3 x4 x5) x1 x2 M x3 x4 x5
def f_X12_gap (M : Mm) (x1 : Int32) (x2 : Int32) : Option (Int32 × Mm) :=
bd (f_X12_isSide x1) fun p2 =>
if p2 = 0 then
(f_X12_gap_17 M)
else
(bd (f_X12_in x2.toInt64 (0 : Int64) (1 : Int64)) fun p5 =>
if p5 = 0 then
(f_X12_gap_17 M)
else
(f_X12_gap_29 x1 x2 FU M (13 : Int32) (-4 : Int32) (0 : Int32)))
def f_X12_layHeat_111 (k27 : Mm → Int32 → Option Mm) (k37 : Mm → Int32 → Option Mm) (k52 : Int32 → Int32 → Option Mm) (M : Mm) (x1 : Int32) (x2 : Int32) (x3 : Int32) (x4 : Int32) : Option Mm :=
k52 x3 (x4 + (1 : Int32))
def f_X12_layHeat_110 (k27 : Mm → Int32 → Option Mm) (k37 : Mm → Int32 → Option Mm) (k52 : Int32 → Int32 → Option Mm) (M : Mm) (x1 : Int32) (x2 : Int32) (x4 : Int32) (s_0 : Int32) : Option Mm :=
f_X12_layHeat_111 k27 k37 k52 M x1 x2 s_0 x4
def f_X12_layHeat_104 (k27 : Mm → Int32 → Option Mm) (k37 : Mm → Int32 → Option Mm) (k52 : Int32 → Int32 → Option Mm) (M : Mm) (x1 : Int32) (x2 : Int32) (x4 : Int32) (x5 : Int32) : Option Mm :=
f_X12_layHeat_110 k27 k37 k52 M x1 x2 x4 x5
def f_X12_layHeat_117 (k27 : Mm → Int32 → Option Mm) (k37 : Mm → Int32 → Option Mm) (M : Mm) (x1 : Int32) (x2 : Int32) (x3 : Int32) : Option Mm :=
ck (inn (((10 : Int32) * x1) + x2) 130) <|
wr (wI M 13 (((10 : Int32) * x1) + x2).toNatClampNeg x3) fun M1 =>
k37 M1 (x2 + (1 : Int32))
def b_X12_layHeat_52 (k27 : Mm → Int32 → Option Mm) (k37 : Mm → Int32 → Option Mm) (k52 : Int32 → Int32 → Option Mm) (M : Mm) (x1 : Int32) (x2 : Int32) (x3 : Int32) (x4 : Int32) : Option Mm :=
if (x2 + (1 : Int32)) < x4 then
(f_X12_layHeat_117 k27 k37 M x1 x2 x3)
else
(bd (f_X12_isFurlong M x4) fun p3 =>
if p3 = 0 then
(f_X12_layHeat_111 k27 k37 k52 M x1 x2 x3 x4)
else
(bd (f_X12_heat M x4 x1 (1 : Int32)) fun p6 =>
ck (inn (((10 : Int32) * (x1 + (1 : Int32))) + x4) 130) <|
nm ((p6 + (M.1 13 (((10 : Int32) * (x1 + (1 : Int32))) + x4).toNatClampNeg))) fun v8 =>
if x3 < 0 then
(f_X12_layHeat_104 k27 k37 k52 M x1 x2 x4 v8)
else
(if x3 ≤ v8 then
(f_X12_layHeat_110 k27 k37 k52 M x1 x2 x4 x3)
else
(f_X12_layHeat_104 k27 k37 k52 M x1 x2 x4 v8))))
def f_X12_layHeat_52 (k27 : Mm → Int32 → Option Mm) (k37 : Mm → Int32 → Option Mm) (M : Mm) (x1 : Int32) (x2 : Int32) : Nat → Int32 → Int32 → Option Mm
  | 0, _, _ => none
  | n + 1, x3, x4 => b_X12_layHeat_52 k27 k37 (fun x3 x4 => f_X12_layHeat_52 k27 k37 M x1 x2 n x3 x4) M x1 x2 x3 x4
def f_X12_layHeat_135 (k27 : Mm → Int32 → Option Mm) (M : Mm) (x1 : Int32) : Option Mm :=
k27 M (x1 + (-1 : Int32))
def b_X12_layHeat_37 (k27 : Mm → Int32 → Option Mm) (k37 : Mm → Int32 → Option Mm) (x1 : Int32) (M : Mm) (x2 : Int32) : Option Mm :=
if (M.1 0 1) ≤ x2 then
(f_X12_layHeat_135 k27 M x1)
else
(nm ((x2 - (1 : Int32))) fun v2 =>
f_X12_layHeat_52 k27 k37 M x1 x2 FU (-1 : Int32) v2)
def f_X12_layHeat_37 (k27 : Mm → Int32 → Option Mm) (x1 : Int32) : Nat → Mm → Int32 → Option Mm
  | 0, _, _ => none
  | n + 1, M, x2 => b_X12_layHeat_37 k27 (fun M x2 => f_X12_layHeat_37 k27 x1 n M x2) x1 M x2
def b_X12_layHeat_27 (k27 : Mm → Int32 → Option Mm) (M : Mm) (x1 : Int32) : Option Mm :=
bd (f_X12_hourNow M) fun p2 =>
if x1 < p2 then
(some M)
else
(f_X12_layHeat_37 k27 x1 FU M (0 : Int32))
def f_X12_layHeat_27 : Nat → Mm → Int32 → Option Mm
  | 0, _, _ => none
  | n + 1, M, x1 => b_X12_layHeat_27 (fun M x1 => f_X12_layHeat_27 n M x1) M x1
def f_X12_layHeat_24 (M : Mm) : Option Mm :=
f_X12_layHeat_27 FU M (11 : Int32)
def b_X12_layHeat_2 (k2 : Mm → Int32 → Option Mm) (M : Mm) (x1 : Int32) : Option Mm :=
if (10 : Int32) ≤ x1 then
(f_X12_layHeat_24 M)
else
(ck (inn ((120 : Int32) + x1) 130) <|
wr (wI M 13 ((120 : Int32) + x1).toNatClampNeg (0 : Int32)) fun M2 =>
k2 M2 (x1 + (1 : Int32)))
def f_X12_layHeat_2 : Nat → Mm → Int32 → Option Mm
  | 0, _, _ => none
  | n + 1, M, x1 => b_X12_layHeat_2 (fun M x1 => f_X12_layHeat_2 n M x1) M x1
def f_X12_layHeat (M : Mm) : Option Mm :=
f_X12_layHeat_2 FU M (0 : Int32)
def f_X12_lead_52 (M : Mm) : Option (Int32 × Mm) :=
some ((-1 : Int32), M)
def f_X12_lead_73 (M : Mm) (s_0 : Int32) : Option (Int32 × Mm) :=
some (s_0, M)
def f_X12_lead_112 (M : Mm) (s_0 : Int32) : Option (Int32 × Mm) :=
some (s_0, M)
def f_X12_lead_206 (k135 : Int32 → Int32 → Int32 → Option (Int32 × Mm)) (M : Mm) (x3 : Int32) (x4 : Int32) (x5 : Int32) (x7 : Int32) (x8 : Int32) : Option (Int32 × Mm) :=
bd (f_X12_heat M x8 x7 (1 : Int32)) fun p2 =>
nm ((x4 - p2)) fun v3 =>
k135 v3 x8 (x7 + (1 : Int32))
def b_X12_lead_165 (k135 : Int32 → Int32 → Int32 → Option (Int32 × Mm)) (k165 : Int32 → Option (Int32 × Mm)) (M : Mm) (x3 : Int32) (x4 : Int32) (x5 : Int32) (x7 : Int32) (x8 : Int32) : Option (Int32 × Mm) :=
if x5 = 0 then
(bd (f_X12_heat M x8 x7 (1 : Int32)) fun p3 =>
ck (inn (((10 : Int32) * (x7 + (1 : Int32))) + x8) 130) <|
if (p3 + (M.1 13 (((10 : Int32) * (x7 + (1 : Int32))) + x8).toNatClampNeg)) = x4 then
(f_X12_lead_206 k135 M x3 x4 x5 x7 x8)
else
(k165 (x8 + (1 : Int32))))
else
(f_X12_lead_206 k135 M x3 x4 x5 x7 x8)
def f_X12_lead_165 (k135 : Int32 → Int32 → Int32 → Option (Int32 × Mm)) (M : Mm) (x3 : Int32) (x4 : Int32) (x5 : Int32) (x7 : Int32) : Nat → Int32 → Option (Int32 × Mm)
  | 0, _ => none
  | n + 1, x8 => b_X12_lead_165 k135 (fun x8 => f_X12_lead_165 k135 M x3 x4 x5 x7 n x8) M x3 x4 x5 x7 x8
def f_X12_lead_163 (k135 : Int32 → Int32 → Int32 → Option (Int32 × Mm)) (M : Mm) (x3 : Int32) (x4 : Int32) (x5 : Int32) (x7 : Int32) (s_0 : Int32) : Option (Int32 × Mm) :=
f_X12_lead_165 k135 M x3 x4 x5 x7 FU s_0
def b_X12_lead_135 (k135 : Int32 → Int32 → Int32 → Option (Int32 × Mm)) (M : Mm) (x3 : Int32) (x5 : Int32) (x4 : Int32) (x6 : Int32) (x7 : Int32) : Option (Int32 × Mm) :=
bd (f_X12_hourNow M) fun p2 =>
if ((p2 + x3) - (10 : Int32)) < x7 then
(some (x6, M))
else
(if x6 ≤ 0 then
(f_X12_lead_163 k135 M x3 x4 x5 x7 x6)
else
(f_X12_lead_163 k135 M x3 x4 x5 x7 (x6 - (1 : Int32))))
def f_X12_lead_135 (M : Mm) (x3 : Int32) (x5 : Int32) : Nat → Int32 → Int32 → Int32 → Option (Int32 × Mm)
  | 0, _, _, _ => none
  | n + 1, x4, x6, x7 => b_X12_lead_135 (fun x4 x6 x7 => f_X12_lead_135 M x3 x5 n x4 x6 x7) M x3 x5 x4 x6 x7
def f_X12_lead_124 (M : Mm) (x1 : Int32) (x3 : Int32) (x4 : Int32) (s_0 : Int32) : Option (Int32 × Mm) :=
bd (f_X12_hourNow M) fun p2 =>
f_X12_lead_135 M x3 s_0 FU x4 x1 p2
def f_X12_lead_54 (M : Mm) (x1 : Int32) (x2 : Int32) (x3 : Int32) : Option (Int32 × Mm) :=
bd (f_X12_hourNow M) fun p2 =>
if p2 = (12 : Int32) then
(if x3 = 0 then
(f_X12_lead_73 M (-2 : Int32))
else
(f_X12_lead_73 M (-1 : Int32)))
else
(bd (f_X12_layHeat M) fun p5 =>
bd (f_X12_hourNow p5) fun p7 =>
ck (inn (((10 : Int32) * p7) + x1) 130) <|
nm ((p5.1 13 (((10 : Int32) * p7) + x1).toNatClampNeg)) fun v9 =>
if x3 = 0 then
(if x2 ≤ v9 then
(f_X12_lead_112 p5 (0 : Int32))
else
(f_X12_lead_112 p5 (x2 - v9)))
else
(if v9 < x2 then
(f_X12_lead_124 p5 x1 x3 v9 (0 : Int32))
else
(f_X12_lead_124 p5 x1 x3 v9 (1 : Int32))))
def f_X12_lead (M : Mm) (x1 : Int32) (x2 : Int32) (x3 : Int32) : Option (Int32 × Mm) :=
bd (f_X12_isFurlong M x1) fun p2 =>
if p2 = 0 then
(f_X12_lead_52 M)
else
(bd (f_X12_in x2.toInt64 (1 : Int64) (99 : Int64)) fun p5 =>
if p5 = 0 then
(f_X12_lead_52 M)
else
(if x3 = 0 then
(f_X12_lead_54 M x1 x2 x3)
else
(bd (f_X12_hourNow M) fun p9 =>
bd (f_X12_in x3.toInt64 (10 : Int64) (((21 : Int32) - p9).toInt64)) fun p11 =>
if p11 = 0 then
(bd (f_X12_hourNow M) fun p14 =>
if (12 : Int32) ≤ p14 then
(f_X12_lead_54 M x1 x2 x3)
else
(f_X12_lead_52 M))
else
(f_X12_lead_54 M x1 x2 x3))))
def f_X12_felt (M : Mm) (x1 : Int32) : Option (Int32 × Mm) :=
bd (f_X12_in x1.toInt64 (0 : Int64) (99 : Int64)) fun p2 =>
if p2 = 0 then
(some ((-1 : Int32), M))
else
(if (M.1 0 30) = (M.1 0 1) then
(some ((-3 : Int32), M))
else
(ck (inn (M.1 0 30) 10) <|
wr (wI M 14 (M.1 0 30).toNatClampNeg x1) fun M5 =>
wr (wI M5 0 30 ((M5.1 0 30) + (1 : Int32))) fun M8 =>
some ((M8.1 0 30), M8)))
def f_X12_forget (M : Mm) : Option (Int32 × Mm) :=
nm ((M.1 0 30)) fun v1 =>
wr (wI M 0 30 (0 : Int32)) fun M3 =>
some (v1, M3)
def f_X12_areFelt_51 (k6 : Int32 → Int32 → Option Int32) (M : Mm) (x1 : Int32) (x2 : Int32) (x3 : Int32) (x4 : Int32) (x6 : Int32) (s_0 : Int32) : Option Int32 :=
k6 s_0 (x6 + (1 : Int32))
def f_X12_areFelt_59 (M : Mm) (x5 : Int32) : Option Int32 :=
ck (isB x5) <|
some x5
def b_X12_areFelt_6 (k6 : Int32 → Int32 → Option Int32) (M : Mm) (x1 : Int32) (x2 : Int32) (x3 : Int32) (x4 : Int32) (x5 : Int32) (x6 : Int32) : Option Int32 :=
if (M.1 0 30) ≤ x6 then
(f_X12_areFelt_59 M x5)
else
(if x5 = 0 then
(f_X12_areFelt_59 M x5)
else
(ck (inn x6 10) <|
bd (f_X12_warms x2 x1 x6) fun p5 =>
bd (f_X12_warms x4 x3 x6) fun p7 =>
if (M.1 14 x6.toNatClampNeg) = (p5 + p7) then
(f_X12_areFelt_51 k6 M x1 x2 x3 x4 x6 (1 : Int32))
else
(f_X12_areFelt_51 k6 M x1 x2 x3 x4 x6 (0 : Int32))))
def f_X12_areFelt_6 (M : Mm) (x1 : Int32) (x2 : Int32) (x3 : Int32) (x4 : Int32) : Nat → Int32 → Int32 → Option Int32
  | 0, _, _ => none
  | n + 1, x5, x6 => b_X12_areFelt_6 (fun x5 x6 => f_X12_areFelt_6 M x1 x2 x3 x4 n x5 x6) M x1 x2 x3 x4 x5 x6
def f_X12_areFelt (M : Mm) (x1 : Int32) (x2 : Int32) (x3 : Int32) (x4 : Int32) : Option Int32 :=
f_X12_areFelt_6 M x1 x2 x3 x4 FU (1 : Int32) (0 : Int32)
def f_X12_spy_95 (k36 : Int32 → Int32 → Int32 → Int32 → Option Int32) (k48 : Int32 → Int32 → Int32 → Int32 → Option Int32) (M : Mm) (x1 : Int32) (x2 : Int32) (x3 : Int32) (x4 : Int32) (x5 : Int32) (x6 : Int32) : Option Int32 :=
k48 x2 x3 x4 (x6 + (1 : Int32))
def f_X12_spy_90 (k36 : Int32 → Int32 → Int32 → Int32 → Option Int32) (k48 : Int32 → Int32 → Int32 → Int32 → Option Int32) (M : Mm) (x1 : Int32) (x2 : Int32) (x3 : Int32) (x5 : Int32) (x6 : Int32) (s_0 : Int32) : Option Int32 :=
f_X12_spy_95 k36 k48 M x1 (x2 + (1 : Int32)) x3 s_0 x5 x6
def f_X12_spy_78 (k36 : Int32 → Int32 → Int32 → Int32 → Option Int32) (k48 : Int32 → Int32 → Int32 → Int32 → Option Int32) (M : Mm) (x1 : Int32) (x2 : Int32) (x4 : Int32) (x5 : Int32) (x6 : Int32) (s_0 : Int32) : Option Int32 :=
if x2 = 0 then
(f_X12_spy_90 k36 k48 M x1 x2 s_0 x5 x6 x6)
else
(f_X12_spy_90 k36 k48 M x1 x2 s_0 x5 x6 x4)
def f_X12_spy_101 (k36 : Int32 → Int32 → Int32 → Int32 → Option Int32) (M : Mm) (x1 : Int32) (x2 : Int32) (x3 : Int32) (x4 : Int32) (x5 : Int32) : Option Int32 :=
k36 x2 x3 x4 (x5 + (1 : Int32))
def b_X12_spy_48 (k36 : Int32 → Int32 → Int32 → Int32 → Option Int32) (k48 : Int32 → Int32 → Int32 → Int32 → Option Int32) (M : Mm) (x1 : Int32) (x5 : Int32) (x2 : Int32) (x3 : Int32) (x4 : Int32) (x6 : Int32) : Option Int32 :=
if (20 : Int32) < x6 then
(f_X12_spy_101 k36 M x1 x2 x3 x4 x5)
else
(bd (f_X12_areFelt M x5 x6 (0 : Int32) (0 : Int32)) fun p3 =>
if p3 = 0 then
(f_X12_spy_95 k36 k48 M x1 x2 x3 x4 x5 x6)
else
(if x2 = 0 then
(f_X12_spy_78 k36 k48 M x1 x2 x4 x5 x6 x5)
else
(f_X12_spy_78 k36 k48 M x1 x2 x4 x5 x6 x3)))
def f_X12_spy_48 (k36 : Int32 → Int32 → Int32 → Int32 → Option Int32) (M : Mm) (x1 : Int32) (x5 : Int32) : Nat → Int32 → Int32 → Int32 → Int32 → Option Int32
  | 0, _, _, _, _ => none
  | n + 1, x2, x3, x4, x6 => b_X12_spy_48 k36 (fun x2 x3 x4 x6 => f_X12_spy_48 k36 M x1 x5 n x2 x3 x4 x6) M x1 x5 x2 x3 x4 x6
def f_X12_spy_126 (M : Mm) (s_0 : Int32) : Option Int32 :=
some s_0
def f_X12_spy_107 (M : Mm) (x1 : Int32) (x2 : Int32) (x3 : Int32) (x4 : Int32) : Option Int32 :=
if x1 = 0 then
(f_X12_spy_126 M x2)
else
(if x1 = (1 : Int32) then
(f_X12_spy_126 M x3)
else
(f_X12_spy_126 M x4))
def b_X12_spy_36 (k36 : Int32 → Int32 → Int32 → Int32 → Option Int32) (M : Mm) (x1 : Int32) (x2 : Int32) (x3 : Int32) (x4 : Int32) (x5 : Int32) : Option Int32 :=
if (M.1 0 1) ≤ x5 then
(f_X12_spy_107 M x1 x2 x3 x4)
else
(f_X12_spy_48 k36 M x1 x5 FU x2 x3 x4 (1 : Int32))
def f_X12_spy_36 (M : Mm) (x1 : Int32) : Nat → Int32 → Int32 → Int32 → Int32 → Option Int32
  | 0, _, _, _, _ => none
  | n + 1, x2, x3, x4, x5 => b_X12_spy_36 (fun x2 x3 x4 x5 => f_X12_spy_36 M x1 n x2 x3 x4 x5) M x1 x2 x3 x4 x5
def f_X12_spy (M : Mm) (x1 : Int32) : Option Int32 :=
bd (f_X12_in x1.toInt64 (0 : Int64) (2 : Int64)) fun p2 =>
if p2 = 0 then
(some (-1 : Int32))
else
(if (M.1 0 30) = 0 then
(some (-2 : Int32))
else
(f_X12_spy_36 M x1 FU (0 : Int32) (-4 : Int32) (-4 : Int32) (0 : Int32)))
def f_X12_spies_145 (k36 : Int32 → Int32 → Int32 → Int32 → Option Int32) (k51 : Int32 → Int32 → Int32 → Int32 → Option Int32) (k63 : Int32 → Int32 → Int32 → Int32 → Option Int32) (M : Mm) (x1 : Int32) (x2 : Int32) (x3 : Int32) (x4 : Int32) (x5 : Int32) (x6 : Int32) (x7 : Int32) : Option Int32 :=
k63 x2 x3 x4 (x7 + (1 : Int32))
def f_X12_spies_140 (k36 : Int32 → Int32 → Int32 → Int32 → Option Int32) (k51 : Int32 → Int32 → Int32 → Int32 → Option Int32) (k63 : Int32 → Int32 → Int32 → Int32 → Option Int32) (M : Mm) (x1 : Int32) (x2 : Int32) (x3 : Int32) (x5 : Int32) (x6 : Int32) (x7 : Int32) (s_0 : Int32) : Option Int32 :=
f_X12_spies_145 k36 k51 k63 M x1 (x2 + (1 : Int32)) x3 s_0 x5 x6 x7
def f_X12_spies_112 (k36 : Int32 → Int32 → Int32 → Int32 → Option Int32) (k51 : Int32 → Int32 → Int32 → Int32 → Option Int32) (k63 : Int32 → Int32 → Int32 → Int32 → Option Int32) (M : Mm) (x1 : Int32) (x2 : Int32) (x4 : Int32) (x5 : Int32) (x6 : Int32) (x7 : Int32) (s_0 : Int32) : Option Int32 :=
if x2 = 0 then
(f_X12_spies_140 k36 k51 k63 M x1 x2 s_0 x5 x6 x7 ((((100 : Int32) * ((1 : Int32) + (x7 / (20 : Int32)))) + (1 : Int32)) + (x7 - x7 / (20 : Int32) * (20 : Int32))))
else
(f_X12_spies_140 k36 k51 k63 M x1 x2 s_0 x5 x6 x7 x4)
def f_X12_spies_151 (k36 : Int32 → Int32 → Int32 → Int32 → Option Int32) (k51 : Int32 → Int32 → Int32 → Int32 → Option Int32) (M : Mm) (x1 : Int32) (x2 : Int32) (x3 : Int32) (x4 : Int32) (x5 : Int32) (x6 : Int32) : Option Int32 :=
k51 x2 x3 x4 (x6 + (1 : Int32))
def b_X12_spies_63 (k36 : Int32 → Int32 → Int32 → Int32 → Option Int32) (k51 : Int32 → Int32 → Int32 → Int32 → Option Int32) (k63 : Int32 → Int32 → Int32 → Int32 → Option Int32) (M : Mm) (x1 : Int32) (x5 : Int32) (x6 : Int32) (x2 : Int32) (x3 : Int32) (x4 : Int32) (x7 : Int32) : Option Int32 :=
if (400 : Int32) ≤ x7 then
(f_X12_spies_151 k36 k51 M x1 x2 x3 x4 x5 x6)
else
(bd (f_X12_areFelt M x5 ((1 : Int32) + (x7 / (20 : Int32))) x6 ((1 : Int32) + (x7 - x7 / (20 : Int32) * (20 : Int32)))) fun p3 =>
if p3 = 0 then
(f_X12_spies_145 k36 k51 k63 M x1 x2 x3 x4 x5 x6 x7)
else
(if x2 = 0 then
(f_X12_spies_112 k36 k51 k63 M x1 x2 x4 x5 x6 x7 (((10 : Int32) * x5) + x6))
else
(f_X12_spies_112 k36 k51 k63 M x1 x2 x4 x5 x6 x7 x3)))
def f_X12_spies_63 (k36 : Int32 → Int32 → Int32 → Int32 → Option Int32) (k51 : Int32 → Int32 → Int32 → Int32 → Option Int32) (M : Mm) (x1 : Int32) (x5 : Int32) (x6 : Int32) : Nat → Int32 → Int32 → Int32 → Int32 → Option Int32
  | 0, _, _, _, _ => none
  | n + 1, x2, x3, x4, x7 => b_X12_spies_63 k36 k51 (fun x2 x3 x4 x7 => f_X12_spies_63 k36 k51 M x1 x5 x6 n x2 x3 x4 x7) M x1 x5 x6 x2 x3 x4 x7
def f_X12_spies_157 (k36 : Int32 → Int32 → Int32 → Int32 → Option Int32) (M : Mm) (x1 : Int32) (x2 : Int32) (x3 : Int32) (x4 : Int32) (x5 : Int32) : Option Int32 :=
k36 x2 x3 x4 (x5 + (1 : Int32))
def b_X12_spies_51 (k36 : Int32 → Int32 → Int32 → Int32 → Option Int32) (k51 : Int32 → Int32 → Int32 → Int32 → Option Int32) (M : Mm) (x1 : Int32) (x5 : Int32) (x2 : Int32) (x3 : Int32) (x4 : Int32) (x6 : Int32) : Option Int32 :=
if (M.1 0 1) ≤ x6 then
(f_X12_spies_157 k36 M x1 x2 x3 x4 x5)
else
(f_X12_spies_63 k36 k51 M x1 x5 x6 FU x2 x3 x4 (0 : Int32))
def f_X12_spies_51 (k36 : Int32 → Int32 → Int32 → Int32 → Option Int32) (M : Mm) (x1 : Int32) (x5 : Int32) : Nat → Int32 → Int32 → Int32 → Int32 → Option Int32
  | 0, _, _, _, _ => none
  | n + 1, x2, x3, x4, x6 => b_X12_spies_51 k36 (fun x2 x3 x4 x6 => f_X12_spies_51 k36 M x1 x5 n x2 x3 x4 x6) M x1 x5 x2 x3 x4 x6
def f_X12_spies_182 (M : Mm) (s_0 : Int32) : Option Int32 :=
some s_0
def f_X12_spies_163 (M : Mm) (x1 : Int32) (x2 : Int32) (x3 : Int32) (x4 : Int32) : Option Int32 :=
if x1 = 0 then
(f_X12_spies_182 M x2)
else
(if x1 = (1 : Int32) then
(f_X12_spies_182 M x3)
else
(f_X12_spies_182 M x4))
def b_X12_spies_36 (k36 : Int32 → Int32 → Int32 → Int32 → Option Int32) (M : Mm) (x1 : Int32) (x2 : Int32) (x3 : Int32) (x4 : Int32) (x5 : Int32) : Option Int32 :=
if (M.1 0 1) ≤ x5 then
(f_X12_spies_163 M x1 x2 x3 x4)
else
(nm ((x5 + (1 : Int32))) fun v2 =>
f_X12_spies_51 k36 M x1 x5 FU x2 x3 x4 v2)
def f_X12_spies_36 (M : Mm) (x1 : Int32) : Nat → Int32 → Int32 → Int32 → Int32 → Option Int32
  | 0, _, _, _, _ => none
  | n + 1, x2, x3, x4, x5 => b_X12_spies_36 (fun x2 x3 x4 x5 => f_X12_spies_36 M x1 n x2 x3 x4 x5) M x1 x2 x3 x4 x5
def f_X12_spies (M : Mm) (x1 : Int32) : Option Int32 :=
bd (f_X12_in x1.toInt64 (0 : Int64) (2 : Int64)) fun p2 =>
if p2 = 0 then
(some (-1 : Int32))
else
(if (M.1 0 30) = 0 then
(some (-2 : Int32))
else
(f_X12_spies_36 M x1 FU (0 : Int32) (-4 : Int32) (-4 : Int32) (0 : Int32)))
def f_X12_lowest_41 (j5 : Int64) (t_0 : Int64) : Option Int64 :=
ck (¬ j5 = 0) <|
some (t_0 / j5)
def f_X12_lowest_31 (j0 : Int64) (j2 : Int64) (x4 : Int32) (j5 : Int64) : Option Int64 :=
if x4 = 0 then
(f_X12_lowest_41 j5 j0)
else
(f_X12_lowest_41 j5 j2)
def b_X12_lowest_6 (k6 : Int64 → Int64 → Option Int64) (j0 : Int64) (j2 : Int64) (x4 : Int32) (j5 : Int64) (j7 : Int64) : Option Int64 :=
if (lg_cmp j7 (0 : Int64)) = 0 then
(f_X12_lowest_31 j0 j2 x4 j5)
else
(ck (¬ j7 = 0) <|
nm ((j5 - j5 / j7 * j7)) fun v3 =>
k6 j7 v3)
def f_X12_lowest_6 (j0 : Int64) (j2 : Int64) (x4 : Int32) : Nat → Int64 → Int64 → Option Int64
  | 0, _, _ => none
  | n + 1, j5, j7 => b_X12_lowest_6 (fun j5 j7 => f_X12_lowest_6 j0 j2 x4 n j5 j7) j0 j2 x4 j5 j7
def f_X12_lowest (j0 : Int64) (j2 : Int64) (x4 : Int32) : Option Int64 :=
f_X12_lowest_6 j0 j2 x4 FU j0 j2
def f_X12_odds_34 (M : Mm) : Option (Int64 × Mm) :=
some ((-1 : Int64), M)
def f_X12_odds_144 (k93 : Mm → Int64 → Int32 → Option (Int64 × Mm)) (k108 : Int64 → Int32 → Option (Int64 × Mm)) (M : Mm) (x1 : Int32) (x2 : Int32) (x3 : Int32) (x4 : Int32) (x5 : Int32) (j6 : Int64) (j8 : Int64) (x10 : Int32) (x13 : Int32) (t_0 : Int64) (t_1 : Int64) : Option (Int64 × Mm) :=
nm ((t_0 * t_1)) fun v1 =>
k108 v1 (x13 + (1 : Int32))
def f_X12_odds_186 (k93 : Mm → Int64 → Int32 → Option (Int64 × Mm)) (M : Mm) (x1 : Int32) (x2 : Int32) (x3 : Int32) (x4 : Int32) (x5 : Int32) (j6 : Int64) (x10 : Int32) (t_0 : Int64) (t_1 : Int64) : Option (Int64 × Mm) :=
nm ((t_0 + t_1)) fun v1 =>
k93 M v1 (x10 + (1 : Int32))
def f_X12_odds_185 (k93 : Mm → Int64 → Int32 → Option (Int64 × Mm)) (M : Mm) (x1 : Int32) (x2 : Int32) (x3 : Int32) (x4 : Int32) (x5 : Int32) (j6 : Int64) (x10 : Int32) (t_0 : Int64) : Option (Int64 × Mm) :=
f_X12_odds_186 k93 M x1 x2 x3 x4 x5 j6 x10 t_0 (0 : Int64)
def f_X12_odds_153 (k93 : Mm → Int64 → Int32 → Option (Int64 × Mm)) (M : Mm) (x1 : Int32) (x2 : Int32) (x3 : Int32) (x4 : Int32) (x5 : Int32) (j6 : Int64) (j8 : Int64) (x10 : Int32) (j11 : Int64) : Option (Int64 × Mm) :=
if (lg_cmp j11 (0 : Int64)) ≤ 0 then
(f_X12_odds_185 k93 M x1 x2 x3 x4 x5 j6 x10 j8)
else
(bd (f_X12_hourNow M) fun p3 =>
bd (f_X12_holdsTo M x1 x2 (0 : Int32) (x10 <<< (p3 &&& 31))) fun p5 =>
if x3 ≤ p5.1 then
(f_X12_odds_185 k93 p5.2 x1 x2 x3 x4 x5 j6 x10 j8)
else
(f_X12_odds_186 k93 p5.2 x1 x2 x3 x4 x5 j6 x10 j8 j11))
def b_X12_odds_108 (k93 : Mm → Int64 → Int32 → Option (Int64 × Mm)) (k108 : Int64 → Int32 → Option (Int64 × Mm)) (M : Mm) (x1 : Int32) (x2 : Int32) (x3 : Int32) (x4 : Int32) (x5 : Int32) (j6 : Int64) (j8 : Int64) (x10 : Int32) (j11 : Int64) (x13 : Int32) : Option (Int64 × Mm) :=
if x5 ≤ x13 then
(f_X12_odds_153 k93 M x1 x2 x3 x4 x5 j6 j8 x10 j11)
else
(if ((x10 >>> (x13 &&& 31)) &&& (1 : Int32)) = (1 : Int32) then
(f_X12_odds_144 k93 k108 M x1 x2 x3 x4 x5 j6 j8 x10 x13 j11 ((M.1 0 6).toInt64))
else
(f_X12_odds_144 k93 k108 M x1 x2 x3 x4 x5 j6 j8 x10 x13 j11 (((10 : Int32) - (M.1 0 6)).toInt64)))
def f_X12_odds_108 (k93 : Mm → Int64 → Int32 → Option (Int64 × Mm)) (M : Mm) (x1 : Int32) (x2 : Int32) (x3 : Int32) (x4 : Int32) (x5 : Int32) (j6 : Int64) (j8 : Int64) (x10 : Int32) : Nat → Int64 → Int32 → Option (Int64 × Mm)
  | 0, _, _ => none
  | n + 1, j11, x13 => b_X12_odds_108 k93 (fun j11 x13 => f_X12_odds_108 k93 M x1 x2 x3 x4 x5 j6 j8 x10 n j11 x13) M x1 x2 x3 x4 x5 j6 j8 x10 j11 x13
def f_X12_odds_195 (M : Mm) (x4 : Int32) (j6 : Int64) (j8 : Int64) : Option (Int64 × Mm) :=
bd (f_X12_lowest j8 j6 x4) fun p2 =>
some (p2, M)
def b_X12_odds_93 (k93 : Mm → Int64 → Int32 → Option (Int64 × Mm)) (x1 : Int32) (x2 : Int32) (x3 : Int32) (x4 : Int32) (x5 : Int32) (j6 : Int64) (M : Mm) (j8 : Int64) (x10 : Int32) : Option (Int64 × Mm) :=
if ((1 : Int32) <<< (x5 &&& 31)) ≤ x10 then
(f_X12_odds_195 M x4 j6 j8)
else
(f_X12_odds_108 k93 M x1 x2 x3 x4 x5 j6 j8 x10 FU (1 : Int64) (0 : Int32))
def f_X12_odds_93 (x1 : Int32) (x2 : Int32) (x3 : Int32) (x4 : Int32) (x5 : Int32) (j6 : Int64) : Nat → Mm → Int64 → Int32 → Option (Int64 × Mm)
  | 0, _, _, _ => none
  | n + 1, M, j8, x10 => b_X12_odds_93 (fun M j8 x10 => f_X12_odds_93 x1 x2 x3 x4 x5 j6 n M j8 x10) x1 x2 x3 x4 x5 j6 M j8 x10
def f_X12_odds_87 (M : Mm) (x1 : Int32) (x2 : Int32) (x3 : Int32) (x4 : Int32) (x5 : Int32) (j6 : Int64) : Option (Int64 × Mm) :=
f_X12_odds_93 x1 x2 x3 x4 x5 j6 FU M (0 : Int64) (0 : Int32)
def b_X12_odds_66 (k66 : Int64 → Int32 → Option (Int64 × Mm)) (M : Mm) (x1 : Int32) (x2 : Int32) (x3 : Int32) (x4 : Int32) (x5 : Int32) (j6 : Int64) (x8 : Int32) : Option (Int64 × Mm) :=
if x5 ≤ x8 then
(f_X12_odds_87 M x1 x2 x3 x4 x5 j6)
else
(nm ((j6 * (10 : Int64))) fun v2 =>
k66 v2 (x8 + (1 : Int32)))
def f_X12_odds_66 (M : Mm) (x1 : Int32) (x2 : Int32) (x3 : Int32) (x4 : Int32) (x5 : Int32) : Nat → Int64 → Int32 → Option (Int64 × Mm)
  | 0, _, _ => none
  | n + 1, j6, x8 => b_X12_odds_66 (fun j6 x8 => f_X12_odds_66 M x1 x2 x3 x4 x5 n j6 x8) M x1 x2 x3 x4 x5 j6 x8
def f_X12_odds (M : Mm) (x1 : Int32) (x2 : Int32) (x3 : Int32) (x4 : Int32) : Option (Int64 × Mm) :=
bd (f_X12_isSide x1) fun p2 =>
if p2 = 0 then
(f_X12_odds_34 M)
else
(bd (f_X12_isFurlong M x2) fun p5 =>
if p5 = 0 then
(f_X12_odds_34 M)
else
(bd (f_X12_isAhead M x3) fun p8 =>
if p8 = 0 then
(f_X12_odds_34 M)
else
(bd (f_X12_in x4.toInt64 (0 : Int64) (1 : Int64)) fun p11 =>
if p11 = 0 then
(f_X12_odds_34 M)
else
(bd (f_X12_isThere M (0 : Int32) x1 x2) fun p14 =>
if p14 = 0 then
(some ((-4 : Int64), M))
else
(bd (f_X12_hourNow M) fun p17 =>
nm ((x3 - p17)) fun v18 =>
f_X12_odds_66 M x1 x2 x3 x4 v18 FU (1 : Int64) (0 : Int32))))))
def f_X12_strengthOf_28 (k4 : Int32 → Int32 → Option Int32) (M : Mm) (x1 : Int32) (x3 : Int32) (s_0 : Int32) (s_1 : Int32) : Option Int32 :=
nm ((s_0 + s_1)) fun v1 =>
k4 v1 (x3 + (1 : Int32))
def b_X12_strengthOf_4 (k4 : Int32 → Int32 → Option Int32) (M : Mm) (x1 : Int32) (x2 : Int32) (x3 : Int32) : Option Int32 :=
if (M.1 0 1) ≤ x3 then
(some x2)
else
(bd (f_X12_counts M (0 : Int32) x1 x3) fun p3 =>
if p3 = 0 then
(f_X12_strengthOf_28 k4 M x1 x3 x2 (0 : Int32))
else
(f_X12_strengthOf_28 k4 M x1 x3 x2 (1 : Int32)))
def f_X12_strengthOf_4 (M : Mm) (x1 : Int32) : Nat → Int32 → Int32 → Option Int32
  | 0, _, _ => none
  | n + 1, x2, x3 => b_X12_strengthOf_4 (fun x2 x3 => f_X12_strengthOf_4 M x1 n x2 x3) M x1 x2 x3
def f_X12_strengthOf (M : Mm) (x1 : Int32) : Option Int32 :=
f_X12_strengthOf_4 M x1 FU (0 : Int32) (0 : Int32)
def f_X12_talks_69 (k28 : Mm → Int32 → Int32 → Int32 → Option (Int32 × Mm)) (M : Mm) (x1 : Int32) (x2 : Int32) (x5 : Int32) (s_0 : Int32) : Option (Int32 × Mm) :=
bd (f_X12_strengthOf M (0 : Int32)) fun p2 =>
k28 M s_0 p2 (x5 + (1 : Int32))
def f_X12_talks_106 (M : Mm) (s_0 : Int32) : Option (Int32 × Mm) :=
some (s_0, M)
def f_X12_talks_100 (M : Mm) (x3 : Int32) : Option (Int32 × Mm) :=
f_X12_talks_106 M x3
def f_X12_talks_83 (M : Mm) (x1 : Int32) (x2 : Int32) (x3 : Int32) (x4 : Int32) : Option (Int32 × Mm) :=
wr (wI M 3 (0 : Int32).toNatClampNeg x2) fun M1 =>
if x3 = (-4 : Int32) then
(f_X12_talks_100 M1 x3)
else
(if x1 = 0 then
(f_X12_talks_100 M1 x3)
else
(f_X12_talks_106 M1 x4))
def b_X12_talks_28 (k28 : Mm → Int32 → Int32 → Int32 → Option (Int32 × Mm)) (x1 : Int32) (x2 : Int32) (M : Mm) (x3 : Int32) (x4 : Int32) (x5 : Int32) : Option (Int32 × Mm) :=
if (99 : Int32) < x5 then
(f_X12_talks_83 M x1 x2 x3 x4)
else
(if x3 = (-4 : Int32) then
(wr (wI M 3 (0 : Int32).toNatClampNeg x5) fun M3 =>
bd (f_X12_strengthOf M3 (0 : Int32)) fun p6 =>
bd (f_X12_strengthOf M3 (1 : Int32)) fun p8 =>
if p6 = p8 then
(f_X12_talks_69 k28 M3 x1 x2 x5 x5)
else
(f_X12_talks_69 k28 M3 x1 x2 x5 (-4 : Int32)))
else
(f_X12_talks_83 M x1 x2 x3 x4))
def f_X12_talks_28 (x1 : Int32) (x2 : Int32) : Nat → Mm → Int32 → Int32 → Int32 → Option (Int32 × Mm)
  | 0, _, _, _, _ => none
  | n + 1, M, x3, x4, x5 => b_X12_talks_28 (fun M x3 x4 x5 => f_X12_talks_28 x1 x2 n M x3 x4 x5) x1 x2 M x3 x4 x5
def f_X12_talks (M : Mm) (x1 : Int32) : Option (Int32 × Mm) :=
bd (f_X12_in x1.toInt64 (0 : Int64) (1 : Int64)) fun p2 =>
if p2 = 0 then
(some ((-1 : Int32), M))
else
(nm ((M.1 3 (0 : Int32).toNatClampNeg)) fun v4 =>
f_X12_talks_28 x1 v4 FU M (-4 : Int32) (0 : Int32) (1 : Int32))
def f_X12_strength_16 (M : Mm) (s_0 : Int32) : Option Int32 :=
some s_0
def f_X12_strength (M : Mm) (x1 : Int32) : Option Int32 :=
bd (f_X12_isSide x1) fun p2 =>
if p2 = 0 then
(f_X12_strength_16 M (-1 : Int32))
else
(bd (f_X12_strengthOf M x1) fun p5 =>
f_X12_strength_16 M p5)
def f_X12_keep_38 (M : Mm) (x1 : Int32) (s_0 : Int32) : Option (Int32 × Mm) :=
ck (inn x1 2) <|
wr (wI M 15 x1.toNatClampNeg (vp_nar .boolean (1 : Int32))) fun M1 =>
some (s_0, M1)
def f_X12_keep (M : Mm) (x1 : Int32) : Option (Int32 × Mm) :=
bd (f_X12_in x1.toInt64 (0 : Int64) (1 : Int64)) fun p2 =>
if p2 = 0 then
(some ((-1 : Int32), M))
else
(bd (f_X12_copies M (0 : Int32) ((210 : Int32) * (x1 + (1 : Int32)))) fun p5 =>
ck (inn x1 2) <|
if (p5.1 15 x1.toNatClampNeg) = 0 then
(f_X12_keep_38 p5 x1 (0 : Int32))
else
(f_X12_keep_38 p5 x1 (1 : Int32)))
def f_X12_back (M : Mm) (x1 : Int32) : Option (Int32 × Mm) :=
bd (f_X12_in x1.toInt64 (0 : Int64) (1 : Int64)) fun p2 =>
if p2 = 0 then
(some ((-1 : Int32), M))
else
(ck (inn x1 2) <|
if (M.1 15 x1.toNatClampNeg) = 0 then
(some ((-2 : Int32), M))
else
(bd (f_X12_copies M ((210 : Int32) * (x1 + (1 : Int32))) (0 : Int32)) fun p7 =>
bd (f_X12_hourNow p7) fun p9 =>
some (p9, p7)))
def f_X12_sheet_30 (M : Mm) : Option (Int32 × Mm) :=
some ((-1 : Int32), M)
def b_X12_sheet_56 (k56 : Mm → Int32 → Option (Int32 × Mm)) (x1 : Int32) (M : Mm) (x4 : Int32) : Option (Int32 × Mm) :=
if (40 : Int32) ≤ x4 then
(some ((1 : Int32), M))
else
(ck (inn (((40 : Int32) * x1) + x4) 160) <|
wr (wI M 18 (((40 : Int32) * x1) + x4).toNatClampNeg (0 : Int32)) fun M2 =>
k56 M2 (x4 + (1 : Int32)))
def f_X12_sheet_56 (x1 : Int32) : Nat → Mm → Int32 → Option (Int32 × Mm)
  | 0, _, _ => none
  | n + 1, M, x4 => b_X12_sheet_56 (fun M x4 => f_X12_sheet_56 x1 n M x4) x1 M x4
def f_X12_sheet (M : Mm) (x1 : Int32) (x2 : Int32) (x3 : Int32) : Option (Int32 × Mm) :=
bd (f_X12_in x1.toInt64 (0 : Int64) (3 : Int64)) fun p2 =>
if p2 = 0 then
(f_X12_sheet_30 M)
else
(bd (f_X12_in x2.toInt64 (0 : Int64) (2 : Int64)) fun p5 =>
if p5 = 0 then
(f_X12_sheet_30 M)
else
(if x3 ≤ (40 : Int32) then
(if 0 ≤ x3 then
(ck (inn x1 4) <|
wr (wI M 16 x1.toNatClampNeg x2) fun M9 =>
wr (wI M9 17 x1.toNatClampNeg x3) fun M12 =>
f_X12_sheet_56 x1 FU M12 (0 : Int32))
else
(some ((-14 : Int32), M)))
else
(f_X12_sheet_30 M)))
def f_X12_lay_99 (M : Mm) (s_1 : Int32) (s_2 : Int32) : Option (Int32 × Mm) :=
ck (inn s_1 160) <|
wr (wI M 18 s_1.toNatClampNeg s_2) fun M1 =>
some ((1 : Int32), M1)
def f_X12_lay (M : Mm) (x1 : Int32) (x2 : Int32) (x3 : Int32) : Option (Int32 × Mm) :=
bd (f_X12_in x1.toInt64 (0 : Int64) (3 : Int64)) fun p2 =>
if p2 = 0 then
(some ((-1 : Int32), M))
else
(ck (inn x1 4) <|
if (M.1 16 x1.toNatClampNeg) = (-4 : Int32) then
(some ((-11 : Int32), M))
else
(bd (f_X12_in x2.toInt64 (0 : Int64) (((M.1 17 x1.toNatClampNeg) - (1 : Int32)).toInt64)) fun p7 =>
if p7 = 0 then
(some ((-12 : Int32), M))
else
(if (M.1 16 x1.toNatClampNeg) = 0 then
(f_X12_lay_99 M (((40 : Int32) * x1) + x2) ((x3 <<< ((24 : Int32) &&& 31)) >>> ((24 : Int32) &&& 31)))
else
(if (M.1 16 x1.toNatClampNeg) = (1 : Int32) then
(f_X12_lay_99 M (((40 : Int32) * x1) + x2) ((x3 <<< ((16 : Int32) &&& 31)) >>> ((16 : Int32) &&& 31)))
else
(f_X12_lay_99 M (((40 : Int32) * x1) + x2) x3)))))
def f_X12_read_37 (M : Mm) : Option (Int32 × Mm) :=
some ((-1 : Int32), M)
def f_X12_read_163 (k45 : Int32 → Int32 → Option (Int32 × Mm)) (M : Mm) (x1 : Int32) (x2 : Int32) (x3 : Int32) (x4 : Int32) (x5 : Int32) (s_0 : Int32) (s_1 : Int32) : Option (Int32 × Mm) :=
nm ((s_0 + s_1)) fun v1 =>
k45 x5 v1
def f_X12_read_151 (k45 : Int32 → Int32 → Option (Int32 × Mm)) (M : Mm) (x1 : Int32) (x2 : Int32) (x3 : Int32) (x4 : Int32) (x5 : Int32) (x6 : Int32) : Option (Int32 × Mm) :=
if x5 = 0 then
(f_X12_read_163 k45 M x1 x2 x3 x4 x5 x6 (1 : Int32))
else
(f_X12_read_163 k45 M x1 x2 x3 x4 x5 x6 (0 : Int32))
def f_X12_read_113 (k45 : Int32 → Int32 → Option (Int32 × Mm)) (M : Mm) (x1 : Int32) (x2 : Int32) (x3 : Int32) (x4 : Int32) (x6 : Int32) (s_0 : Int32) : Option (Int32 × Mm) :=
if s_0 = 0 then
(ck (inn ((((40 : Int32) * x1) + x3) + x6) 160) <|
bd (f_X12_in ((M.1 18 ((((40 : Int32) * x1) + x3) + x6).toNatClampNeg).toInt64) (0 : Int64) (9 : Int64)) fun p4 =>
if p4 = 0 then
(some (((-20 : Int32) - x6), M))
else
(f_X12_read_151 k45 M x1 x2 x3 x4 s_0 x6))
else
(f_X12_read_151 k45 M x1 x2 x3 x4 s_0 x6)
def f_X12_read_210 (M : Mm) (x5 : Int32) (x6 : Int32) : Option (Int32 × Mm) :=
wr (wI M 0 35 x5) fun M1 =>
some (x6, M1)
def b_X12_read_172 (k172 : Mm → Int32 → Option (Int32 × Mm)) (x1 : Int32) (x3 : Int32) (x5 : Int32) (x6 : Int32) (M : Mm) (x7 : Int32) : Option (Int32 × Mm) :=
if x6 ≤ x7 then
(f_X12_read_210 M x5 x6)
else
(ck (inn ((((40 : Int32) * x1) + x3) + x7) 160) <|
ck (inn ((171 : Int32) + x7) 840) <|
wr (wI M 1 ((171 : Int32) + x7).toNatClampNeg (M.1 18 ((((40 : Int32) * x1) + x3) + x7).toNatClampNeg)) fun M3 =>
k172 M3 (x7 + (1 : Int32)))
def f_X12_read_172 (x1 : Int32) (x3 : Int32) (x5 : Int32) (x6 : Int32) : Nat → Mm → Int32 → Option (Int32 × Mm)
  | 0, _, _ => none
  | n + 1, M, x7 => b_X12_read_172 (fun M x7 => f_X12_read_172 x1 x3 x5 x6 n M x7) x1 x3 x5 x6 M x7
def f_X12_read_169 (M : Mm) (x1 : Int32) (x3 : Int32) (x5 : Int32) (x6 : Int32) : Option (Int32 × Mm) :=
f_X12_read_172 x1 x3 x5 x6 FU M (0 : Int32)
def b_X12_read_45 (k45 : Int32 → Int32 → Option (Int32 × Mm)) (M : Mm) (x1 : Int32) (x2 : Int32) (x3 : Int32) (x4 : Int32) (x5 : Int32) (x6 : Int32) : Option (Int32 × Mm) :=
if x4 ≤ x6 then
(f_X12_read_169 M x1 x3 x5 x6)
else
(if x5 = 0 then
(ck (inn x1 4) <|
if (M.1 16 x1.toNatClampNeg) = (-4 : Int32) then
(f_X12_read_113 k45 M x1 x2 x3 x4 x6 (1 : Int32))
else
(if (M.1 16 x1.toNatClampNeg) = x2 then
(bd (f_X12_in (x3.toInt64 + x6.toInt64) (0 : Int64) (((M.1 17 x1.toNatClampNeg) - (1 : Int32)).toInt64)) fun p7 =>
if p7 = 0 then
(f_X12_read_113 k45 M x1 x2 x3 x4 x6 (2 : Int32))
else
(f_X12_read_113 k45 M x1 x2 x3 x4 x6 (0 : Int32)))
else
(f_X12_read_113 k45 M x1 x2 x3 x4 x6 (3 : Int32))))
else
(f_X12_read_169 M x1 x3 x5 x6))
def f_X12_read_45 (M : Mm) (x1 : Int32) (x2 : Int32) (x3 : Int32) (x4 : Int32) : Nat → Int32 → Int32 → Option (Int32 × Mm)
  | 0, _, _ => none
  | n + 1, x5, x6 => b_X12_read_45 (fun x5 x6 => f_X12_read_45 M x1 x2 x3 x4 n x5 x6) M x1 x2 x3 x4 x5 x6
def f_X12_read (M : Mm) (x1 : Int32) (x2 : Int32) (x3 : Int32) (x4 : Int32) : Option (Int32 × Mm) :=
bd (f_X12_in x1.toInt64 (0 : Int64) (3 : Int64)) fun p2 =>
if p2 = 0 then
(f_X12_read_37 M)
else
(bd (f_X12_in x2.toInt64 (0 : Int64) (2 : Int64)) fun p5 =>
if p5 = 0 then
(f_X12_read_37 M)
else
(bd (f_X12_in x4.toInt64 (0 : Int64) (12 : Int64)) fun p8 =>
if p8 = 0 then
(f_X12_read_37 M)
else
(f_X12_read_45 M x1 x2 x3 x4 FU (0 : Int32) (0 : Int32))))
def f_X12_torn (M : Mm) : Option Int32 :=
some (M.1 0 35)
def f_X12_count_121 (M : Mm) (s_0 : Int32) (s_1 : Int32) : Option Int32 :=
some (s_0 + s_1)
def f_X12_count_107 (M : Mm) (s_0 : Int32) : Option Int32 :=
if (M.1 15 (1 : Int32).toNatClampNeg) = 0 then
(f_X12_count_121 M s_0 (0 : Int32))
else
(f_X12_count_121 M s_0 (1 : Int32))
def f_X12_count_150 (M : Mm) (s_0 : Int32) : Option Int32 :=
some s_0
def f_X12_count_28 (M : Mm) (x1 : Int32) (x2 : Int32) : Option Int32 :=
if x1 = (0 : Int32) then
(some x2)
else
if x1 = (1 : Int32) then
(some (M.1 1 (207 : Int32).toNatClampNeg))
else
if x1 = (2 : Int32) then
(some (M.1 0 5))
else
if x1 = (3 : Int32) then
(some (M.1 0 30))
else
if x1 = (4 : Int32) then
(if (M.1 15 (0 : Int32).toNatClampNeg) = 0 then
(f_X12_count_107 M (0 : Int32))
else
(f_X12_count_107 M (1 : Int32)))
else
if x1 = (5 : Int32) then
(some (M.1 0 17))
else
if x1 = (6 : Int32) then
(if (M.1 16 (0 : Int32).toNatClampNeg) = (-4 : Int32) then
(f_X12_count_150 M (-4 : Int32))
else
(f_X12_count_150 M (M.1 17 (0 : Int32).toNatClampNeg)))
else
(some (-1 : Int32))
def b_X12_count_4 (k4 : Int32 → Int32 → Option Int32) (M : Mm) (x1 : Int32) (x2 : Int32) (x3 : Int32) : Option Int32 :=
if (20 : Int32) ≤ x3 then
(f_X12_count_28 M x1 x2)
else
(ck (inn ((7 : Int32) * x3) 840) <|
nm ((x2 + (M.1 1 ((7 : Int32) * x3).toNatClampNeg))) fun v3 =>
k4 v3 (x3 + (1 : Int32)))
def f_X12_count_4 (M : Mm) (x1 : Int32) : Nat → Int32 → Int32 → Option Int32
  | 0, _, _ => none
  | n + 1, x2, x3 => b_X12_count_4 (fun x2 x3 => f_X12_count_4 M x1 n x2 x3) M x1 x2 x3
def f_X12_count (M : Mm) (x1 : Int32) : Option Int32 :=
f_X12_count_4 M x1 FU (0 : Int32) (0 : Int32)
-- SnowSentriesModel.gap(II)I
set_option maxRecDepth 4000 in
theorem k_X12_gap_17 {p : Program} {l : Launch} {e : Env} {s : State} {m : MethodId} {args : Array Value} {below : List Frame} {meth : Method} {c : Code} {G : GG} {M : Mm} {r : Int32} {M2 : Mm} (C : CX p s m args c prog_14_method_66_code 7 "SnowSentriesModel" 1 G) (hlk : meth.locks = false) (hr : meth.sig.returnType = (some .int)) : f_X12_gap_17 M = some (r, M2) → Z p l e { frames := 4, cells := 0, slots := 0, locals := 107 } s m args below meth c 1 G 7 (MQ below (QC 1 G (some (.int r)) M2) args s 0 0 (AU 1 G)) 17 [] [] M := by
  intro h
  unfold f_X12_gap_17 at h
  refine z_iconst (v := (-1 : Int32)) C d_X12_gap_17 (by decide) ?_
  obtain ⟨rfl, rfl⟩ := o_pair h
  exact z_iret C hlk hr d_X12_gap_18
set_option maxRecDepth 4000 in
theorem k_X12_gap_97 {p : Program} {l : Launch} {e : Env} {s : State} {m : MethodId} {args : Array Value} {below : List Frame} {meth : Method} {c : Code} {G : GG} {k29 : Mm → Int32 → Int32 → Int32 → Option (Int32 × Mm)} {M : Mm} {x1 : Int32} {x2 : Int32} {x3 : Int32} {x4 : Int32} {x5 : Int32} {r : Int32} {M2 : Mm} (C : CX p s m args c prog_14_method_66_code 7 "SnowSentriesModel" 1 G) (hlk : meth.locks = false) (hr : meth.sig.returnType = (some .int)) (hk29 : ∀ (M : Mm) (x3 : Int32) (x4 : Int32) (x5 : Int32), k29 M x3 x4 x5 = some (r, M2) → Z p l e { frames := 4, cells := 0, slots := 0, locals := 107 } s m args below meth c 1 G 7 (MQ below (QC 1 G (some (.int r)) M2) args s 0 0 (AU 1 G)) 29 [(0, .ref (gB G + 0)), (1, .int x1), (2, .int x2), (3, .int x3), (4, .int x4), (5, .int x5)] [] M) : f_X12_gap_97 k29 M x1 x2 x3 x4 x5 = some (r, M2) → Z p l e { frames := 4, cells := 0, slots := 0, locals := 107 } s m args below meth c 1 G 7 (MQ below (QC 1 G (some (.int r)) M2) args s 0 0 (AU 1 G)) 97 [(0, .ref (gB G + 0)), (1, .int x1), (2, .int x2), (3, .int x3), (4, .int x4), (5, .int x5)] [] M := by
  intro h
  unfold f_X12_gap_97 at h
  refine z_iinc (v := (1 : Int32)) (L' := [(5, .int (x5 + (1 : Int32))), (0, .ref (gB G + 0)), (1, .int x1), (2, .int x2), (3, .int x3), (4, .int x4)]) 5 C d_X12_gap_97 rfl (by decide) (by decide) rfl ?_
  refine z_goto C d_X12_gap_100 ?_
  exact z_sub [1, 2, 3, 4, 5, 0] rfl (hk29 _ _ _ _  h)
set_option maxRecDepth 4000 in
theorem k_X12_gap_96 {p : Program} {l : Launch} {e : Env} {s : State} {m : MethodId} {args : Array Value} {below : List Frame} {meth : Method} {c : Code} {G : GG} {k29 : Mm → Int32 → Int32 → Int32 → Option (Int32 × Mm)} {M : Mm} {x1 : Int32} {x2 : Int32} {x4 : Int32} {x5 : Int32} {s_0 : Int32} {r : Int32} {M2 : Mm} (C : CX p s m args c prog_14_method_66_code 7 "SnowSentriesModel" 1 G) (hlk : meth.locks = false) (hr : meth.sig.returnType = (some .int)) (hk29 : ∀ (M : Mm) (x3 : Int32) (x4 : Int32) (x5 : Int32), k29 M x3 x4 x5 = some (r, M2) → Z p l e { frames := 4, cells := 0, slots := 0, locals := 107 } s m args below meth c 1 G 7 (MQ below (QC 1 G (some (.int r)) M2) args s 0 0 (AU 1 G)) 29 [(0, .ref (gB G + 0)), (1, .int x1), (2, .int x2), (3, .int x3), (4, .int x4), (5, .int x5)] [] M) : f_X12_gap_96 k29 M x1 x2 x4 x5 s_0 = some (r, M2) → Z p l e { frames := 4, cells := 0, slots := 0, locals := 107 } s m args below meth c 1 G 7 (MQ below (QC 1 G (some (.int r)) M2) args s 0 0 (AU 1 G)) 96 [(0, .ref (gB G + 0)), (1, .int x1), (2, .int x2), (4, .int x4), (5, .int x5)] [.int s_0] M := by
  intro h
  unfold f_X12_gap_96 at h
  refine z_istore_n (L' := [(3, .int s_0), (0, .ref (gB G + 0)), (1, .int x1), (2, .int x2), (4, .int x4), (5, .int x5)]) C d_X12_gap_96 rfl (by decide) rfl ?_
  exact z_sub [1, 2, 3, 0, 4, 5] rfl (k_X12_gap_97 C hlk hr hk29 h)
set_option maxRecDepth 4000 in
theorem k_X12_gap_82 {p : Program} {l : Launch} {e : Env} {s : State} {m : MethodId} {args : Array Value} {below : List Frame} {meth : Method} {c : Code} {G : GG} {k29 : Mm → Int32 → Int32 → Int32 → Option (Int32 × Mm)} {M : Mm} {x1 : Int32} {x2 : Int32} {x3 : Int32} {x5 : Int32} {x6 : Int32} {s_0 : Int32} {r : Int32} {M2 : Mm} (C : CX p s m args c prog_14_method_66_code 7 "SnowSentriesModel" 1 G) (hlk : meth.locks = false) (hr : meth.sig.returnType = (some .int)) (hk29 : ∀ (M : Mm) (x3 : Int32) (x4 : Int32) (x5 : Int32), k29 M x3 x4 x5 = some (r, M2) → Z p l e { frames := 4, cells := 0, slots := 0, locals := 107 } s m args below meth c 1 G 7 (MQ below (QC 1 G (some (.int r)) M2) args s 0 0 (AU 1 G)) 29 [(0, .ref (gB G + 0)), (1, .int x1), (2, .int x2), (3, .int x3), (4, .int x4), (5, .int x5)] [] M) : f_X12_gap_82 k29 M x1 x2 x3 x5 x6 s_0 = some (r, M2) → Z p l e { frames := 4, cells := 0, slots := 0, locals := 107 } s m args below meth c 1 G 7 (MQ below (QC 1 G (some (.int r)) M2) args s 0 0 (AU 1 G)) 82 [(0, .ref (gB G + 0)), (1, .int x1), (2, .int x2), (3, .int x3), (5, .int x5), (6, .int x6)] [.int s_0] M := by
  intro h
  unfold f_X12_gap_82 at h
  refine z_istore (L' := [(4, .int s_0), (0, .ref (gB G + 0)), (1, .int x1), (2, .int x2), (3, .int x3), (5, .int x5), (6, .int x6)]) C d_X12_gap_82 (by decide) rfl ?_
  refine z_iload 6 C d_X12_gap_84 rfl ?_
  refine z_iload_n 4 C d_X12_gap_86 rfl rfl ?_
  refine z_icmp_ge C d_X12_gap_87 (fun q1 => ?_) (fun q1 => ?_)
  · have h := o_t q1 h
    refine z_iload_n 4 C d_X12_gap_95 rfl rfl ?_
    exact z_sub [1, 2, 3, 0, 5] rfl (k_X12_gap_96 C hlk hr hk29 h)
  · have h := o_f q1 h
    refine z_iload 6 C d_X12_gap_90 rfl ?_
    refine z_goto C d_X12_gap_92 ?_
    exact z_sub [1, 2, 3, 0, 5] rfl (k_X12_gap_96 C hlk hr hk29 h)
set_option maxRecDepth 4000 in
theorem k_X12_gap_80 {p : Program} {l : Launch} {e : Env} {s : State} {m : MethodId} {args : Array Value} {below : List Frame} {meth : Method} {c : Code} {G : GG} {k29 : Mm → Int32 → Int32 → Int32 → Option (Int32 × Mm)} {M : Mm} {x1 : Int32} {x2 : Int32} {x3 : Int32} {x4 : Int32} {x5 : Int32} {x6 : Int32} {r : Int32} {M2 : Mm} (C : CX p s m args c prog_14_method_66_code 7 "SnowSentriesModel" 1 G) (hlk : meth.locks = false) (hr : meth.sig.returnType = (some .int)) (hk29 : ∀ (M : Mm) (x3 : Int32) (x4 : Int32) (x5 : Int32), k29 M x3 x4 x5 = some (r, M2) → Z p l e { frames := 4, cells := 0, slots := 0, locals := 107 } s m args below meth c 1 G 7 (MQ below (QC 1 G (some (.int r)) M2) args s 0 0 (AU 1 G)) 29 [(0, .ref (gB G + 0)), (1, .int x1), (2, .int x2), (3, .int x3), (4, .int x4), (5, .int x5)] [] M) : f_X12_gap_80 k29 M x1 x2 x3 x4 x5 x6 = some (r, M2) → Z p l e { frames := 4, cells := 0, slots := 0, locals := 107 } s m args below meth c 1 G 7 (MQ below (QC 1 G (some (.int r)) M2) args s 0 0 (AU 1 G)) 80 [(0, .ref (gB G + 0)), (1, .int x1), (2, .int x2), (3, .int x3), (4, .int x4), (5, .int x5), (6, .int x6)] [] M := by
  intro h
  unfold f_X12_gap_80 at h
  refine z_iload 4 C d_X12_gap_80 rfl ?_
  exact z_sub [0, 1, 2, 3, 5, 6] rfl (k_X12_gap_82 C hlk hr hk29 h)
set_option maxRecDepth 4000 in
theorem k_X12_gap_125 {p : Program} {l : Launch} {e : Env} {s : State} {m : MethodId} {args : Array Value} {below : List Frame} {meth : Method} {c : Code} {G : GG} {M : Mm} {s_0 : Int32} {r : Int32} {M2 : Mm} (C : CX p s m args c prog_14_method_66_code 7 "SnowSentriesModel" 1 G) (hlk : meth.locks = false) (hr : meth.sig.returnType = (some .int)) : f_X12_gap_125 M s_0 = some (r, M2) → Z p l e { frames := 4, cells := 0, slots := 0, locals := 107 } s m args below meth c 1 G 7 (MQ below (QC 1 G (some (.int r)) M2) args s 0 0 (AU 1 G)) 125 [] [.int s_0] M := by
  intro h
  unfold f_X12_gap_125 at h
  obtain ⟨rfl, rfl⟩ := o_pair h
  exact z_iret C hlk hr d_X12_gap_125
set_option maxRecDepth 4000 in
theorem k_X12_gap_103 {p : Program} {l : Launch} {e : Env} {s : State} {m : MethodId} {args : Array Value} {below : List Frame} {meth : Method} {c : Code} {G : GG} {M : Mm} {x2 : Int32} {x3 : Int32} {x4 : Int32} {r : Int32} {M2 : Mm} (C : CX p s m args c prog_14_method_66_code 7 "SnowSentriesModel" 1 G) (hlk : meth.locks = false) (hr : meth.sig.returnType = (some .int)) : f_X12_gap_103 M x2 x3 x4 = some (r, M2) → Z p l e { frames := 4, cells := 0, slots := 0, locals := 107 } s m args below meth c 1 G 7 (MQ below (QC 1 G (some (.int r)) M2) args s 0 0 (AU 1 G)) 103 [(2, .int x2), (3, .int x3), (4, .int x4)] [] M := by
  intro h
  unfold f_X12_gap_103 at h
  refine z_iload 2 C d_X12_gap_103 rfl ?_
  refine z_bipush (v := (-4 : Int32)) C d_X12_gap_105 (by decide) ?_
  refine z_icmp_ne C d_X12_gap_107 (fun q1 => ?_) (fun q1 => ?_)
  · have h := o_f q1 h
    refine z_iload_n 0 C d_X12_gap_115 rfl rfl ?_
    refine z_if_ne C d_X12_gap_116 (fun q2 => ?_) (fun q2 => ?_)
    · have h := o_f q2 h
      refine z_iload 2 C d_X12_gap_123 rfl ?_
      exact z_sub [] rfl (k_X12_gap_125 C hlk hr h)
    · have h := o_t q2 h
      refine z_iload_n 1 C d_X12_gap_119 rfl rfl ?_
      refine z_goto C d_X12_gap_120 ?_
      exact z_sub [] rfl (k_X12_gap_125 C hlk hr h)
  · have h := o_t q1 h
    refine z_bipush (v := (-4 : Int32)) C d_X12_gap_110 (by decide) ?_
    refine z_goto C d_X12_gap_112 ?_
    exact z_sub [] rfl (k_X12_gap_125 C hlk hr h)
set_option maxRecDepth 4000 in
theorem kb_X12_gap_29 {p : Program} {l : Launch} {e : Env} {s : State} {m : MethodId} {args : Array Value} {below : List Frame} {meth : Method} {c : Code} {G : GG} {k29 : Mm → Int32 → Int32 → Int32 → Option (Int32 × Mm)} {x1 : Int32} {x2 : Int32} {M : Mm} {x3 : Int32} {x4 : Int32} {x5 : Int32} {r : Int32} {M2 : Mm} (C : CX p s m args c prog_14_method_66_code 7 "SnowSentriesModel" 1 G) (hlk : meth.locks = false) (hr : meth.sig.returnType = (some .int)) (hk29 : ∀ (M : Mm) (x3 : Int32) (x4 : Int32) (x5 : Int32), k29 M x3 x4 x5 = some (r, M2) → Z p l e { frames := 4, cells := 0, slots := 0, locals := 107 } s m args below meth c 1 G 7 (MQ below (QC 1 G (some (.int r)) M2) args s 0 0 (AU 1 G)) 29 [(0, .ref (gB G + 0)), (1, .int x1), (2, .int x2), (3, .int x3), (4, .int x4), (5, .int x5)] [] M) : b_X12_gap_29 k29 x1 x2 M x3 x4 x5 = some (r, M2) → Z p l e { frames := 4, cells := 0, slots := 0, locals := 107 } s m args below meth c 1 G 7 (MQ below (QC 1 G (some (.int r)) M2) args s 0 0 (AU 1 G)) 29 [(0, .ref (gB G + 0)), (1, .int x1), (2, .int x2), (3, .int x3), (4, .int x4), (5, .int x5)] [] M := by
  intro h
  unfold b_X12_gap_29 at h
  refine z_iload 5 C d_X12_gap_29 rfl ?_
  refine z_aload_n 0 C d_X12_gap_31 rfl rfl ?_
  refine z_get (k := 1) (v := .int (M.1 0 1)) C (eY_0 _ _) (by decide) rfl inX12 (by decide) wf_X12_13 rfl d_X12_gap_32 ?_
  refine z_icmp_ge C d_X12_gap_35 (fun q1 => ?_) (fun q1 => ?_)
  · have h := o_t q1 h
    exact z_sub [2, 3, 4] rfl (k_X12_gap_103 C hlk hr h)
  · have h := o_f q1 h
    refine z_aload_n 0 C d_X12_gap_38 rfl rfl ?_
    refine z_iconst (v := (0 : Int32)) C d_X12_gap_39 (by decide) ?_
    refine z_iload_n 1 C d_X12_gap_40 rfl rfl ?_
    refine z_iload 5 C d_X12_gap_41 rfl ?_
    obtain ⟨p3, e2, h⟩ := o_bd h
    refine z_V (S := []) (As := [.int (0 : Int32), .int x1, .int x5]) C (c_X12_counts l G e2) (eY_0 _ _) (by decide) rfl wc_X12_counts wm_X12_206 ws_X12_counts wl_X12_counts wi_X12 hy_X12_counts ⟨Nat.le_of_ble_eq_true rfl, Nat.le_of_ble_eq_true rfl⟩ rfl rfl (Nat.le_of_ble_eq_true rfl) d_X12_gap_43 ?_
    refine z_if_eq C d_X12_gap_46 (fun q4 => ?_) (fun q4 => ?_)
    · have h := o_t q4 h
      exact z_sub [0, 1, 2, 3, 4, 5] rfl (k_X12_gap_97 C hlk hr hk29 h)
    · have h := o_f q4 h
      refine z_aload_n 0 C d_X12_gap_49 rfl rfl ?_
      refine z_iload_n 1 C d_X12_gap_50 rfl rfl ?_
      refine z_iload 5 C d_X12_gap_51 rfl ?_
      refine z_iconst (v := (0 : Int32)) C d_X12_gap_53 (by decide) ?_
      refine z_iconst (v := (0 : Int32)) C d_X12_gap_54 (by decide) ?_
      obtain ⟨p6, e5, h⟩ := o_bd h
      refine z_V (S := []) (As := [.int x1, .int x5, .int (0 : Int32), .int (0 : Int32)]) C (c_X12_holdsTo l G e5) (eY_0 _ _) (by decide) rfl wc_X12_holdsTo wm_X12_257 ws_X12_holdsTo wl_X12_holdsTo wi_X12 hy_X12_holdsTo ⟨Nat.le_of_ble_eq_true rfl, Nat.le_of_ble_eq_true rfl⟩ rfl rfl (Nat.le_of_ble_eq_true rfl) d_X12_gap_55 ?_
      refine z_iconst (v := (1 : Int32)) C d_X12_gap_58 (by decide) ?_
      refine z_iadd C d_X12_gap_59 ?_
      obtain ⟨v7, e8, h⟩ := o_nm h
      refine z_nI e8 ?_
      refine z_istore (L' := [(6, .int v7), (0, .ref (gB G + 0)), (1, .int x1), (2, .int x2), (3, .int x3), (4, .int x4), (5, .int x5)]) C d_X12_gap_60 (by decide) rfl ?_
      refine z_iload 0 C d_X12_gap_62 rfl ?_
      refine z_iload_n 4 C d_X12_gap_64 rfl rfl ?_
      refine z_icmp_ge C d_X12_gap_65 (fun q9 => ?_) (fun q9 => ?_)
      · have h := o_t q9 h
        exact z_sub [1, 2, 3, 4, 5, 6, 0] rfl (k_X12_gap_80 C hlk hr hk29 h)
      · have h := o_f q9 h
        refine z_iload 0 C d_X12_gap_68 rfl ?_
        refine z_bipush (v := (12 : Int32)) C d_X12_gap_70 (by decide) ?_
        refine z_icmp_gt C d_X12_gap_72 (fun q10 => ?_) (fun q10 => ?_)
        · have h := o_t q10 h
          exact z_sub [1, 2, 3, 4, 5, 6, 0] rfl (k_X12_gap_80 C hlk hr hk29 h)
        · have h := o_f q10 h
          refine z_iload 6 C d_X12_gap_75 rfl ?_
          refine z_goto C d_X12_gap_77 ?_
          exact z_sub [1, 2, 3, 4, 6, 0] rfl (k_X12_gap_82 C hlk hr hk29 h)
theorem k_X12_gap_29 {p : Program} {l : Launch} {e : Env} {s : State} {m : MethodId} {args : Array Value} {below : List Frame} {meth : Method} {c : Code} {G : GG} {x1 : Int32} {x2 : Int32} {r : Int32} {M2 : Mm} (C : CX p s m args c prog_14_method_66_code 7 "SnowSentriesModel" 1 G) (hlk : meth.locks = false) (hr : meth.sig.returnType = (some .int)) : ∀ (n : Nat) (M : Mm) (x3 : Int32) (x4 : Int32) (x5 : Int32), f_X12_gap_29 x1 x2 n M x3 x4 x5 = some (r, M2) → Z p l e { frames := 4, cells := 0, slots := 0, locals := 107 } s m args below meth c 1 G 7 (MQ below (QC 1 G (some (.int r)) M2) args s 0 0 (AU 1 G)) 29 [(0, .ref (gB G + 0)), (1, .int x1), (2, .int x2), (3, .int x3), (4, .int x4), (5, .int x5)] [] M := by
  intro n
  induction n with
  | zero =>
    intro M x3 x4 x5  h
    exact absurd h (fun z => by cases z)
  | succ n ih =>
    intro M x3 x4 x5  h
    exact kb_X12_gap_29 C hlk hr  (fun M x3 x4 x5 h => ih M x3 x4 x5 h) h
set_option maxRecDepth 4000 in
theorem k_X12_gap_0 {p : Program} {l : Launch} {e : Env} {s : State} {m : MethodId} {args : Array Value} {below : List Frame} {meth : Method} {c : Code} {G : GG} {M : Mm} {x1 : Int32} {x2 : Int32} {r : Int32} {M2 : Mm} (C : CX p s m args c prog_14_method_66_code 7 "SnowSentriesModel" 1 G) (hlk : meth.locks = false) (hr : meth.sig.returnType = (some .int)) : f_X12_gap M x1 x2 = some (r, M2) → Z p l e { frames := 4, cells := 0, slots := 0, locals := 107 } s m args below meth c 1 G 7 (MQ below (QC 1 G (some (.int r)) M2) args s 0 0 (AU 1 G)) 0 [(0, .ref (gB G + 0)), (1, .int x1), (2, .int x2)] [] M := by
  intro h
  unfold f_X12_gap at h
  refine z_iload_n 1 C d_X12_gap_0 rfl rfl ?_
  obtain ⟨p2, e1, h⟩ := o_bd h
  refine z_S (S := []) (As := [.int x1]) C (c_X12_isSide l G (M := M) e1) wc_X12_isSide wm_X12_210 ws_X12_isSide wi_X12 hy_X12_isSide ⟨Nat.le_of_ble_eq_true rfl, Nat.le_of_ble_eq_true rfl⟩ rfl rfl (Nat.le_of_ble_eq_true rfl) d_X12_gap_1 ?_
  refine z_if_eq C d_X12_gap_4 (fun q3 => ?_) (fun q3 => ?_)
  · have h := o_t q3 h
    exact z_sub [] rfl (k_X12_gap_17 C hlk hr h)
  · have h := o_f q3 h
    refine z_iload_n 2 C d_X12_gap_7 rfl rfl ?_
    refine z_i2l C d_X12_gap_8 ?_
    refine z_lconst (v := (0 : Int64)) C d_X12_gap_9 (by decide) ?_
    refine z_lconst (v := (1 : Int64)) C d_X12_gap_10 (by decide) ?_
    obtain ⟨p5, e4, h⟩ := o_bd h
    refine z_S (S := []) (As := [.long x2.toInt64, .long (0 : Int64), .long (1 : Int64)]) C (c_X12_in l G (M := M) e4) wc_X12_in wm_X12_75 ws_X12_in wi_X12 hy_X12_in ⟨Nat.le_of_ble_eq_true rfl, Nat.le_of_ble_eq_true rfl⟩ rfl rfl (Nat.le_of_ble_eq_true rfl) d_X12_gap_11 ?_
    refine z_if_ne C d_X12_gap_14 (fun q6 => ?_) (fun q6 => ?_)
    · have h := o_f q6 h
      refine z_bipush (v := (13 : Int32)) C d_X12_gap_19 (by decide) ?_
      refine z_istore_n (L' := [(3, .int (13 : Int32)), (0, .ref (gB G + 0)), (1, .int x1), (2, .int x2)]) C d_X12_gap_21 rfl (by decide) rfl ?_
      refine z_bipush (v := (-4 : Int32)) C d_X12_gap_22 (by decide) ?_
      refine z_istore (L' := [(4, .int (-4 : Int32)), (3, .int (13 : Int32)), (0, .ref (gB G + 0)), (1, .int x1), (2, .int x2)]) C d_X12_gap_24 (by decide) rfl ?_
      refine z_iconst (v := (0 : Int32)) C d_X12_gap_26 (by decide) ?_
      refine z_istore (L' := [(5, .int (0 : Int32)), (4, .int (-4 : Int32)), (3, .int (13 : Int32)), (0, .ref (gB G + 0)), (1, .int x1), (2, .int x2)]) C d_X12_gap_27 (by decide) rfl ?_
      exact z_sub [3, 4, 5, 2, 1, 0] rfl (k_X12_gap_29 C hlk hr _ _ _ _ _ h)
    · have h := o_t q6 h
      exact z_sub [] rfl (k_X12_gap_17 C hlk hr h)
theorem c_X12_gap (l : Launch) (G : GG) {M : Mm} {x1 : Int32} {x2 : Int32} {r : Int32} {M2 : Mm} (h : f_X12_gap M x1 x2 = some (r, M2)) : CT l 1 G y_X12_gap prog_14_method_66_code 7 (some .int) 4 107 [.ref (gB G + 0), .int x1, .int x2] M (some (.int r)) M2 :=
  CT.of (by decide +kernel) (Nat.le_of_ble_eq_true rfl) rfl (fun p e s m args below meth c C hlk hr => k_X12_gap_0 C hlk hr h)
-- SnowSentriesModel.layHeat()V
set_option maxRecDepth 4000 in
theorem k_X12_layHeat_111 {p : Program} {l : Launch} {e : Env} {s : State} {m : MethodId} {args : Array Value} {below : List Frame} {meth : Method} {c : Code} {G : GG} {k27 : Mm → Int32 → Option Mm} {k37 : Mm → Int32 → Option Mm} {k52 : Int32 → Int32 → Option Mm} {M : Mm} {x1 : Int32} {x2 : Int32} {x3 : Int32} {x4 : Int32} {M2 : Mm} (C : CX p s m args c prog_14_method_67_code 6 "SnowSentriesModel" 1 G) (hlk : meth.locks = false) (hr : meth.sig.returnType = none) (hk27 : ∀ (M : Mm) (x1 : Int32), k27 M x1 = some M2 → Z p l e { frames := 3, cells := 0, slots := 0, locals := 73 } s m args below meth c 1 G 6 (MQ below (QC 1 G none M2) args s 0 0 (AU 1 G)) 27 [(0, .ref (gB G + 0)), (1, .int x1)] [] M) (hk37 : ∀ (M : Mm) (x2 : Int32), k37 M x2 = some M2 → Z p l e { frames := 3, cells := 0, slots := 0, locals := 73 } s m args below meth c 1 G 6 (MQ below (QC 1 G none M2) args s 0 0 (AU 1 G)) 37 [(0, .ref (gB G + 0)), (1, .int x1), (2, .int x2)] [] M) (hk52 : ∀ (x3 : Int32) (x4 : Int32), k52 x3 x4 = some M2 → Z p l e { frames := 3, cells := 0, slots := 0, locals := 73 } s m args below meth c 1 G 6 (MQ below (QC 1 G none M2) args s 0 0 (AU 1 G)) 52 [(0, .ref (gB G + 0)), (1, .int x1), (2, .int x2), (3, .int x3), (4, .int x4)] [] M) : f_X12_layHeat_111 k27 k37 k52 M x1 x2 x3 x4 = some M2 → Z p l e { frames := 3, cells := 0, slots := 0, locals := 73 } s m args below meth c 1 G 6 (MQ below (QC 1 G none M2) args s 0 0 (AU 1 G)) 111 [(0, .ref (gB G + 0)), (1, .int x1), (2, .int x2), (3, .int x3), (4, .int x4)] [] M := by
  intro h
  unfold f_X12_layHeat_111 at h
  refine z_iinc (v := (1 : Int32)) (L' := [(4, .int (x4 + (1 : Int32))), (0, .ref (gB G + 0)), (1, .int x1), (2, .int x2), (3, .int x3)]) 4 C d_X12_layHeat_111 rfl (by decide) (by decide) rfl ?_
  refine z_goto C d_X12_layHeat_114 ?_
  exact z_sub [1, 2, 3, 4, 0] rfl (hk52 _ _  h)
set_option maxRecDepth 4000 in
theorem k_X12_layHeat_110 {p : Program} {l : Launch} {e : Env} {s : State} {m : MethodId} {args : Array Value} {below : List Frame} {meth : Method} {c : Code} {G : GG} {k27 : Mm → Int32 → Option Mm} {k37 : Mm → Int32 → Option Mm} {k52 : Int32 → Int32 → Option Mm} {M : Mm} {x1 : Int32} {x2 : Int32} {x4 : Int32} {s_0 : Int32} {M2 : Mm} (C : CX p s m args c prog_14_method_67_code 6 "SnowSentriesModel" 1 G) (hlk : meth.locks = false) (hr : meth.sig.returnType = none) (hk27 : ∀ (M : Mm) (x1 : Int32), k27 M x1 = some M2 → Z p l e { frames := 3, cells := 0, slots := 0, locals := 73 } s m args below meth c 1 G 6 (MQ below (QC 1 G none M2) args s 0 0 (AU 1 G)) 27 [(0, .ref (gB G + 0)), (1, .int x1)] [] M) (hk37 : ∀ (M : Mm) (x2 : Int32), k37 M x2 = some M2 → Z p l e { frames := 3, cells := 0, slots := 0, locals := 73 } s m args below meth c 1 G 6 (MQ below (QC 1 G none M2) args s 0 0 (AU 1 G)) 37 [(0, .ref (gB G + 0)), (1, .int x1), (2, .int x2)] [] M) (hk52 : ∀ (x3 : Int32) (x4 : Int32), k52 x3 x4 = some M2 → Z p l e { frames := 3, cells := 0, slots := 0, locals := 73 } s m args below meth c 1 G 6 (MQ below (QC 1 G none M2) args s 0 0 (AU 1 G)) 52 [(0, .ref (gB G + 0)), (1, .int x1), (2, .int x2), (3, .int x3), (4, .int x4)] [] M) : f_X12_layHeat_110 k27 k37 k52 M x1 x2 x4 s_0 = some M2 → Z p l e { frames := 3, cells := 0, slots := 0, locals := 73 } s m args below meth c 1 G 6 (MQ below (QC 1 G none M2) args s 0 0 (AU 1 G)) 110 [(0, .ref (gB G + 0)), (1, .int x1), (2, .int x2), (4, .int x4)] [.int s_0] M := by
  intro h
  unfold f_X12_layHeat_110 at h
  refine z_istore_n (L' := [(3, .int s_0), (0, .ref (gB G + 0)), (1, .int x1), (2, .int x2), (4, .int x4)]) C d_X12_layHeat_110 rfl (by decide) rfl ?_
  exact z_sub [1, 2, 3, 0, 4] rfl (k_X12_layHeat_111 C hlk hr hk27 hk37 hk52 h)
set_option maxRecDepth 4000 in
theorem k_X12_layHeat_104 {p : Program} {l : Launch} {e : Env} {s : State} {m : MethodId} {args : Array Value} {below : List Frame} {meth : Method} {c : Code} {G : GG} {k27 : Mm → Int32 → Option Mm} {k37 : Mm → Int32 → Option Mm} {k52 : Int32 → Int32 → Option Mm} {M : Mm} {x1 : Int32} {x2 : Int32} {x4 : Int32} {x5 : Int32} {M2 : Mm} (C : CX p s m args c prog_14_method_67_code 6 "SnowSentriesModel" 1 G) (hlk : meth.locks = false) (hr : meth.sig.returnType = none) (hk27 : ∀ (M : Mm) (x1 : Int32), k27 M x1 = some M2 → Z p l e { frames := 3, cells := 0, slots := 0, locals := 73 } s m args below meth c 1 G 6 (MQ below (QC 1 G none M2) args s 0 0 (AU 1 G)) 27 [(0, .ref (gB G + 0)), (1, .int x1)] [] M) (hk37 : ∀ (M : Mm) (x2 : Int32), k37 M x2 = some M2 → Z p l e { frames := 3, cells := 0, slots := 0, locals := 73 } s m args below meth c 1 G 6 (MQ below (QC 1 G none M2) args s 0 0 (AU 1 G)) 37 [(0, .ref (gB G + 0)), (1, .int x1), (2, .int x2)] [] M) (hk52 : ∀ (x3 : Int32) (x4 : Int32), k52 x3 x4 = some M2 → Z p l e { frames := 3, cells := 0, slots := 0, locals := 73 } s m args below meth c 1 G 6 (MQ below (QC 1 G none M2) args s 0 0 (AU 1 G)) 52 [(0, .ref (gB G + 0)), (1, .int x1), (2, .int x2), (3, .int x3), (4, .int x4)] [] M) : f_X12_layHeat_104 k27 k37 k52 M x1 x2 x4 x5 = some M2 → Z p l e { frames := 3, cells := 0, slots := 0, locals := 73 } s m args below meth c 1 G 6 (MQ below (QC 1 G none M2) args s 0 0 (AU 1 G)) 104 [(0, .ref (gB G + 0)), (1, .int x1), (2, .int x2), (4, .int x4), (5, .int x5)] [] M := by
  intro h
  unfold f_X12_layHeat_104 at h
  refine z_iload 4 C d_X12_layHeat_104 rfl ?_
  refine z_goto C d_X12_layHeat_106 ?_
  exact z_sub [0, 1, 2, 3] rfl (k_X12_layHeat_110 C hlk hr hk27 hk37 hk52 h)
set_option maxRecDepth 4000 in
theorem k_X12_layHeat_117 {p : Program} {l : Launch} {e : Env} {s : State} {m : MethodId} {args : Array Value} {below : List Frame} {meth : Method} {c : Code} {G : GG} {k27 : Mm → Int32 → Option Mm} {k37 : Mm → Int32 → Option Mm} {M : Mm} {x1 : Int32} {x2 : Int32} {x3 : Int32} {M2 : Mm} (C : CX p s m args c prog_14_method_67_code 6 "SnowSentriesModel" 1 G) (hlk : meth.locks = false) (hr : meth.sig.returnType = none) (hk27 : ∀ (M : Mm) (x1 : Int32), k27 M x1 = some M2 → Z p l e { frames := 3, cells := 0, slots := 0, locals := 73 } s m args below meth c 1 G 6 (MQ below (QC 1 G none M2) args s 0 0 (AU 1 G)) 27 [(0, .ref (gB G + 0)), (1, .int x1)] [] M) (hk37 : ∀ (M : Mm) (x2 : Int32), k37 M x2 = some M2 → Z p l e { frames := 3, cells := 0, slots := 0, locals := 73 } s m args below meth c 1 G 6 (MQ below (QC 1 G none M2) args s 0 0 (AU 1 G)) 37 [(0, .ref (gB G + 0)), (1, .int x1), (2, .int x2)] [] M) : f_X12_layHeat_117 k27 k37 M x1 x2 x3 = some M2 → Z p l e { frames := 3, cells := 0, slots := 0, locals := 73 } s m args below meth c 1 G 6 (MQ below (QC 1 G none M2) args s 0 0 (AU 1 G)) 117 [(0, .ref (gB G + 0)), (1, .int x1), (2, .int x2), (3, .int x3)] [] M := by
  intro h
  unfold f_X12_layHeat_117 at h
  refine z_aload_n 0 C d_X12_layHeat_117 rfl rfl ?_
  refine z_get (k := 28) (v := .ref (gB G + 13)) C (eY_0 _ _) (by decide) rfl inX12 (by decide) wf_X12_53 rfl d_X12_layHeat_118 ?_
  refine z_bipush (v := (10 : Int32)) C d_X12_layHeat_121 (by decide) ?_
  refine z_iload_n 1 C d_X12_layHeat_123 rfl rfl ?_
  refine z_imul C d_X12_layHeat_124 ?_
  refine z_iload_n 2 C d_X12_layHeat_125 rfl rfl ?_
  refine z_iadd C d_X12_layHeat_126 ?_
  refine z_iload_n 3 C d_X12_layHeat_127 rfl rfl ?_
  obtain ⟨q3, h⟩ := o_ck h
  obtain ⟨M1, e2, h⟩ := o_wr h
  refine z_ast (fun r q => eY_13 r q) C (by decide) q3 d_X12_layHeat_128 ?_
  refine z_nM e2 ?_
  refine z_iinc (v := (1 : Int32)) (L' := [(2, .int (x2 + (1 : Int32))), (0, .ref (gB G + 0)), (1, .int x1), (3, .int x3)]) 2 C d_X12_layHeat_129 rfl (by decide) (by decide) rfl ?_
  refine z_goto C d_X12_layHeat_132 ?_
  exact z_sub [1, 2, 0] rfl (hk37 _ _  h)
set_option maxRecDepth 4000 in
theorem kb_X12_layHeat_52 {p : Program} {l : Launch} {e : Env} {s : State} {m : MethodId} {args : Array Value} {below : List Frame} {meth : Method} {c : Code} {G : GG} {k27 : Mm → Int32 → Option Mm} {k37 : Mm → Int32 → Option Mm} {k52 : Int32 → Int32 → Option Mm} {M : Mm} {x1 : Int32} {x2 : Int32} {x3 : Int32} {x4 : Int32} {M2 : Mm} (C : CX p s m args c prog_14_method_67_code 6 "SnowSentriesModel" 1 G) (hlk : meth.locks = false) (hr : meth.sig.returnType = none) (hk27 : ∀ (M : Mm) (x1 : Int32), k27 M x1 = some M2 → Z p l e { frames := 3, cells := 0, slots := 0, locals := 73 } s m args below meth c 1 G 6 (MQ below (QC 1 G none M2) args s 0 0 (AU 1 G)) 27 [(0, .ref (gB G + 0)), (1, .int x1)] [] M) (hk37 : ∀ (M : Mm) (x2 : Int32), k37 M x2 = some M2 → Z p l e { frames := 3, cells := 0, slots := 0, locals := 73 } s m args below meth c 1 G 6 (MQ below (QC 1 G none M2) args s 0 0 (AU 1 G)) 37 [(0, .ref (gB G + 0)), (1, .int x1), (2, .int x2)] [] M) (hk52 : ∀ (x3 : Int32) (x4 : Int32), k52 x3 x4 = some M2 → Z p l e { frames := 3, cells := 0, slots := 0, locals := 73 } s m args below meth c 1 G 6 (MQ below (QC 1 G none M2) args s 0 0 (AU 1 G)) 52 [(0, .ref (gB G + 0)), (1, .int x1), (2, .int x2), (3, .int x3), (4, .int x4)] [] M) : b_X12_layHeat_52 k27 k37 k52 M x1 x2 x3 x4 = some M2 → Z p l e { frames := 3, cells := 0, slots := 0, locals := 73 } s m args below meth c 1 G 6 (MQ below (QC 1 G none M2) args s 0 0 (AU 1 G)) 52 [(0, .ref (gB G + 0)), (1, .int x1), (2, .int x2), (3, .int x3), (4, .int x4)] [] M := by
  intro h
  unfold b_X12_layHeat_52 at h
  refine z_iload 4 C d_X12_layHeat_52 rfl ?_
  refine z_iload_n 2 C d_X12_layHeat_54 rfl rfl ?_
  refine z_iconst (v := (1 : Int32)) C d_X12_layHeat_55 (by decide) ?_
  refine z_iadd C d_X12_layHeat_56 ?_
  refine z_icmp_gt C d_X12_layHeat_57 (fun q1 => ?_) (fun q1 => ?_)
  · have h := o_t q1 h
    exact z_sub [0, 1, 2, 3] rfl (k_X12_layHeat_117 C hlk hr hk27 hk37 h)
  · have h := o_f q1 h
    refine z_aload_n 0 C d_X12_layHeat_60 rfl rfl ?_
    refine z_iload 4 C d_X12_layHeat_61 rfl ?_
    obtain ⟨p3, e2, h⟩ := o_bd h
    refine z_V (S := []) (As := [.int x4]) C (c_X12_isFurlong l G e2) (eY_0 _ _) (by decide) rfl wc_X12_isFurlong wm_X12_201 ws_X12_isFurlong wl_X12_isFurlong wi_X12 hy_X12_isFurlong ⟨Nat.le_of_ble_eq_true rfl, Nat.le_of_ble_eq_true rfl⟩ rfl rfl (Nat.le_of_ble_eq_true rfl) d_X12_layHeat_63 ?_
    refine z_if_eq C d_X12_layHeat_66 (fun q4 => ?_) (fun q4 => ?_)
    · have h := o_t q4 h
      exact z_sub [0, 1, 2, 3, 4] rfl (k_X12_layHeat_111 C hlk hr hk27 hk37 hk52 h)
    · have h := o_f q4 h
      refine z_aload_n 0 C d_X12_layHeat_69 rfl rfl ?_
      refine z_iload 4 C d_X12_layHeat_70 rfl ?_
      refine z_iload_n 1 C d_X12_layHeat_72 rfl rfl ?_
      refine z_iconst (v := (1 : Int32)) C d_X12_layHeat_73 (by decide) ?_
      obtain ⟨p6, e5, h⟩ := o_bd h
      refine z_V (S := []) (As := [.int x4, .int x1, .int (1 : Int32)]) C (c_X12_heat l G e5) (eY_0 _ _) (by decide) rfl wc_X12_heat wm_X12_267 ws_X12_heat wl_X12_heat wi_X12 hy_X12_heat ⟨Nat.le_of_ble_eq_true rfl, Nat.le_of_ble_eq_true rfl⟩ rfl rfl (Nat.le_of_ble_eq_true rfl) d_X12_layHeat_74 ?_
      refine z_aload_n 0 C d_X12_layHeat_77 rfl rfl ?_
      refine z_get (k := 28) (v := .ref (gB G + 13)) C (eY_0 _ _) (by decide) rfl inX12 (by decide) wf_X12_53 rfl d_X12_layHeat_78 ?_
      refine z_bipush (v := (10 : Int32)) C d_X12_layHeat_81 (by decide) ?_
      refine z_iload_n 1 C d_X12_layHeat_83 rfl rfl ?_
      refine z_iconst (v := (1 : Int32)) C d_X12_layHeat_84 (by decide) ?_
      refine z_iadd C d_X12_layHeat_85 ?_
      refine z_imul C d_X12_layHeat_86 ?_
      refine z_iload 4 C d_X12_layHeat_87 rfl ?_
      refine z_iadd C d_X12_layHeat_89 ?_
      obtain ⟨q7, h⟩ := o_ck h
      refine z_ald (eY_13 _ _) C (by decide) q7 d_X12_layHeat_90 ?_
      refine z_iadd C d_X12_layHeat_91 ?_
      obtain ⟨v8, e9, h⟩ := o_nm h
      refine z_nI e9 ?_
      refine z_istore (L' := [(5, .int v8), (0, .ref (gB G + 0)), (1, .int x1), (2, .int x2), (3, .int x3), (4, .int x4)]) C d_X12_layHeat_92 (by decide) rfl ?_
      refine z_iload_n 4 C d_X12_layHeat_94 rfl rfl ?_
      refine z_if_lt C d_X12_layHeat_95 (fun q10 => ?_) (fun q10 => ?_)
      · have h := o_t q10 h
        exact z_sub [1, 2, 3, 5, 0] rfl (k_X12_layHeat_104 C hlk hr hk27 hk37 hk52 h)
      · have h := o_f q10 h
        refine z_iload 0 C d_X12_layHeat_98 rfl ?_
        refine z_iload_n 4 C d_X12_layHeat_100 rfl rfl ?_
        refine z_icmp_ge C d_X12_layHeat_101 (fun q11 => ?_) (fun q11 => ?_)
        · have h := o_t q11 h
          refine z_iload_n 4 C d_X12_layHeat_109 rfl rfl ?_
          exact z_sub [1, 2, 3, 5] rfl (k_X12_layHeat_110 C hlk hr hk27 hk37 hk52 h)
        · have h := o_f q11 h
          exact z_sub [1, 2, 3, 5, 0] rfl (k_X12_layHeat_104 C hlk hr hk27 hk37 hk52 h)
theorem k_X12_layHeat_52 {p : Program} {l : Launch} {e : Env} {s : State} {m : MethodId} {args : Array Value} {below : List Frame} {meth : Method} {c : Code} {G : GG} {k27 : Mm → Int32 → Option Mm} {k37 : Mm → Int32 → Option Mm} {M : Mm} {x1 : Int32} {x2 : Int32} {M2 : Mm} (C : CX p s m args c prog_14_method_67_code 6 "SnowSentriesModel" 1 G) (hlk : meth.locks = false) (hr : meth.sig.returnType = none) (hk27 : ∀ (M : Mm) (x1 : Int32), k27 M x1 = some M2 → Z p l e { frames := 3, cells := 0, slots := 0, locals := 73 } s m args below meth c 1 G 6 (MQ below (QC 1 G none M2) args s 0 0 (AU 1 G)) 27 [(0, .ref (gB G + 0)), (1, .int x1)] [] M) (hk37 : ∀ (M : Mm) (x2 : Int32), k37 M x2 = some M2 → Z p l e { frames := 3, cells := 0, slots := 0, locals := 73 } s m args below meth c 1 G 6 (MQ below (QC 1 G none M2) args s 0 0 (AU 1 G)) 37 [(0, .ref (gB G + 0)), (1, .int x1), (2, .int x2)] [] M) : ∀ (n : Nat) (x3 : Int32) (x4 : Int32), f_X12_layHeat_52 k27 k37 M x1 x2 n x3 x4 = some M2 → Z p l e { frames := 3, cells := 0, slots := 0, locals := 73 } s m args below meth c 1 G 6 (MQ below (QC 1 G none M2) args s 0 0 (AU 1 G)) 52 [(0, .ref (gB G + 0)), (1, .int x1), (2, .int x2), (3, .int x3), (4, .int x4)] [] M := by
  intro n
  induction n with
  | zero =>
    intro x3 x4  h
    exact absurd h (fun z => by cases z)
  | succ n ih =>
    intro x3 x4  h
    exact kb_X12_layHeat_52 C hlk hr hk27 hk37 (fun x3 x4 h => ih x3 x4 h) h
set_option maxRecDepth 4000 in
theorem k_X12_layHeat_135 {p : Program} {l : Launch} {e : Env} {s : State} {m : MethodId} {args : Array Value} {below : List Frame} {meth : Method} {c : Code} {G : GG} {k27 : Mm → Int32 → Option Mm} {M : Mm} {x1 : Int32} {M2 : Mm} (C : CX p s m args c prog_14_method_67_code 6 "SnowSentriesModel" 1 G) (hlk : meth.locks = false) (hr : meth.sig.returnType = none) (hk27 : ∀ (M : Mm) (x1 : Int32), k27 M x1 = some M2 → Z p l e { frames := 3, cells := 0, slots := 0, locals := 73 } s m args below meth c 1 G 6 (MQ below (QC 1 G none M2) args s 0 0 (AU 1 G)) 27 [(0, .ref (gB G + 0)), (1, .int x1)] [] M) : f_X12_layHeat_135 k27 M x1 = some M2 → Z p l e { frames := 3, cells := 0, slots := 0, locals := 73 } s m args below meth c 1 G 6 (MQ below (QC 1 G none M2) args s 0 0 (AU 1 G)) 135 [(0, .ref (gB G + 0)), (1, .int x1)] [] M := by
  intro h
  unfold f_X12_layHeat_135 at h
  refine z_iinc (v := (-1 : Int32)) (L' := [(1, .int (x1 + (-1 : Int32))), (0, .ref (gB G + 0))]) 1 C d_X12_layHeat_135 rfl (by decide) (by decide) rfl ?_
  refine z_goto C d_X12_layHeat_138 ?_
  exact z_sub [1, 0] rfl (hk27 _ _  h)
set_option maxRecDepth 4000 in
theorem kb_X12_layHeat_37 {p : Program} {l : Launch} {e : Env} {s : State} {m : MethodId} {args : Array Value} {below : List Frame} {meth : Method} {c : Code} {G : GG} {k27 : Mm → Int32 → Option Mm} {k37 : Mm → Int32 → Option Mm} {x1 : Int32} {M : Mm} {x2 : Int32} {M2 : Mm} (C : CX p s m args c prog_14_method_67_code 6 "SnowSentriesModel" 1 G) (hlk : meth.locks = false) (hr : meth.sig.returnType = none) (hk27 : ∀ (M : Mm) (x1 : Int32), k27 M x1 = some M2 → Z p l e { frames := 3, cells := 0, slots := 0, locals := 73 } s m args below meth c 1 G 6 (MQ below (QC 1 G none M2) args s 0 0 (AU 1 G)) 27 [(0, .ref (gB G + 0)), (1, .int x1)] [] M) (hk37 : ∀ (M : Mm) (x2 : Int32), k37 M x2 = some M2 → Z p l e { frames := 3, cells := 0, slots := 0, locals := 73 } s m args below meth c 1 G 6 (MQ below (QC 1 G none M2) args s 0 0 (AU 1 G)) 37 [(0, .ref (gB G + 0)), (1, .int x1), (2, .int x2)] [] M) : b_X12_layHeat_37 k27 k37 x1 M x2 = some M2 → Z p l e { frames := 3, cells := 0, slots := 0, locals := 73 } s m args below meth c 1 G 6 (MQ below (QC 1 G none M2) args s 0 0 (AU 1 G)) 37 [(0, .ref (gB G + 0)), (1, .int x1), (2, .int x2)] [] M := by
  intro h
  unfold b_X12_layHeat_37 at h
  refine z_iload_n 2 C d_X12_layHeat_37 rfl rfl ?_
  refine z_aload_n 0 C d_X12_layHeat_38 rfl rfl ?_
  refine z_get (k := 1) (v := .int (M.1 0 1)) C (eY_0 _ _) (by decide) rfl inX12 (by decide) wf_X12_13 rfl d_X12_layHeat_39 ?_
  refine z_icmp_ge C d_X12_layHeat_42 (fun q1 => ?_) (fun q1 => ?_)
  · have h := o_t q1 h
    exact z_sub [0, 1] rfl (k_X12_layHeat_135 C hlk hr hk27 h)
  · have h := o_f q1 h
    refine z_iconst (v := (-1 : Int32)) C d_X12_layHeat_45 (by decide) ?_
    refine z_istore_n (L' := [(3, .int (-1 : Int32)), (0, .ref (gB G + 0)), (1, .int x1), (2, .int x2)]) C d_X12_layHeat_46 rfl (by decide) rfl ?_
    refine z_iload_n 3 C d_X12_layHeat_47 rfl rfl ?_
    refine z_iconst (v := (1 : Int32)) C d_X12_layHeat_48 (by decide) ?_
    refine z_isub C d_X12_layHeat_49 ?_
    obtain ⟨v2, e3, h⟩ := o_nm h
    refine z_nI e3 ?_
    refine z_istore (L' := [(4, .int v2), (3, .int (-1 : Int32)), (0, .ref (gB G + 0)), (1, .int x1), (2, .int x2)]) C d_X12_layHeat_50 (by decide) rfl ?_
    exact z_sub [2, 3, 4, 1, 0] rfl (k_X12_layHeat_52 C hlk hr hk27 hk37 _ _ _ h)
theorem k_X12_layHeat_37 {p : Program} {l : Launch} {e : Env} {s : State} {m : MethodId} {args : Array Value} {below : List Frame} {meth : Method} {c : Code} {G : GG} {k27 : Mm → Int32 → Option Mm} {x1 : Int32} {M2 : Mm} (C : CX p s m args c prog_14_method_67_code 6 "SnowSentriesModel" 1 G) (hlk : meth.locks = false) (hr : meth.sig.returnType = none) (hk27 : ∀ (M : Mm) (x1 : Int32), k27 M x1 = some M2 → Z p l e { frames := 3, cells := 0, slots := 0, locals := 73 } s m args below meth c 1 G 6 (MQ below (QC 1 G none M2) args s 0 0 (AU 1 G)) 27 [(0, .ref (gB G + 0)), (1, .int x1)] [] M) : ∀ (n : Nat) (M : Mm) (x2 : Int32), f_X12_layHeat_37 k27 x1 n M x2 = some M2 → Z p l e { frames := 3, cells := 0, slots := 0, locals := 73 } s m args below meth c 1 G 6 (MQ below (QC 1 G none M2) args s 0 0 (AU 1 G)) 37 [(0, .ref (gB G + 0)), (1, .int x1), (2, .int x2)] [] M := by
  intro n
  induction n with
  | zero =>
    intro M x2  h
    exact absurd h (fun z => by cases z)
  | succ n ih =>
    intro M x2  h
    exact kb_X12_layHeat_37 C hlk hr hk27 (fun M x2 h => ih M x2 h) h
set_option maxRecDepth 4000 in
theorem kb_X12_layHeat_27 {p : Program} {l : Launch} {e : Env} {s : State} {m : MethodId} {args : Array Value} {below : List Frame} {meth : Method} {c : Code} {G : GG} {k27 : Mm → Int32 → Option Mm} {M : Mm} {x1 : Int32} {M2 : Mm} (C : CX p s m args c prog_14_method_67_code 6 "SnowSentriesModel" 1 G) (hlk : meth.locks = false) (hr : meth.sig.returnType = none) (hk27 : ∀ (M : Mm) (x1 : Int32), k27 M x1 = some M2 → Z p l e { frames := 3, cells := 0, slots := 0, locals := 73 } s m args below meth c 1 G 6 (MQ below (QC 1 G none M2) args s 0 0 (AU 1 G)) 27 [(0, .ref (gB G + 0)), (1, .int x1)] [] M) : b_X12_layHeat_27 k27 M x1 = some M2 → Z p l e { frames := 3, cells := 0, slots := 0, locals := 73 } s m args below meth c 1 G 6 (MQ below (QC 1 G none M2) args s 0 0 (AU 1 G)) 27 [(0, .ref (gB G + 0)), (1, .int x1)] [] M := by
  intro h
  unfold b_X12_layHeat_27 at h
  refine z_iload_n 1 C d_X12_layHeat_27 rfl rfl ?_
  refine z_aload_n 0 C d_X12_layHeat_28 rfl rfl ?_
  obtain ⟨p2, e1, h⟩ := o_bd h
  refine z_V (S := [.int x1]) (As := []) C (c_X12_hourNow l G e1) (eY_0 _ _) (by decide) rfl wc_X12_hourNow wm_X12_185 ws_X12_hourNow wl_X12_hourNow wi_X12 hy_X12_hourNow ⟨Nat.le_of_ble_eq_true rfl, Nat.le_of_ble_eq_true rfl⟩ rfl rfl (Nat.le_of_ble_eq_true rfl) d_X12_layHeat_29 ?_
  refine z_icmp_lt C d_X12_layHeat_32 (fun q3 => ?_) (fun q3 => ?_)
  · have h := o_t q3 h
    obtain rfl := o_some h
    exact z_vret C hlk hr d_X12_layHeat_141
  · have h := o_f q3 h
    refine z_iconst (v := (0 : Int32)) C d_X12_layHeat_35 (by decide) ?_
    refine z_istore_n (L' := [(2, .int (0 : Int32)), (0, .ref (gB G + 0)), (1, .int x1)]) C d_X12_layHeat_36 rfl (by decide) rfl ?_
    exact z_sub [1, 2, 0] rfl (k_X12_layHeat_37 C hlk hr hk27 _ _ _ h)
theorem k_X12_layHeat_27 {p : Program} {l : Launch} {e : Env} {s : State} {m : MethodId} {args : Array Value} {below : List Frame} {meth : Method} {c : Code} {G : GG} {M2 : Mm} (C : CX p s m args c prog_14_method_67_code 6 "SnowSentriesModel" 1 G) (hlk : meth.locks = false) (hr : meth.sig.returnType = none) : ∀ (n : Nat) (M : Mm) (x1 : Int32), f_X12_layHeat_27 n M x1 = some M2 → Z p l e { frames := 3, cells := 0, slots := 0, locals := 73 } s m args below meth c 1 G 6 (MQ below (QC 1 G none M2) args s 0 0 (AU 1 G)) 27 [(0, .ref (gB G + 0)), (1, .int x1)] [] M := by
  intro n
  induction n with
  | zero =>
    intro M x1  h
    exact absurd h (fun z => by cases z)
  | succ n ih =>
    intro M x1  h
    exact kb_X12_layHeat_27 C hlk hr  (fun M x1 h => ih M x1 h) h
set_option maxRecDepth 4000 in
theorem k_X12_layHeat_24 {p : Program} {l : Launch} {e : Env} {s : State} {m : MethodId} {args : Array Value} {below : List Frame} {meth : Method} {c : Code} {G : GG} {M : Mm} {M2 : Mm} (C : CX p s m args c prog_14_method_67_code 6 "SnowSentriesModel" 1 G) (hlk : meth.locks = false) (hr : meth.sig.returnType = none) : f_X12_layHeat_24 M = some M2 → Z p l e { frames := 3, cells := 0, slots := 0, locals := 73 } s m args below meth c 1 G 6 (MQ below (QC 1 G none M2) args s 0 0 (AU 1 G)) 24 [(0, .ref (gB G + 0))] [] M := by
  intro h
  unfold f_X12_layHeat_24 at h
  refine z_bipush (v := (11 : Int32)) C d_X12_layHeat_24 (by decide) ?_
  refine z_istore_n (L' := [(1, .int (11 : Int32)), (0, .ref (gB G + 0))]) C d_X12_layHeat_26 rfl (by decide) rfl ?_
  exact z_sub [1, 0] rfl (k_X12_layHeat_27 C hlk hr _ _ _ h)
set_option maxRecDepth 4000 in
theorem kb_X12_layHeat_2 {p : Program} {l : Launch} {e : Env} {s : State} {m : MethodId} {args : Array Value} {below : List Frame} {meth : Method} {c : Code} {G : GG} {k2 : Mm → Int32 → Option Mm} {M : Mm} {x1 : Int32} {M2 : Mm} (C : CX p s m args c prog_14_method_67_code 6 "SnowSentriesModel" 1 G) (hlk : meth.locks = false) (hr : meth.sig.returnType = none) (hk2 : ∀ (M : Mm) (x1 : Int32), k2 M x1 = some M2 → Z p l e { frames := 3, cells := 0, slots := 0, locals := 73 } s m args below meth c 1 G 6 (MQ below (QC 1 G none M2) args s 0 0 (AU 1 G)) 2 [(0, .ref (gB G + 0)), (1, .int x1)] [] M) : b_X12_layHeat_2 k2 M x1 = some M2 → Z p l e { frames := 3, cells := 0, slots := 0, locals := 73 } s m args below meth c 1 G 6 (MQ below (QC 1 G none M2) args s 0 0 (AU 1 G)) 2 [(0, .ref (gB G + 0)), (1, .int x1)] [] M := by
  intro h
  unfold b_X12_layHeat_2 at h
  refine z_iload_n 1 C d_X12_layHeat_2 rfl rfl ?_
  refine z_bipush (v := (10 : Int32)) C d_X12_layHeat_3 (by decide) ?_
  refine z_icmp_ge C d_X12_layHeat_5 (fun q1 => ?_) (fun q1 => ?_)
  · have h := o_t q1 h
    exact z_sub [0] rfl (k_X12_layHeat_24 C hlk hr h)
  · have h := o_f q1 h
    refine z_aload_n 0 C d_X12_layHeat_8 rfl rfl ?_
    refine z_get (k := 28) (v := .ref (gB G + 13)) C (eY_0 _ _) (by decide) rfl inX12 (by decide) wf_X12_53 rfl d_X12_layHeat_9 ?_
    refine z_bipush (v := (120 : Int32)) C d_X12_layHeat_12 (by decide) ?_
    refine z_iload_n 1 C d_X12_layHeat_14 rfl rfl ?_
    refine z_iadd C d_X12_layHeat_15 ?_
    refine z_iconst (v := (0 : Int32)) C d_X12_layHeat_16 (by decide) ?_
    obtain ⟨q4, h⟩ := o_ck h
    obtain ⟨M2, e3, h⟩ := o_wr h
    refine z_ast (fun r q => eY_13 r q) C (by decide) q4 d_X12_layHeat_17 ?_
    refine z_nM e3 ?_
    refine z_iinc (v := (1 : Int32)) (L' := [(1, .int (x1 + (1 : Int32))), (0, .ref (gB G + 0))]) 1 C d_X12_layHeat_18 rfl (by decide) (by decide) rfl ?_
    refine z_goto C d_X12_layHeat_21 ?_
    exact z_sub [1, 0] rfl (hk2 _ _  h)
theorem k_X12_layHeat_2 {p : Program} {l : Launch} {e : Env} {s : State} {m : MethodId} {args : Array Value} {below : List Frame} {meth : Method} {c : Code} {G : GG} {M2 : Mm} (C : CX p s m args c prog_14_method_67_code 6 "SnowSentriesModel" 1 G) (hlk : meth.locks = false) (hr : meth.sig.returnType = none) : ∀ (n : Nat) (M : Mm) (x1 : Int32), f_X12_layHeat_2 n M x1 = some M2 → Z p l e { frames := 3, cells := 0, slots := 0, locals := 73 } s m args below meth c 1 G 6 (MQ below (QC 1 G none M2) args s 0 0 (AU 1 G)) 2 [(0, .ref (gB G + 0)), (1, .int x1)] [] M := by
  intro n
  induction n with
  | zero =>
    intro M x1  h
    exact absurd h (fun z => by cases z)
  | succ n ih =>
    intro M x1  h
    exact kb_X12_layHeat_2 C hlk hr  (fun M x1 h => ih M x1 h) h
set_option maxRecDepth 4000 in
theorem k_X12_layHeat_0 {p : Program} {l : Launch} {e : Env} {s : State} {m : MethodId} {args : Array Value} {below : List Frame} {meth : Method} {c : Code} {G : GG} {M : Mm} {M2 : Mm} (C : CX p s m args c prog_14_method_67_code 6 "SnowSentriesModel" 1 G) (hlk : meth.locks = false) (hr : meth.sig.returnType = none) : f_X12_layHeat M = some M2 → Z p l e { frames := 3, cells := 0, slots := 0, locals := 73 } s m args below meth c 1 G 6 (MQ below (QC 1 G none M2) args s 0 0 (AU 1 G)) 0 [(0, .ref (gB G + 0))] [] M := by
  intro h
  unfold f_X12_layHeat at h
  refine z_iconst (v := (0 : Int32)) C d_X12_layHeat_0 (by decide) ?_
  refine z_istore_n (L' := [(1, .int (0 : Int32)), (0, .ref (gB G + 0))]) C d_X12_layHeat_1 rfl (by decide) rfl ?_
  exact z_sub [1, 0] rfl (k_X12_layHeat_2 C hlk hr _ _ _ h)
theorem c_X12_layHeat (l : Launch) (G : GG) {M : Mm} {M2 : Mm} (h : f_X12_layHeat M = some M2) : CT l 1 G y_X12_layHeat prog_14_method_67_code 6 none 3 73 [.ref (gB G + 0)] M none M2 :=
  CT.of (by decide +kernel) (Nat.le_of_ble_eq_true rfl) rfl (fun p e s m args below meth c C hlk hr => k_X12_layHeat_0 C hlk hr h)
-- SnowSentriesModel.lead(III)I
set_option maxRecDepth 4000 in
theorem k_X12_lead_52 {p : Program} {l : Launch} {e : Env} {s : State} {m : MethodId} {args : Array Value} {below : List Frame} {meth : Method} {c : Code} {G : GG} {M : Mm} {r : Int32} {M2 : Mm} (C : CX p s m args c prog_14_method_68_code 9 "SnowSentriesModel" 1 G) (hlk : meth.locks = false) (hr : meth.sig.returnType = (some .int)) : f_X12_lead_52 M = some (r, M2) → Z p l e { frames := 4, cells := 0, slots := 0, locals := 98 } s m args below meth c 1 G 9 (MQ below (QC 1 G (some (.int r)) M2) args s 0 0 (AU 1 G)) 52 [] [] M := by
  intro h
  unfold f_X12_lead_52 at h
  refine z_iconst (v := (-1 : Int32)) C d_X12_lead_52 (by decide) ?_
  obtain ⟨rfl, rfl⟩ := o_pair h
  exact z_iret C hlk hr d_X12_lead_53
set_option maxRecDepth 4000 in
theorem k_X12_lead_73 {p : Program} {l : Launch} {e : Env} {s : State} {m : MethodId} {args : Array Value} {below : List Frame} {meth : Method} {c : Code} {G : GG} {M : Mm} {s_0 : Int32} {r : Int32} {M2 : Mm} (C : CX p s m args c prog_14_method_68_code 9 "SnowSentriesModel" 1 G) (hlk : meth.locks = false) (hr : meth.sig.returnType = (some .int)) : f_X12_lead_73 M s_0 = some (r, M2) → Z p l e { frames := 4, cells := 0, slots := 0, locals := 98 } s m args below meth c 1 G 9 (MQ below (QC 1 G (some (.int r)) M2) args s 0 0 (AU 1 G)) 73 [] [.int s_0] M := by
  intro h
  unfold f_X12_lead_73 at h
  obtain ⟨rfl, rfl⟩ := o_pair h
  exact z_iret C hlk hr d_X12_lead_73
set_option maxRecDepth 4000 in
theorem k_X12_lead_112 {p : Program} {l : Launch} {e : Env} {s : State} {m : MethodId} {args : Array Value} {below : List Frame} {meth : Method} {c : Code} {G : GG} {M : Mm} {s_0 : Int32} {r : Int32} {M2 : Mm} (C : CX p s m args c prog_14_method_68_code 9 "SnowSentriesModel" 1 G) (hlk : meth.locks = false) (hr : meth.sig.returnType = (some .int)) : f_X12_lead_112 M s_0 = some (r, M2) → Z p l e { frames := 4, cells := 0, slots := 0, locals := 98 } s m args below meth c 1 G 9 (MQ below (QC 1 G (some (.int r)) M2) args s 0 0 (AU 1 G)) 112 [] [.int s_0] M := by
  intro h
  unfold f_X12_lead_112 at h
  obtain ⟨rfl, rfl⟩ := o_pair h
  exact z_iret C hlk hr d_X12_lead_112
set_option maxRecDepth 4000 in
theorem k_X12_lead_206 {p : Program} {l : Launch} {e : Env} {s : State} {m : MethodId} {args : Array Value} {below : List Frame} {meth : Method} {c : Code} {G : GG} {k135 : Int32 → Int32 → Int32 → Option (Int32 × Mm)} {M : Mm} {x3 : Int32} {x4 : Int32} {x5 : Int32} {x7 : Int32} {x8 : Int32} {r : Int32} {M2 : Mm} (C : CX p s m args c prog_14_method_68_code 9 "SnowSentriesModel" 1 G) (hlk : meth.locks = false) (hr : meth.sig.returnType = (some .int)) (hk135 : ∀ (x4 : Int32) (x6 : Int32) (x7 : Int32), k135 x4 x6 x7 = some (r, M2) → Z p l e { frames := 4, cells := 0, slots := 0, locals := 98 } s m args below meth c 1 G 9 (MQ below (QC 1 G (some (.int r)) M2) args s 0 0 (AU 1 G)) 135 [(0, .ref (gB G + 0)), (3, .int x3), (4, .int x4), (5, .int x5), (6, .int x6), (7, .int x7)] [] M) : f_X12_lead_206 k135 M x3 x4 x5 x7 x8 = some (r, M2) → Z p l e { frames := 4, cells := 0, slots := 0, locals := 98 } s m args below meth c 1 G 9 (MQ below (QC 1 G (some (.int r)) M2) args s 0 0 (AU 1 G)) 206 [(0, .ref (gB G + 0)), (3, .int x3), (4, .int x4), (5, .int x5), (7, .int x7), (8, .int x8)] [] M := by
  intro h
  unfold f_X12_lead_206 at h
  refine z_iload 2 C d_X12_lead_206 rfl ?_
  refine z_aload_n 0 C d_X12_lead_208 rfl rfl ?_
  refine z_iload 5 C d_X12_lead_209 rfl ?_
  refine z_iload 4 C d_X12_lead_211 rfl ?_
  refine z_iconst (v := (1 : Int32)) C d_X12_lead_213 (by decide) ?_
  obtain ⟨p2, e1, h⟩ := o_bd h
  refine z_V (S := [.int x4]) (As := [.int x8, .int x7, .int (1 : Int32)]) C (c_X12_heat l G e1) (eY_0 _ _) (by decide) rfl wc_X12_heat wm_X12_267 ws_X12_heat wl_X12_heat wi_X12 hy_X12_heat ⟨Nat.le_of_ble_eq_true rfl, Nat.le_of_ble_eq_true rfl⟩ rfl rfl (Nat.le_of_ble_eq_true rfl) d_X12_lead_214 ?_
  refine z_isub C d_X12_lead_217 ?_
  obtain ⟨v3, e4, h⟩ := o_nm h
  refine z_nI e4 ?_
  refine z_istore (L' := [(4, .int v3), (0, .ref (gB G + 0)), (3, .int x3), (5, .int x5), (7, .int x7), (8, .int x8)]) C d_X12_lead_218 (by decide) rfl ?_
  refine z_iload 5 C d_X12_lead_220 rfl ?_
  refine z_istore (L' := [(6, .int x8), (4, .int v3), (0, .ref (gB G + 0)), (3, .int x3), (5, .int x5), (7, .int x7), (8, .int x8)]) C d_X12_lead_222 (by decide) rfl ?_
  refine z_iinc (v := (1 : Int32)) (L' := [(7, .int (x7 + (1 : Int32))), (6, .int x8), (4, .int v3), (0, .ref (gB G + 0)), (3, .int x3), (5, .int x5), (8, .int x8)]) 5 C d_X12_lead_224 rfl (by decide) (by decide) rfl ?_
  refine z_goto C d_X12_lead_227 ?_
  exact z_sub [3, 4, 2, 5, 1, 0] rfl (hk135 _ _ _  h)
set_option maxRecDepth 4000 in
theorem kb_X12_lead_165 {p : Program} {l : Launch} {e : Env} {s : State} {m : MethodId} {args : Array Value} {below : List Frame} {meth : Method} {c : Code} {G : GG} {k135 : Int32 → Int32 → Int32 → Option (Int32 × Mm)} {k165 : Int32 → Option (Int32 × Mm)} {M : Mm} {x3 : Int32} {x4 : Int32} {x5 : Int32} {x7 : Int32} {x8 : Int32} {r : Int32} {M2 : Mm} (C : CX p s m args c prog_14_method_68_code 9 "SnowSentriesModel" 1 G) (hlk : meth.locks = false) (hr : meth.sig.returnType = (some .int)) (hk135 : ∀ (x4 : Int32) (x6 : Int32) (x7 : Int32), k135 x4 x6 x7 = some (r, M2) → Z p l e { frames := 4, cells := 0, slots := 0, locals := 98 } s m args below meth c 1 G 9 (MQ below (QC 1 G (some (.int r)) M2) args s 0 0 (AU 1 G)) 135 [(0, .ref (gB G + 0)), (3, .int x3), (4, .int x4), (5, .int x5), (6, .int x6), (7, .int x7)] [] M) (hk165 : ∀ (x8 : Int32), k165 x8 = some (r, M2) → Z p l e { frames := 4, cells := 0, slots := 0, locals := 98 } s m args below meth c 1 G 9 (MQ below (QC 1 G (some (.int r)) M2) args s 0 0 (AU 1 G)) 165 [(0, .ref (gB G + 0)), (3, .int x3), (4, .int x4), (5, .int x5), (7, .int x7), (8, .int x8)] [] M) : b_X12_lead_165 k135 k165 M x3 x4 x5 x7 x8 = some (r, M2) → Z p l e { frames := 4, cells := 0, slots := 0, locals := 98 } s m args below meth c 1 G 9 (MQ below (QC 1 G (some (.int r)) M2) args s 0 0 (AU 1 G)) 165 [(0, .ref (gB G + 0)), (3, .int x3), (4, .int x4), (5, .int x5), (7, .int x7), (8, .int x8)] [] M := by
  intro h
  unfold b_X12_lead_165 at h
  refine z_iload 3 C d_X12_lead_165 rfl ?_
  refine z_if_ne C d_X12_lead_167 (fun q1 => ?_) (fun q1 => ?_)
  · have h := o_f q1 h
    exact z_sub [0, 1, 2, 3, 4, 5] rfl (k_X12_lead_206 C hlk hr hk135 h)
  · have h := o_t q1 h
    refine z_aload_n 0 C d_X12_lead_170 rfl rfl ?_
    refine z_iload 5 C d_X12_lead_171 rfl ?_
    refine z_iload 4 C d_X12_lead_173 rfl ?_
    refine z_iconst (v := (1 : Int32)) C d_X12_lead_175 (by decide) ?_
    obtain ⟨p3, e2, h⟩ := o_bd h
    refine z_V (S := []) (As := [.int x8, .int x7, .int (1 : Int32)]) C (c_X12_heat l G e2) (eY_0 _ _) (by decide) rfl wc_X12_heat wm_X12_267 ws_X12_heat wl_X12_heat wi_X12 hy_X12_heat ⟨Nat.le_of_ble_eq_true rfl, Nat.le_of_ble_eq_true rfl⟩ rfl rfl (Nat.le_of_ble_eq_true rfl) d_X12_lead_176 ?_
    refine z_aload_n 0 C d_X12_lead_179 rfl rfl ?_
    refine z_get (k := 28) (v := .ref (gB G + 13)) C (eY_0 _ _) (by decide) rfl inX12 (by decide) wf_X12_53 rfl d_X12_lead_180 ?_
    refine z_bipush (v := (10 : Int32)) C d_X12_lead_183 (by decide) ?_
    refine z_iload 4 C d_X12_lead_185 rfl ?_
    refine z_iconst (v := (1 : Int32)) C d_X12_lead_187 (by decide) ?_
    refine z_iadd C d_X12_lead_188 ?_
    refine z_imul C d_X12_lead_189 ?_
    refine z_iload 5 C d_X12_lead_190 rfl ?_
    refine z_iadd C d_X12_lead_192 ?_
    obtain ⟨q4, h⟩ := o_ck h
    refine z_ald (eY_13 _ _) C (by decide) q4 d_X12_lead_193 ?_
    refine z_iadd C d_X12_lead_194 ?_
    refine z_iload 2 C d_X12_lead_195 rfl ?_
    refine z_icmp_eq C d_X12_lead_197 (fun q5 => ?_) (fun q5 => ?_)
    · have h := o_t q5 h
      exact z_sub [0, 1, 2, 3, 4, 5] rfl (k_X12_lead_206 C hlk hr hk135 h)
    · have h := o_f q5 h
      refine z_iinc (v := (1 : Int32)) (L' := [(8, .int (x8 + (1 : Int32))), (0, .ref (gB G + 0)), (3, .int x3), (4, .int x4), (5, .int x5), (7, .int x7)]) 5 C d_X12_lead_200 rfl (by decide) (by decide) rfl ?_
      refine z_goto C d_X12_lead_203 ?_
      exact z_sub [1, 2, 3, 4, 5, 0] rfl (hk165 _  h)
theorem k_X12_lead_165 {p : Program} {l : Launch} {e : Env} {s : State} {m : MethodId} {args : Array Value} {below : List Frame} {meth : Method} {c : Code} {G : GG} {k135 : Int32 → Int32 → Int32 → Option (Int32 × Mm)} {M : Mm} {x3 : Int32} {x4 : Int32} {x5 : Int32} {x7 : Int32} {r : Int32} {M2 : Mm} (C : CX p s m args c prog_14_method_68_code 9 "SnowSentriesModel" 1 G) (hlk : meth.locks = false) (hr : meth.sig.returnType = (some .int)) (hk135 : ∀ (x4 : Int32) (x6 : Int32) (x7 : Int32), k135 x4 x6 x7 = some (r, M2) → Z p l e { frames := 4, cells := 0, slots := 0, locals := 98 } s m args below meth c 1 G 9 (MQ below (QC 1 G (some (.int r)) M2) args s 0 0 (AU 1 G)) 135 [(0, .ref (gB G + 0)), (3, .int x3), (4, .int x4), (5, .int x5), (6, .int x6), (7, .int x7)] [] M) : ∀ (n : Nat) (x8 : Int32), f_X12_lead_165 k135 M x3 x4 x5 x7 n x8 = some (r, M2) → Z p l e { frames := 4, cells := 0, slots := 0, locals := 98 } s m args below meth c 1 G 9 (MQ below (QC 1 G (some (.int r)) M2) args s 0 0 (AU 1 G)) 165 [(0, .ref (gB G + 0)), (3, .int x3), (4, .int x4), (5, .int x5), (7, .int x7), (8, .int x8)] [] M := by
  intro n
  induction n with
  | zero =>
    intro x8  h
    exact absurd h (fun z => by cases z)
  | succ n ih =>
    intro x8  h
    exact kb_X12_lead_165 C hlk hr hk135 (fun x8 h => ih x8 h) h
set_option maxRecDepth 4000 in
theorem k_X12_lead_163 {p : Program} {l : Launch} {e : Env} {s : State} {m : MethodId} {args : Array Value} {below : List Frame} {meth : Method} {c : Code} {G : GG} {k135 : Int32 → Int32 → Int32 → Option (Int32 × Mm)} {M : Mm} {x3 : Int32} {x4 : Int32} {x5 : Int32} {x7 : Int32} {s_0 : Int32} {r : Int32} {M2 : Mm} (C : CX p s m args c prog_14_method_68_code 9 "SnowSentriesModel" 1 G) (hlk : meth.locks = false) (hr : meth.sig.returnType = (some .int)) (hk135 : ∀ (x4 : Int32) (x6 : Int32) (x7 : Int32), k135 x4 x6 x7 = some (r, M2) → Z p l e { frames := 4, cells := 0, slots := 0, locals := 98 } s m args below meth c 1 G 9 (MQ below (QC 1 G (some (.int r)) M2) args s 0 0 (AU 1 G)) 135 [(0, .ref (gB G + 0)), (3, .int x3), (4, .int x4), (5, .int x5), (6, .int x6), (7, .int x7)] [] M) : f_X12_lead_163 k135 M x3 x4 x5 x7 s_0 = some (r, M2) → Z p l e { frames := 4, cells := 0, slots := 0, locals := 98 } s m args below meth c 1 G 9 (MQ below (QC 1 G (some (.int r)) M2) args s 0 0 (AU 1 G)) 163 [(0, .ref (gB G + 0)), (3, .int x3), (4, .int x4), (5, .int x5), (7, .int x7)] [.int s_0] M := by
  intro h
  unfold f_X12_lead_163 at h
  refine z_istore (L' := [(8, .int s_0), (0, .ref (gB G + 0)), (3, .int x3), (4, .int x4), (5, .int x5), (7, .int x7)]) C d_X12_lead_163 (by decide) rfl ?_
  exact z_sub [1, 2, 3, 4, 5, 0] rfl (k_X12_lead_165 C hlk hr hk135 _ _ h)
set_option maxRecDepth 4000 in
theorem kb_X12_lead_135 {p : Program} {l : Launch} {e : Env} {s : State} {m : MethodId} {args : Array Value} {below : List Frame} {meth : Method} {c : Code} {G : GG} {k135 : Int32 → Int32 → Int32 → Option (Int32 × Mm)} {M : Mm} {x3 : Int32} {x5 : Int32} {x4 : Int32} {x6 : Int32} {x7 : Int32} {r : Int32} {M2 : Mm} (C : CX p s m args c prog_14_method_68_code 9 "SnowSentriesModel" 1 G) (hlk : meth.locks = false) (hr : meth.sig.returnType = (some .int)) (hk135 : ∀ (x4 : Int32) (x6 : Int32) (x7 : Int32), k135 x4 x6 x7 = some (r, M2) → Z p l e { frames := 4, cells := 0, slots := 0, locals := 98 } s m args below meth c 1 G 9 (MQ below (QC 1 G (some (.int r)) M2) args s 0 0 (AU 1 G)) 135 [(0, .ref (gB G + 0)), (3, .int x3), (4, .int x4), (5, .int x5), (6, .int x6), (7, .int x7)] [] M) : b_X12_lead_135 k135 M x3 x5 x4 x6 x7 = some (r, M2) → Z p l e { frames := 4, cells := 0, slots := 0, locals := 98 } s m args below meth c 1 G 9 (MQ below (QC 1 G (some (.int r)) M2) args s 0 0 (AU 1 G)) 135 [(0, .ref (gB G + 0)), (3, .int x3), (4, .int x4), (5, .int x5), (6, .int x6), (7, .int x7)] [] M := by
  intro h
  unfold b_X12_lead_135 at h
  refine z_iload 5 C d_X12_lead_135 rfl ?_
  refine z_aload_n 0 C d_X12_lead_137 rfl rfl ?_
  obtain ⟨p2, e1, h⟩ := o_bd h
  refine z_V (S := [.int x7]) (As := []) C (c_X12_hourNow l G e1) (eY_0 _ _) (by decide) rfl wc_X12_hourNow wm_X12_185 ws_X12_hourNow wl_X12_hourNow wi_X12 hy_X12_hourNow ⟨Nat.le_of_ble_eq_true rfl, Nat.le_of_ble_eq_true rfl⟩ rfl rfl (Nat.le_of_ble_eq_true rfl) d_X12_lead_138 ?_
  refine z_iload_n 1 C d_X12_lead_141 rfl rfl ?_
  refine z_iadd C d_X12_lead_142 ?_
  refine z_bipush (v := (10 : Int32)) C d_X12_lead_143 (by decide) ?_
  refine z_isub C d_X12_lead_145 ?_
  refine z_icmp_gt C d_X12_lead_146 (fun q3 => ?_) (fun q3 => ?_)
  · have h := o_t q3 h
    refine z_iload 4 C d_X12_lead_230 rfl ?_
    obtain ⟨rfl, rfl⟩ := o_pair h
    exact z_iret C hlk hr d_X12_lead_232
  · have h := o_f q3 h
    refine z_iload 4 C d_X12_lead_149 rfl ?_
    refine z_if_le C d_X12_lead_151 (fun q4 => ?_) (fun q4 => ?_)
    · have h := o_t q4 h
      refine z_iload 4 C d_X12_lead_161 rfl ?_
      exact z_sub [0, 1, 2, 3, 5] rfl (k_X12_lead_163 C hlk hr hk135 h)
    · have h := o_f q4 h
      refine z_iload 4 C d_X12_lead_154 rfl ?_
      refine z_iconst (v := (1 : Int32)) C d_X12_lead_156 (by decide) ?_
      refine z_isub C d_X12_lead_157 ?_
      refine z_goto C d_X12_lead_158 ?_
      exact z_sub [0, 1, 2, 3, 5] rfl (k_X12_lead_163 C hlk hr hk135 h)
theorem k_X12_lead_135 {p : Program} {l : Launch} {e : Env} {s : State} {m : MethodId} {args : Array Value} {below : List Frame} {meth : Method} {c : Code} {G : GG} {M : Mm} {x3 : Int32} {x5 : Int32} {r : Int32} {M2 : Mm} (C : CX p s m args c prog_14_method_68_code 9 "SnowSentriesModel" 1 G) (hlk : meth.locks = false) (hr : meth.sig.returnType = (some .int)) : ∀ (n : Nat) (x4 : Int32) (x6 : Int32) (x7 : Int32), f_X12_lead_135 M x3 x5 n x4 x6 x7 = some (r, M2) → Z p l e { frames := 4, cells := 0, slots := 0, locals := 98 } s m args below meth c 1 G 9 (MQ below (QC 1 G (some (.int r)) M2) args s 0 0 (AU 1 G)) 135 [(0, .ref (gB G + 0)), (3, .int x3), (4, .int x4), (5, .int x5), (6, .int x6), (7, .int x7)] [] M := by
  intro n
  induction n with
  | zero =>
    intro x4 x6 x7  h
    exact absurd h (fun z => by cases z)
  | succ n ih =>
    intro x4 x6 x7  h
    exact kb_X12_lead_135 C hlk hr  (fun x4 x6 x7 h => ih x4 x6 x7 h) h
set_option maxRecDepth 4000 in
theorem k_X12_lead_124 {p : Program} {l : Launch} {e : Env} {s : State} {m : MethodId} {args : Array Value} {below : List Frame} {meth : Method} {c : Code} {G : GG} {M : Mm} {x1 : Int32} {x3 : Int32} {x4 : Int32} {s_0 : Int32} {r : Int32} {M2 : Mm} (C : CX p s m args c prog_14_method_68_code 9 "SnowSentriesModel" 1 G) (hlk : meth.locks = false) (hr : meth.sig.returnType = (some .int)) : f_X12_lead_124 M x1 x3 x4 s_0 = some (r, M2) → Z p l e { frames := 4, cells := 0, slots := 0, locals := 98 } s m args below meth c 1 G 9 (MQ below (QC 1 G (some (.int r)) M2) args s 0 0 (AU 1 G)) 124 [(0, .ref (gB G + 0)), (1, .int x1), (3, .int x3), (4, .int x4)] [.int s_0] M := by
  intro h
  unfold f_X12_lead_124 at h
  refine z_istore (L' := [(5, .int s_0), (0, .ref (gB G + 0)), (1, .int x1), (3, .int x3), (4, .int x4)]) C d_X12_lead_124 (by decide) rfl ?_
  refine z_iload_n 2 C d_X12_lead_126 rfl rfl ?_
  refine z_istore (L' := [(6, .int x1), (5, .int s_0), (0, .ref (gB G + 0)), (1, .int x1), (3, .int x3), (4, .int x4)]) C d_X12_lead_127 (by decide) rfl ?_
  refine z_aload_n 2 C d_X12_lead_129 rfl rfl ?_
  obtain ⟨p2, e1, h⟩ := o_bd h
  refine z_V (S := []) (As := []) C (c_X12_hourNow l G e1) (eY_0 _ _) (by decide) rfl wc_X12_hourNow wm_X12_185 ws_X12_hourNow wl_X12_hourNow wi_X12 hy_X12_hourNow ⟨Nat.le_of_ble_eq_true rfl, Nat.le_of_ble_eq_true rfl⟩ rfl rfl (Nat.le_of_ble_eq_true rfl) d_X12_lead_130 ?_
  refine z_istore (L' := [(7, .int p2), (6, .int x1), (5, .int s_0), (0, .ref (gB G + 0)), (1, .int x1), (3, .int x3), (4, .int x4)]) C d_X12_lead_133 (by decide) rfl ?_
  exact z_sub [3, 5, 6, 2, 1, 0] rfl (k_X12_lead_135 C hlk hr _ _ _ _ h)
set_option maxRecDepth 4000 in
theorem k_X12_lead_54 {p : Program} {l : Launch} {e : Env} {s : State} {m : MethodId} {args : Array Value} {below : List Frame} {meth : Method} {c : Code} {G : GG} {M : Mm} {x1 : Int32} {x2 : Int32} {x3 : Int32} {r : Int32} {M2 : Mm} (C : CX p s m args c prog_14_method_68_code 9 "SnowSentriesModel" 1 G) (hlk : meth.locks = false) (hr : meth.sig.returnType = (some .int)) : f_X12_lead_54 M x1 x2 x3 = some (r, M2) → Z p l e { frames := 4, cells := 0, slots := 0, locals := 98 } s m args below meth c 1 G 9 (MQ below (QC 1 G (some (.int r)) M2) args s 0 0 (AU 1 G)) 54 [(0, .ref (gB G + 0)), (1, .int x1), (2, .int x2), (3, .int x3)] [] M := by
  intro h
  unfold f_X12_lead_54 at h
  refine z_aload_n 0 C d_X12_lead_54 rfl rfl ?_
  obtain ⟨p2, e1, h⟩ := o_bd h
  refine z_V (S := []) (As := []) C (c_X12_hourNow l G e1) (eY_0 _ _) (by decide) rfl wc_X12_hourNow wm_X12_185 ws_X12_hourNow wl_X12_hourNow wi_X12 hy_X12_hourNow ⟨Nat.le_of_ble_eq_true rfl, Nat.le_of_ble_eq_true rfl⟩ rfl rfl (Nat.le_of_ble_eq_true rfl) d_X12_lead_55 ?_
  refine z_bipush (v := (12 : Int32)) C d_X12_lead_58 (by decide) ?_
  refine z_icmp_ne C d_X12_lead_60 (fun q3 => ?_) (fun q3 => ?_)
  · have h := o_f q3 h
    refine z_aload_n 0 C d_X12_lead_74 rfl rfl ?_
    obtain ⟨p5, e4, h⟩ := o_bd h
    refine z_V (S := []) (As := []) C (c_X12_layHeat l G e4) (eY_0 _ _) (by decide) rfl wc_X12_layHeat wm_X12_271 ws_X12_layHeat wl_X12_layHeat wi_X12 hy_X12_layHeat ⟨Nat.le_of_ble_eq_true rfl, Nat.le_of_ble_eq_true rfl⟩ rfl rfl (Nat.le_of_ble_eq_true rfl) d_X12_lead_75 ?_
    refine z_aload_n 0 C d_X12_lead_78 rfl rfl ?_
    refine z_get (k := 28) (v := .ref (gB G + 13)) C (eY_0 _ _) (by decide) rfl inX12 (by decide) wf_X12_53 rfl d_X12_lead_79 ?_
    refine z_bipush (v := (10 : Int32)) C d_X12_lead_82 (by decide) ?_
    refine z_aload_n 0 C d_X12_lead_84 rfl rfl ?_
    obtain ⟨p7, e6, h⟩ := o_bd h
    refine z_V (S := [.int (10 : Int32), .ref (gB G + 13)]) (As := []) C (c_X12_hourNow l G e6) (eY_0 _ _) (by decide) rfl wc_X12_hourNow wm_X12_185 ws_X12_hourNow wl_X12_hourNow wi_X12 hy_X12_hourNow ⟨Nat.le_of_ble_eq_true rfl, Nat.le_of_ble_eq_true rfl⟩ rfl rfl (Nat.le_of_ble_eq_true rfl) d_X12_lead_85 ?_
    refine z_imul C d_X12_lead_88 ?_
    refine z_iload_n 1 C d_X12_lead_89 rfl rfl ?_
    refine z_iadd C d_X12_lead_90 ?_
    obtain ⟨q8, h⟩ := o_ck h
    refine z_ald (eY_13 _ _) C (by decide) q8 d_X12_lead_91 ?_
    obtain ⟨v9, e10, h⟩ := o_nm h
    refine z_nI e10 ?_
    refine z_istore (L' := [(4, .int v9), (0, .ref (gB G + 0)), (1, .int x1), (2, .int x2), (3, .int x3)]) C d_X12_lead_92 (by decide) rfl ?_
    refine z_iload_n 4 C d_X12_lead_94 rfl rfl ?_
    refine z_if_ne C d_X12_lead_95 (fun q11 => ?_) (fun q11 => ?_)
    · have h := o_f q11 h
      refine z_iload_n 3 C d_X12_lead_113 rfl rfl ?_
      refine z_iload 0 C d_X12_lead_114 rfl ?_
      refine z_icmp_gt C d_X12_lead_116 (fun q12 => ?_) (fun q12 => ?_)
      · have h := o_t q12 h
        refine z_iconst (v := (0 : Int32)) C d_X12_lead_123 (by decide) ?_
        exact z_sub [1, 2, 4, 0] rfl (k_X12_lead_124 C hlk hr h)
      · have h := o_f q12 h
        refine z_iconst (v := (1 : Int32)) C d_X12_lead_119 (by decide) ?_
        refine z_goto C d_X12_lead_120 ?_
        exact z_sub [1, 2, 4, 0] rfl (k_X12_lead_124 C hlk hr h)
    · have h := o_t q11 h
      refine z_iload_n 3 C d_X12_lead_98 rfl rfl ?_
      refine z_iload 0 C d_X12_lead_99 rfl ?_
      refine z_icmp_le C d_X12_lead_101 (fun q13 => ?_) (fun q13 => ?_)
      · have h := o_t q13 h
        refine z_iconst (v := (0 : Int32)) C d_X12_lead_111 (by decide) ?_
        exact z_sub [] rfl (k_X12_lead_112 C hlk hr h)
      · have h := o_f q13 h
        refine z_iload_n 3 C d_X12_lead_104 rfl rfl ?_
        refine z_iload 0 C d_X12_lead_105 rfl ?_
        refine z_isub C d_X12_lead_107 ?_
        refine z_goto C d_X12_lead_108 ?_
        exact z_sub [] rfl (k_X12_lead_112 C hlk hr h)
  · have h := o_t q3 h
    refine z_iload_n 3 C d_X12_lead_63 rfl rfl ?_
    refine z_if_ne C d_X12_lead_64 (fun q14 => ?_) (fun q14 => ?_)
    · have h := o_f q14 h
      refine z_iconst (v := (-1 : Int32)) C d_X12_lead_72 (by decide) ?_
      exact z_sub [] rfl (k_X12_lead_73 C hlk hr h)
    · have h := o_t q14 h
      refine z_bipush (v := (-2 : Int32)) C d_X12_lead_67 (by decide) ?_
      refine z_goto C d_X12_lead_69 ?_
      exact z_sub [] rfl (k_X12_lead_73 C hlk hr h)
set_option maxRecDepth 4000 in
theorem k_X12_lead_0 {p : Program} {l : Launch} {e : Env} {s : State} {m : MethodId} {args : Array Value} {below : List Frame} {meth : Method} {c : Code} {G : GG} {M : Mm} {x1 : Int32} {x2 : Int32} {x3 : Int32} {r : Int32} {M2 : Mm} (C : CX p s m args c prog_14_method_68_code 9 "SnowSentriesModel" 1 G) (hlk : meth.locks = false) (hr : meth.sig.returnType = (some .int)) : f_X12_lead M x1 x2 x3 = some (r, M2) → Z p l e { frames := 4, cells := 0, slots := 0, locals := 98 } s m args below meth c 1 G 9 (MQ below (QC 1 G (some (.int r)) M2) args s 0 0 (AU 1 G)) 0 [(0, .ref (gB G + 0)), (1, .int x1), (2, .int x2), (3, .int x3)] [] M := by
  intro h
  unfold f_X12_lead at h
  refine z_aload_n 0 C d_X12_lead_0 rfl rfl ?_
  refine z_iload_n 1 C d_X12_lead_1 rfl rfl ?_
  obtain ⟨p2, e1, h⟩ := o_bd h
  refine z_V (S := []) (As := [.int x1]) C (c_X12_isFurlong l G e1) (eY_0 _ _) (by decide) rfl wc_X12_isFurlong wm_X12_201 ws_X12_isFurlong wl_X12_isFurlong wi_X12 hy_X12_isFurlong ⟨Nat.le_of_ble_eq_true rfl, Nat.le_of_ble_eq_true rfl⟩ rfl rfl (Nat.le_of_ble_eq_true rfl) d_X12_lead_2 ?_
  refine z_if_eq C d_X12_lead_5 (fun q3 => ?_) (fun q3 => ?_)
  · have h := o_t q3 h
    exact z_sub [] rfl (k_X12_lead_52 C hlk hr h)
  · have h := o_f q3 h
    refine z_iload_n 2 C d_X12_lead_8 rfl rfl ?_
    refine z_i2l C d_X12_lead_9 ?_
    refine z_lconst (v := (1 : Int64)) C d_X12_lead_10 (by decide) ?_
    refine z_ldc2 (v := (99 : Int64)) C wk_X12_223 d_X12_lead_11 ?_
    obtain ⟨p5, e4, h⟩ := o_bd h
    refine z_S (S := []) (As := [.long x2.toInt64, .long (1 : Int64), .long (99 : Int64)]) C (c_X12_in l G (M := M) e4) wc_X12_in wm_X12_75 ws_X12_in wi_X12 hy_X12_in ⟨Nat.le_of_ble_eq_true rfl, Nat.le_of_ble_eq_true rfl⟩ rfl rfl (Nat.le_of_ble_eq_true rfl) d_X12_lead_14 ?_
    refine z_if_eq C d_X12_lead_17 (fun q6 => ?_) (fun q6 => ?_)
    · have h := o_t q6 h
      exact z_sub [] rfl (k_X12_lead_52 C hlk hr h)
    · have h := o_f q6 h
      refine z_iload_n 3 C d_X12_lead_20 rfl rfl ?_
      refine z_if_eq C d_X12_lead_21 (fun q7 => ?_) (fun q7 => ?_)
      · have h := o_t q7 h
        exact z_sub [0, 1, 2, 3] rfl (k_X12_lead_54 C hlk hr h)
      · have h := o_f q7 h
        refine z_iload_n 3 C d_X12_lead_24 rfl rfl ?_
        refine z_i2l C d_X12_lead_25 ?_
        refine z_ldc2 (v := (10 : Int64)) C wk_X12_225 d_X12_lead_26 ?_
        refine z_bipush (v := (21 : Int32)) C d_X12_lead_29 (by decide) ?_
        refine z_aload_n 0 C d_X12_lead_31 rfl rfl ?_
        obtain ⟨p9, e8, h⟩ := o_bd h
        refine z_V (S := [.int (21 : Int32), .long (10 : Int64), .long x3.toInt64]) (As := []) C (c_X12_hourNow l G e8) (eY_0 _ _) (by decide) rfl wc_X12_hourNow wm_X12_185 ws_X12_hourNow wl_X12_hourNow wi_X12 hy_X12_hourNow ⟨Nat.le_of_ble_eq_true rfl, Nat.le_of_ble_eq_true rfl⟩ rfl rfl (Nat.le_of_ble_eq_true rfl) d_X12_lead_32 ?_
        refine z_isub C d_X12_lead_35 ?_
        refine z_i2l C d_X12_lead_36 ?_
        obtain ⟨p11, e10, h⟩ := o_bd h
        refine z_S (S := []) (As := [.long x3.toInt64, .long (10 : Int64), .long (((21 : Int32) - p9).toInt64)]) C (c_X12_in l G (M := M) e10) wc_X12_in wm_X12_75 ws_X12_in wi_X12 hy_X12_in ⟨Nat.le_of_ble_eq_true rfl, Nat.le_of_ble_eq_true rfl⟩ rfl rfl (Nat.le_of_ble_eq_true rfl) d_X12_lead_37 ?_
        refine z_if_ne C d_X12_lead_40 (fun q12 => ?_) (fun q12 => ?_)
        · have h := o_f q12 h
          exact z_sub [0, 1, 2, 3] rfl (k_X12_lead_54 C hlk hr h)
        · have h := o_t q12 h
          refine z_aload_n 0 C d_X12_lead_43 rfl rfl ?_
          obtain ⟨p14, e13, h⟩ := o_bd h
          refine z_V (S := []) (As := []) C (c_X12_hourNow l G e13) (eY_0 _ _) (by decide) rfl wc_X12_hourNow wm_X12_185 ws_X12_hourNow wl_X12_hourNow wi_X12 hy_X12_hourNow ⟨Nat.le_of_ble_eq_true rfl, Nat.le_of_ble_eq_true rfl⟩ rfl rfl (Nat.le_of_ble_eq_true rfl) d_X12_lead_44 ?_
          refine z_bipush (v := (12 : Int32)) C d_X12_lead_47 (by decide) ?_
          refine z_icmp_ge C d_X12_lead_49 (fun q15 => ?_) (fun q15 => ?_)
          · have h := o_t q15 h
            exact z_sub [0, 1, 2, 3] rfl (k_X12_lead_54 C hlk hr h)
          · have h := o_f q15 h
            exact z_sub [] rfl (k_X12_lead_52 C hlk hr h)
theorem c_X12_lead (l : Launch) (G : GG) {M : Mm} {x1 : Int32} {x2 : Int32} {x3 : Int32} {r : Int32} {M2 : Mm} (h : f_X12_lead M x1 x2 x3 = some (r, M2)) : CT l 1 G y_X12_lead prog_14_method_68_code 9 (some .int) 4 98 [.ref (gB G + 0), .int x1, .int x2, .int x3] M (some (.int r)) M2 :=
  CT.of (by decide +kernel) (Nat.le_of_ble_eq_true rfl) rfl (fun p e s m args below meth c C hlk hr => k_X12_lead_0 C hlk hr h)
-- SnowSentriesModel.felt(I)I
set_option maxRecDepth 4000 in
theorem k_X12_felt_0 {p : Program} {l : Launch} {e : Env} {s : State} {m : MethodId} {args : Array Value} {below : List Frame} {meth : Method} {c : Code} {G : GG} {M : Mm} {x1 : Int32} {r : Int32} {M2 : Mm} (C : CX p s m args c prog_14_method_69_code 2 "SnowSentriesModel" 1 G) (hlk : meth.locks = false) (hr : meth.sig.returnType = (some .int)) : f_X12_felt M x1 = some (r, M2) → Z p l e { frames := 1, cells := 0, slots := 0, locals := 25 } s m args below meth c 1 G 2 (MQ below (QC 1 G (some (.int r)) M2) args s 0 0 (AU 1 G)) 0 [(0, .ref (gB G + 0)), (1, .int x1)] [] M := by
  intro h
  unfold f_X12_felt at h
  refine z_iload_n 1 C d_X12_felt_0 rfl rfl ?_
  refine z_i2l C d_X12_felt_1 ?_
  refine z_lconst (v := (0 : Int64)) C d_X12_felt_2 (by decide) ?_
  refine z_ldc2 (v := (99 : Int64)) C wk_X12_223 d_X12_felt_3 ?_
  obtain ⟨p2, e1, h⟩ := o_bd h
  refine z_S (S := []) (As := [.long x1.toInt64, .long (0 : Int64), .long (99 : Int64)]) C (c_X12_in l G (M := M) e1) wc_X12_in wm_X12_75 ws_X12_in wi_X12 hy_X12_in ⟨Nat.le_of_ble_eq_true rfl, Nat.le_of_ble_eq_true rfl⟩ rfl rfl (Nat.le_of_ble_eq_true rfl) d_X12_felt_6 ?_
  refine z_if_ne C d_X12_felt_9 (fun q3 => ?_) (fun q3 => ?_)
  · have h := o_f q3 h
    refine z_aload_n 0 C d_X12_felt_14 rfl rfl ?_
    refine z_get (k := 30) (v := .int (M.1 0 30)) C (eY_0 _ _) (by decide) rfl inX12 (by decide) wf_X12_173 rfl d_X12_felt_15 ?_
    refine z_aload_n 0 C d_X12_felt_18 rfl rfl ?_
    refine z_get (k := 1) (v := .int (M.1 0 1)) C (eY_0 _ _) (by decide) rfl inX12 (by decide) wf_X12_13 rfl d_X12_felt_19 ?_
    refine z_icmp_ne C d_X12_felt_22 (fun q4 => ?_) (fun q4 => ?_)
    · have h := o_f q4 h
      refine z_aload_n 0 C d_X12_felt_28 rfl rfl ?_
      refine z_get (k := 29) (v := .ref (gB G + 14)) C (eY_0 _ _) (by decide) rfl inX12 (by decide) wf_X12_56 rfl d_X12_felt_29 ?_
      refine z_aload_n 0 C d_X12_felt_32 rfl rfl ?_
      refine z_get (k := 30) (v := .int (M.1 0 30)) C (eY_0 _ _) (by decide) rfl inX12 (by decide) wf_X12_173 rfl d_X12_felt_33 ?_
      refine z_iload_n 1 C d_X12_felt_36 rfl rfl ?_
      obtain ⟨q7, h⟩ := o_ck h
      obtain ⟨M5, e6, h⟩ := o_wr h
      refine z_ast (fun r q => eY_14 r q) C (by decide) q7 d_X12_felt_37 ?_
      refine z_nM e6 ?_
      refine z_aload_n 0 C d_X12_felt_38 rfl rfl ?_
      refine z_dup C d_X12_felt_39 rfl ?_
      refine z_get (k := 30) (v := .int (M5.1 0 30)) C (eY_0 _ _) (by decide) rfl inX12 (by decide) wf_X12_173 rfl d_X12_felt_40 ?_
      refine z_iconst (v := (1 : Int32)) C d_X12_felt_43 (by decide) ?_
      refine z_iadd C d_X12_felt_44 ?_
      obtain ⟨M8, e9, h⟩ := o_wr h
      refine z_pI (k := 30) (ty := .int) C (fun r q => eY_0 r q) (fun _ _ => rfl) (by decide) rfl inX12 tyX12 tyX12_ok nmX12 (by decide) wf_X12_173 rfl (by decide +kernel) rfl rfl (Nat.le_of_ble_eq_true rfl) d_X12_felt_45 ?_
      refine z_nM e9 ?_
      refine z_aload_n 0 C d_X12_felt_48 rfl rfl ?_
      refine z_get (k := 30) (v := .int (M8.1 0 30)) C (eY_0 _ _) (by decide) rfl inX12 (by decide) wf_X12_173 rfl d_X12_felt_49 ?_
      obtain ⟨rfl, rfl⟩ := o_pair h
      exact z_iret C hlk hr d_X12_felt_52
    · have h := o_t q4 h
      refine z_bipush (v := (-3 : Int32)) C d_X12_felt_25 (by decide) ?_
      obtain ⟨rfl, rfl⟩ := o_pair h
      exact z_iret C hlk hr d_X12_felt_27
  · have h := o_t q3 h
    refine z_iconst (v := (-1 : Int32)) C d_X12_felt_12 (by decide) ?_
    obtain ⟨rfl, rfl⟩ := o_pair h
    exact z_iret C hlk hr d_X12_felt_13
theorem c_X12_felt (l : Launch) (G : GG) {M : Mm} {x1 : Int32} {r : Int32} {M2 : Mm} (h : f_X12_felt M x1 = some (r, M2)) : CT l 1 G y_X12_felt prog_14_method_69_code 2 (some .int) 1 25 [.ref (gB G + 0), .int x1] M (some (.int r)) M2 :=
  CT.of (by decide +kernel) (Nat.le_of_ble_eq_true rfl) rfl (fun p e s m args below meth c C hlk hr => k_X12_felt_0 C hlk hr h)
-- SnowSentriesModel.forget()I
set_option maxRecDepth 4000 in
theorem k_X12_forget_0 {p : Program} {l : Launch} {e : Env} {s : State} {m : MethodId} {args : Array Value} {below : List Frame} {meth : Method} {c : Code} {G : GG} {M : Mm} {r : Int32} {M2 : Mm} (C : CX p s m args c prog_14_method_70_code 2 "SnowSentriesModel" 1 G) (hlk : meth.locks = false) (hr : meth.sig.returnType = (some .int)) : f_X12_forget M = some (r, M2) → Z p l e { frames := 0, cells := 0, slots := 0, locals := 0 } s m args below meth c 1 G 2 (MQ below (QC 1 G (some (.int r)) M2) args s 0 0 (AU 1 G)) 0 [(0, .ref (gB G + 0))] [] M := by
  intro h
  unfold f_X12_forget at h
  refine z_aload_n 0 C d_X12_forget_0 rfl rfl ?_
  refine z_get (k := 30) (v := .int (M.1 0 30)) C (eY_0 _ _) (by decide) rfl inX12 (by decide) wf_X12_173 rfl d_X12_forget_1 ?_
  obtain ⟨v1, e2, h⟩ := o_nm h
  refine z_nI e2 ?_
  refine z_istore_n (L' := [(1, .int v1), (0, .ref (gB G + 0))]) C d_X12_forget_4 rfl (by decide) rfl ?_
  refine z_aload_n 1 C d_X12_forget_5 rfl rfl ?_
  refine z_iconst (v := (0 : Int32)) C d_X12_forget_6 (by decide) ?_
  obtain ⟨M3, e4, h⟩ := o_wr h
  refine z_pI (k := 30) (ty := .int) C (fun r q => eY_0 r q) (fun _ _ => rfl) (by decide) rfl inX12 tyX12 tyX12_ok nmX12 (by decide) wf_X12_173 rfl (by decide +kernel) rfl rfl (Nat.le_of_ble_eq_true rfl) d_X12_forget_7 ?_
  refine z_nM e4 ?_
  refine z_iload_n 0 C d_X12_forget_10 rfl rfl ?_
  obtain ⟨rfl, rfl⟩ := o_pair h
  exact z_iret C hlk hr d_X12_forget_11
theorem c_X12_forget (l : Launch) (G : GG) {M : Mm} {r : Int32} {M2 : Mm} (h : f_X12_forget M = some (r, M2)) : CT l 1 G y_X12_forget prog_14_method_70_code 2 (some .int) 0 0 [.ref (gB G + 0)] M (some (.int r)) M2 :=
  CT.of (by decide +kernel) (Nat.le_of_ble_eq_true rfl) rfl (fun p e s m args below meth c C hlk hr => k_X12_forget_0 C hlk hr h)
-- SnowSentriesModel.areFelt(IIII)Z
set_option maxRecDepth 4000 in
theorem k_X12_areFelt_51 {p : Program} {l : Launch} {e : Env} {s : State} {m : MethodId} {args : Array Value} {below : List Frame} {meth : Method} {c : Code} {G : GG} {k6 : Int32 → Int32 → Option Int32} {M : Mm} {x1 : Int32} {x2 : Int32} {x3 : Int32} {x4 : Int32} {x6 : Int32} {s_0 : Int32} {r : Int32} (C : CX p s m args c prog_14_method_71_code 7 "SnowSentriesModel" 1 G) (hlk : meth.locks = false) (hr : meth.sig.returnType = (some .boolean)) (hk6 : ∀ (x5 : Int32) (x6 : Int32), k6 x5 x6 = some r → Z p l e { frames := 1, cells := 0, slots := 0, locals := 23 } s m args below meth c 1 G 7 (MQ below (QC 1 G (some (.int r)) M) args s 0 0 (AU 1 G)) 6 [(0, .ref (gB G + 0)), (1, .int x1), (2, .int x2), (3, .int x3), (4, .int x4), (5, .int x5), (6, .int x6)] [] M) : f_X12_areFelt_51 k6 M x1 x2 x3 x4 x6 s_0 = some r → Z p l e { frames := 1, cells := 0, slots := 0, locals := 23 } s m args below meth c 1 G 7 (MQ below (QC 1 G (some (.int r)) M) args s 0 0 (AU 1 G)) 51 [(0, .ref (gB G + 0)), (1, .int x1), (2, .int x2), (3, .int x3), (4, .int x4), (6, .int x6)] [.int s_0] M := by
  intro h
  unfold f_X12_areFelt_51 at h
  refine z_istore (L' := [(5, .int s_0), (0, .ref (gB G + 0)), (1, .int x1), (2, .int x2), (3, .int x3), (4, .int x4), (6, .int x6)]) C d_X12_areFelt_51 (by decide) rfl ?_
  refine z_iinc (v := (1 : Int32)) (L' := [(6, .int (x6 + (1 : Int32))), (5, .int s_0), (0, .ref (gB G + 0)), (1, .int x1), (2, .int x2), (3, .int x3), (4, .int x4)]) 6 C d_X12_areFelt_53 rfl (by decide) (by decide) rfl ?_
  refine z_goto C d_X12_areFelt_56 ?_
  exact z_sub [2, 3, 4, 5, 6, 1, 0] rfl (hk6 _ _  h)
set_option maxRecDepth 4000 in
theorem k_X12_areFelt_59 {p : Program} {l : Launch} {e : Env} {s : State} {m : MethodId} {args : Array Value} {below : List Frame} {meth : Method} {c : Code} {G : GG} {M : Mm} {x5 : Int32} {r : Int32} (C : CX p s m args c prog_14_method_71_code 7 "SnowSentriesModel" 1 G) (hlk : meth.locks = false) (hr : meth.sig.returnType = (some .boolean)) : f_X12_areFelt_59 M x5 = some r → Z p l e { frames := 1, cells := 0, slots := 0, locals := 23 } s m args below meth c 1 G 7 (MQ below (QC 1 G (some (.int r)) M) args s 0 0 (AU 1 G)) 59 [(5, .int x5)] [] M := by
  intro h
  unfold f_X12_areFelt_59 at h
  refine z_iload 0 C d_X12_areFelt_59 rfl ?_
  obtain ⟨q1, h⟩ := o_ck h
  obtain rfl := o_some h
  exact z_zret C hlk hr (isB_nar q1) d_X12_areFelt_61
set_option maxRecDepth 4000 in
theorem kb_X12_areFelt_6 {p : Program} {l : Launch} {e : Env} {s : State} {m : MethodId} {args : Array Value} {below : List Frame} {meth : Method} {c : Code} {G : GG} {k6 : Int32 → Int32 → Option Int32} {M : Mm} {x1 : Int32} {x2 : Int32} {x3 : Int32} {x4 : Int32} {x5 : Int32} {x6 : Int32} {r : Int32} (C : CX p s m args c prog_14_method_71_code 7 "SnowSentriesModel" 1 G) (hlk : meth.locks = false) (hr : meth.sig.returnType = (some .boolean)) (hk6 : ∀ (x5 : Int32) (x6 : Int32), k6 x5 x6 = some r → Z p l e { frames := 1, cells := 0, slots := 0, locals := 23 } s m args below meth c 1 G 7 (MQ below (QC 1 G (some (.int r)) M) args s 0 0 (AU 1 G)) 6 [(0, .ref (gB G + 0)), (1, .int x1), (2, .int x2), (3, .int x3), (4, .int x4), (5, .int x5), (6, .int x6)] [] M) : b_X12_areFelt_6 k6 M x1 x2 x3 x4 x5 x6 = some r → Z p l e { frames := 1, cells := 0, slots := 0, locals := 23 } s m args below meth c 1 G 7 (MQ below (QC 1 G (some (.int r)) M) args s 0 0 (AU 1 G)) 6 [(0, .ref (gB G + 0)), (1, .int x1), (2, .int x2), (3, .int x3), (4, .int x4), (5, .int x5), (6, .int x6)] [] M := by
  intro h
  unfold b_X12_areFelt_6 at h
  refine z_iload 6 C d_X12_areFelt_6 rfl ?_
  refine z_aload_n 0 C d_X12_areFelt_8 rfl rfl ?_
  refine z_get (k := 30) (v := .int (M.1 0 30)) C (eY_0 _ _) (by decide) rfl inX12 (by decide) wf_X12_173 rfl d_X12_areFelt_9 ?_
  refine z_icmp_ge C d_X12_areFelt_12 (fun q1 => ?_) (fun q1 => ?_)
  · have h := o_t q1 h
    exact z_sub [5] rfl (k_X12_areFelt_59 C hlk hr h)
  · have h := o_f q1 h
    refine z_iload 5 C d_X12_areFelt_15 rfl ?_
    refine z_if_eq C d_X12_areFelt_17 (fun q2 => ?_) (fun q2 => ?_)
    · have h := o_t q2 h
      exact z_sub [5] rfl (k_X12_areFelt_59 C hlk hr h)
    · have h := o_f q2 h
      refine z_aload_n 0 C d_X12_areFelt_20 rfl rfl ?_
      refine z_get (k := 29) (v := .ref (gB G + 14)) C (eY_0 _ _) (by decide) rfl inX12 (by decide) wf_X12_56 rfl d_X12_areFelt_21 ?_
      refine z_iload 6 C d_X12_areFelt_24 rfl ?_
      obtain ⟨q3, h⟩ := o_ck h
      refine z_ald (eY_14 _ _) C (by decide) q3 d_X12_areFelt_26 ?_
      refine z_iload_n 2 C d_X12_areFelt_27 rfl rfl ?_
      refine z_iload_n 1 C d_X12_areFelt_28 rfl rfl ?_
      refine z_iload 6 C d_X12_areFelt_29 rfl ?_
      obtain ⟨p5, e4, h⟩ := o_bd h
      refine z_S (S := [.int (M.1 14 x6.toNatClampNeg)]) (As := [.int x2, .int x1, .int x6]) C (c_X12_warms l G (M := M) e4) wc_X12_warms wm_X12_229 ws_X12_warms wi_X12 hy_X12_warms ⟨Nat.le_of_ble_eq_true rfl, Nat.le_of_ble_eq_true rfl⟩ rfl rfl (Nat.le_of_ble_eq_true rfl) d_X12_areFelt_31 ?_
      refine z_iload 4 C d_X12_areFelt_34 rfl ?_
      refine z_iload_n 3 C d_X12_areFelt_36 rfl rfl ?_
      refine z_iload 6 C d_X12_areFelt_37 rfl ?_
      obtain ⟨p7, e6, h⟩ := o_bd h
      refine z_S (S := [.int p5, .int (M.1 14 x6.toNatClampNeg)]) (As := [.int x4, .int x3, .int x6]) C (c_X12_warms l G (M := M) e6) wc_X12_warms wm_X12_229 ws_X12_warms wi_X12 hy_X12_warms ⟨Nat.le_of_ble_eq_true rfl, Nat.le_of_ble_eq_true rfl⟩ rfl rfl (Nat.le_of_ble_eq_true rfl) d_X12_areFelt_39 ?_
      refine z_iadd C d_X12_areFelt_42 ?_
      refine z_icmp_ne C d_X12_areFelt_43 (fun q8 => ?_) (fun q8 => ?_)
      · have h := o_f q8 h
        refine z_iconst (v := (0 : Int32)) C d_X12_areFelt_50 (by decide) ?_
        exact z_sub [0, 1, 2, 3, 4, 6] rfl (k_X12_areFelt_51 C hlk hr hk6 h)
      · have h := o_t q8 h
        refine z_iconst (v := (1 : Int32)) C d_X12_areFelt_46 (by decide) ?_
        refine z_goto C d_X12_areFelt_47 ?_
        exact z_sub [0, 1, 2, 3, 4, 6] rfl (k_X12_areFelt_51 C hlk hr hk6 h)
theorem k_X12_areFelt_6 {p : Program} {l : Launch} {e : Env} {s : State} {m : MethodId} {args : Array Value} {below : List Frame} {meth : Method} {c : Code} {G : GG} {M : Mm} {x1 : Int32} {x2 : Int32} {x3 : Int32} {x4 : Int32} {r : Int32} (C : CX p s m args c prog_14_method_71_code 7 "SnowSentriesModel" 1 G) (hlk : meth.locks = false) (hr : meth.sig.returnType = (some .boolean)) : ∀ (n : Nat) (x5 : Int32) (x6 : Int32), f_X12_areFelt_6 M x1 x2 x3 x4 n x5 x6 = some r → Z p l e { frames := 1, cells := 0, slots := 0, locals := 23 } s m args below meth c 1 G 7 (MQ below (QC 1 G (some (.int r)) M) args s 0 0 (AU 1 G)) 6 [(0, .ref (gB G + 0)), (1, .int x1), (2, .int x2), (3, .int x3), (4, .int x4), (5, .int x5), (6, .int x6)] [] M := by
  intro n
  induction n with
  | zero =>
    intro x5 x6  h
    exact absurd h (fun z => by cases z)
  | succ n ih =>
    intro x5 x6  h
    exact kb_X12_areFelt_6 C hlk hr  (fun x5 x6 h => ih x5 x6 h) h
set_option maxRecDepth 4000 in
theorem k_X12_areFelt_0 {p : Program} {l : Launch} {e : Env} {s : State} {m : MethodId} {args : Array Value} {below : List Frame} {meth : Method} {c : Code} {G : GG} {M : Mm} {x1 : Int32} {x2 : Int32} {x3 : Int32} {x4 : Int32} {r : Int32} (C : CX p s m args c prog_14_method_71_code 7 "SnowSentriesModel" 1 G) (hlk : meth.locks = false) (hr : meth.sig.returnType = (some .boolean)) : f_X12_areFelt M x1 x2 x3 x4 = some r → Z p l e { frames := 1, cells := 0, slots := 0, locals := 23 } s m args below meth c 1 G 7 (MQ below (QC 1 G (some (.int r)) M) args s 0 0 (AU 1 G)) 0 [(0, .ref (gB G + 0)), (1, .int x1), (2, .int x2), (3, .int x3), (4, .int x4)] [] M := by
  intro h
  unfold f_X12_areFelt at h
  refine z_iconst (v := (1 : Int32)) C d_X12_areFelt_0 (by decide) ?_
  refine z_istore (L' := [(5, .int (1 : Int32)), (0, .ref (gB G + 0)), (1, .int x1), (2, .int x2), (3, .int x3), (4, .int x4)]) C d_X12_areFelt_1 (by decide) rfl ?_
  refine z_iconst (v := (0 : Int32)) C d_X12_areFelt_3 (by decide) ?_
  refine z_istore (L' := [(6, .int (0 : Int32)), (5, .int (1 : Int32)), (0, .ref (gB G + 0)), (1, .int x1), (2, .int x2), (3, .int x3), (4, .int x4)]) C d_X12_areFelt_4 (by decide) rfl ?_
  exact z_sub [2, 3, 4, 5, 6, 1, 0] rfl (k_X12_areFelt_6 C hlk hr _ _ _ h)
theorem c_X12_areFelt (l : Launch) (G : GG) {M : Mm} {x1 : Int32} {x2 : Int32} {x3 : Int32} {x4 : Int32} {r : Int32} (h : f_X12_areFelt M x1 x2 x3 x4 = some r) : CT l 1 G y_X12_areFelt prog_14_method_71_code 7 (some .boolean) 1 23 [.ref (gB G + 0), .int x1, .int x2, .int x3, .int x4] M (some (.int r)) M :=
  CT.of (by decide +kernel) (Nat.le_of_ble_eq_true rfl) rfl (fun p e s m args below meth c C hlk hr => k_X12_areFelt_0 C hlk hr h)
-- SnowSentriesModel.spy(I)I
set_option maxRecDepth 4000 in
theorem k_X12_spy_95 {p : Program} {l : Launch} {e : Env} {s : State} {m : MethodId} {args : Array Value} {below : List Frame} {meth : Method} {c : Code} {G : GG} {k36 : Int32 → Int32 → Int32 → Int32 → Option Int32} {k48 : Int32 → Int32 → Int32 → Int32 → Option Int32} {M : Mm} {x1 : Int32} {x2 : Int32} {x3 : Int32} {x4 : Int32} {x5 : Int32} {x6 : Int32} {r : Int32} (C : CX p s m args c prog_14_method_72_code 7 "SnowSentriesModel" 1 G) (hlk : meth.locks = false) (hr : meth.sig.returnType = (some .int)) (hk36 : ∀ (x2 : Int32) (x3 : Int32) (x4 : Int32) (x5 : Int32), k36 x2 x3 x4 x5 = some r → Z p l e { frames := 2, cells := 0, slots := 0, locals := 49 } s m args below meth c 1 G 7 (MQ below (QC 1 G (some (.int r)) M) args s 0 0 (AU 1 G)) 36 [(0, .ref (gB G + 0)), (1, .int x1), (2, .int x2), (3, .int x3), (4, .int x4), (5, .int x5)] [] M) (hk48 : ∀ (x2 : Int32) (x3 : Int32) (x4 : Int32) (x6 : Int32), k48 x2 x3 x4 x6 = some r → Z p l e { frames := 2, cells := 0, slots := 0, locals := 49 } s m args below meth c 1 G 7 (MQ below (QC 1 G (some (.int r)) M) args s 0 0 (AU 1 G)) 48 [(0, .ref (gB G + 0)), (1, .int x1), (2, .int x2), (3, .int x3), (4, .int x4), (5, .int x5), (6, .int x6)] [] M) : f_X12_spy_95 k36 k48 M x1 x2 x3 x4 x5 x6 = some r → Z p l e { frames := 2, cells := 0, slots := 0, locals := 49 } s m args below meth c 1 G 7 (MQ below (QC 1 G (some (.int r)) M) args s 0 0 (AU 1 G)) 95 [(0, .ref (gB G + 0)), (1, .int x1), (2, .int x2), (3, .int x3), (4, .int x4), (5, .int x5), (6, .int x6)] [] M := by
  intro h
  unfold f_X12_spy_95 at h
  refine z_iinc (v := (1 : Int32)) (L' := [(6, .int (x6 + (1 : Int32))), (0, .ref (gB G + 0)), (1, .int x1), (2, .int x2), (3, .int x3), (4, .int x4), (5, .int x5)]) 6 C d_X12_spy_95 rfl (by decide) (by decide) rfl ?_
  refine z_goto C d_X12_spy_98 ?_
  exact z_sub [1, 2, 3, 4, 5, 6, 0] rfl (hk48 _ _ _ _  h)
set_option maxRecDepth 4000 in
theorem k_X12_spy_90 {p : Program} {l : Launch} {e : Env} {s : State} {m : MethodId} {args : Array Value} {below : List Frame} {meth : Method} {c : Code} {G : GG} {k36 : Int32 → Int32 → Int32 → Int32 → Option Int32} {k48 : Int32 → Int32 → Int32 → Int32 → Option Int32} {M : Mm} {x1 : Int32} {x2 : Int32} {x3 : Int32} {x5 : Int32} {x6 : Int32} {s_0 : Int32} {r : Int32} (C : CX p s m args c prog_14_method_72_code 7 "SnowSentriesModel" 1 G) (hlk : meth.locks = false) (hr : meth.sig.returnType = (some .int)) (hk36 : ∀ (x2 : Int32) (x3 : Int32) (x4 : Int32) (x5 : Int32), k36 x2 x3 x4 x5 = some r → Z p l e { frames := 2, cells := 0, slots := 0, locals := 49 } s m args below meth c 1 G 7 (MQ below (QC 1 G (some (.int r)) M) args s 0 0 (AU 1 G)) 36 [(0, .ref (gB G + 0)), (1, .int x1), (2, .int x2), (3, .int x3), (4, .int x4), (5, .int x5)] [] M) (hk48 : ∀ (x2 : Int32) (x3 : Int32) (x4 : Int32) (x6 : Int32), k48 x2 x3 x4 x6 = some r → Z p l e { frames := 2, cells := 0, slots := 0, locals := 49 } s m args below meth c 1 G 7 (MQ below (QC 1 G (some (.int r)) M) args s 0 0 (AU 1 G)) 48 [(0, .ref (gB G + 0)), (1, .int x1), (2, .int x2), (3, .int x3), (4, .int x4), (5, .int x5), (6, .int x6)] [] M) : f_X12_spy_90 k36 k48 M x1 x2 x3 x5 x6 s_0 = some r → Z p l e { frames := 2, cells := 0, slots := 0, locals := 49 } s m args below meth c 1 G 7 (MQ below (QC 1 G (some (.int r)) M) args s 0 0 (AU 1 G)) 90 [(0, .ref (gB G + 0)), (1, .int x1), (2, .int x2), (3, .int x3), (5, .int x5), (6, .int x6)] [.int s_0] M := by
  intro h
  unfold f_X12_spy_90 at h
  refine z_istore (L' := [(4, .int s_0), (0, .ref (gB G + 0)), (1, .int x1), (2, .int x2), (3, .int x3), (5, .int x5), (6, .int x6)]) C d_X12_spy_90 (by decide) rfl ?_
  refine z_iinc (v := (1 : Int32)) (L' := [(2, .int (x2 + (1 : Int32))), (4, .int s_0), (0, .ref (gB G + 0)), (1, .int x1), (3, .int x3), (5, .int x5), (6, .int x6)]) 3 C d_X12_spy_92 rfl (by decide) (by decide) rfl ?_
  exact z_sub [2, 3, 0, 4, 1, 5, 6] rfl (k_X12_spy_95 C hlk hr hk36 hk48 h)
set_option maxRecDepth 4000 in
theorem k_X12_spy_78 {p : Program} {l : Launch} {e : Env} {s : State} {m : MethodId} {args : Array Value} {below : List Frame} {meth : Method} {c : Code} {G : GG} {k36 : Int32 → Int32 → Int32 → Int32 → Option Int32} {k48 : Int32 → Int32 → Int32 → Int32 → Option Int32} {M : Mm} {x1 : Int32} {x2 : Int32} {x4 : Int32} {x5 : Int32} {x6 : Int32} {s_0 : Int32} {r : Int32} (C : CX p s m args c prog_14_method_72_code 7 "SnowSentriesModel" 1 G) (hlk : meth.locks = false) (hr : meth.sig.returnType = (some .int)) (hk36 : ∀ (x2 : Int32) (x3 : Int32) (x4 : Int32) (x5 : Int32), k36 x2 x3 x4 x5 = some r → Z p l e { frames := 2, cells := 0, slots := 0, locals := 49 } s m args below meth c 1 G 7 (MQ below (QC 1 G (some (.int r)) M) args s 0 0 (AU 1 G)) 36 [(0, .ref (gB G + 0)), (1, .int x1), (2, .int x2), (3, .int x3), (4, .int x4), (5, .int x5)] [] M) (hk48 : ∀ (x2 : Int32) (x3 : Int32) (x4 : Int32) (x6 : Int32), k48 x2 x3 x4 x6 = some r → Z p l e { frames := 2, cells := 0, slots := 0, locals := 49 } s m args below meth c 1 G 7 (MQ below (QC 1 G (some (.int r)) M) args s 0 0 (AU 1 G)) 48 [(0, .ref (gB G + 0)), (1, .int x1), (2, .int x2), (3, .int x3), (4, .int x4), (5, .int x5), (6, .int x6)] [] M) : f_X12_spy_78 k36 k48 M x1 x2 x4 x5 x6 s_0 = some r → Z p l e { frames := 2, cells := 0, slots := 0, locals := 49 } s m args below meth c 1 G 7 (MQ below (QC 1 G (some (.int r)) M) args s 0 0 (AU 1 G)) 78 [(0, .ref (gB G + 0)), (1, .int x1), (2, .int x2), (4, .int x4), (5, .int x5), (6, .int x6)] [.int s_0] M := by
  intro h
  unfold f_X12_spy_78 at h
  refine z_istore_n (L' := [(3, .int s_0), (0, .ref (gB G + 0)), (1, .int x1), (2, .int x2), (4, .int x4), (5, .int x5), (6, .int x6)]) C d_X12_spy_78 rfl (by decide) rfl ?_
  refine z_iload_n 3 C d_X12_spy_79 rfl rfl ?_
  refine z_if_ne C d_X12_spy_80 (fun q1 => ?_) (fun q1 => ?_)
  · have h := o_f q1 h
    refine z_iload 4 C d_X12_spy_88 rfl ?_
    exact z_sub [1, 2, 3, 0, 5, 6] rfl (k_X12_spy_90 C hlk hr hk36 hk48 h)
  · have h := o_t q1 h
    refine z_iload 6 C d_X12_spy_83 rfl ?_
    refine z_goto C d_X12_spy_85 ?_
    exact z_sub [1, 2, 3, 0, 5, 6] rfl (k_X12_spy_90 C hlk hr hk36 hk48 h)
set_option maxRecDepth 4000 in
theorem k_X12_spy_101 {p : Program} {l : Launch} {e : Env} {s : State} {m : MethodId} {args : Array Value} {below : List Frame} {meth : Method} {c : Code} {G : GG} {k36 : Int32 → Int32 → Int32 → Int32 → Option Int32} {M : Mm} {x1 : Int32} {x2 : Int32} {x3 : Int32} {x4 : Int32} {x5 : Int32} {r : Int32} (C : CX p s m args c prog_14_method_72_code 7 "SnowSentriesModel" 1 G) (hlk : meth.locks = false) (hr : meth.sig.returnType = (some .int)) (hk36 : ∀ (x2 : Int32) (x3 : Int32) (x4 : Int32) (x5 : Int32), k36 x2 x3 x4 x5 = some r → Z p l e { frames := 2, cells := 0, slots := 0, locals := 49 } s m args below meth c 1 G 7 (MQ below (QC 1 G (some (.int r)) M) args s 0 0 (AU 1 G)) 36 [(0, .ref (gB G + 0)), (1, .int x1), (2, .int x2), (3, .int x3), (4, .int x4), (5, .int x5)] [] M) : f_X12_spy_101 k36 M x1 x2 x3 x4 x5 = some r → Z p l e { frames := 2, cells := 0, slots := 0, locals := 49 } s m args below meth c 1 G 7 (MQ below (QC 1 G (some (.int r)) M) args s 0 0 (AU 1 G)) 101 [(0, .ref (gB G + 0)), (1, .int x1), (2, .int x2), (3, .int x3), (4, .int x4), (5, .int x5)] [] M := by
  intro h
  unfold f_X12_spy_101 at h
  refine z_iinc (v := (1 : Int32)) (L' := [(5, .int (x5 + (1 : Int32))), (0, .ref (gB G + 0)), (1, .int x1), (2, .int x2), (3, .int x3), (4, .int x4)]) 5 C d_X12_spy_101 rfl (by decide) (by decide) rfl ?_
  refine z_goto C d_X12_spy_104 ?_
  exact z_sub [1, 2, 3, 4, 5, 0] rfl (hk36 _ _ _ _  h)
set_option maxRecDepth 4000 in
theorem kb_X12_spy_48 {p : Program} {l : Launch} {e : Env} {s : State} {m : MethodId} {args : Array Value} {below : List Frame} {meth : Method} {c : Code} {G : GG} {k36 : Int32 → Int32 → Int32 → Int32 → Option Int32} {k48 : Int32 → Int32 → Int32 → Int32 → Option Int32} {M : Mm} {x1 : Int32} {x5 : Int32} {x2 : Int32} {x3 : Int32} {x4 : Int32} {x6 : Int32} {r : Int32} (C : CX p s m args c prog_14_method_72_code 7 "SnowSentriesModel" 1 G) (hlk : meth.locks = false) (hr : meth.sig.returnType = (some .int)) (hk36 : ∀ (x2 : Int32) (x3 : Int32) (x4 : Int32) (x5 : Int32), k36 x2 x3 x4 x5 = some r → Z p l e { frames := 2, cells := 0, slots := 0, locals := 49 } s m args below meth c 1 G 7 (MQ below (QC 1 G (some (.int r)) M) args s 0 0 (AU 1 G)) 36 [(0, .ref (gB G + 0)), (1, .int x1), (2, .int x2), (3, .int x3), (4, .int x4), (5, .int x5)] [] M) (hk48 : ∀ (x2 : Int32) (x3 : Int32) (x4 : Int32) (x6 : Int32), k48 x2 x3 x4 x6 = some r → Z p l e { frames := 2, cells := 0, slots := 0, locals := 49 } s m args below meth c 1 G 7 (MQ below (QC 1 G (some (.int r)) M) args s 0 0 (AU 1 G)) 48 [(0, .ref (gB G + 0)), (1, .int x1), (2, .int x2), (3, .int x3), (4, .int x4), (5, .int x5), (6, .int x6)] [] M) : b_X12_spy_48 k36 k48 M x1 x5 x2 x3 x4 x6 = some r → Z p l e { frames := 2, cells := 0, slots := 0, locals := 49 } s m args below meth c 1 G 7 (MQ below (QC 1 G (some (.int r)) M) args s 0 0 (AU 1 G)) 48 [(0, .ref (gB G + 0)), (1, .int x1), (2, .int x2), (3, .int x3), (4, .int x4), (5, .int x5), (6, .int x6)] [] M := by
  intro h
  unfold b_X12_spy_48 at h
  refine z_iload 6 C d_X12_spy_48 rfl ?_
  refine z_bipush (v := (20 : Int32)) C d_X12_spy_50 (by decide) ?_
  refine z_icmp_gt C d_X12_spy_52 (fun q1 => ?_) (fun q1 => ?_)
  · have h := o_t q1 h
    exact z_sub [0, 1, 2, 3, 4, 5] rfl (k_X12_spy_101 C hlk hr hk36 h)
  · have h := o_f q1 h
    refine z_aload_n 0 C d_X12_spy_55 rfl rfl ?_
    refine z_iload 5 C d_X12_spy_56 rfl ?_
    refine z_iload 6 C d_X12_spy_58 rfl ?_
    refine z_iconst (v := (0 : Int32)) C d_X12_spy_60 (by decide) ?_
    refine z_iconst (v := (0 : Int32)) C d_X12_spy_61 (by decide) ?_
    obtain ⟨p3, e2, h⟩ := o_bd h
    refine z_V (S := []) (As := [.int x5, .int x6, .int (0 : Int32), .int (0 : Int32)]) C (c_X12_areFelt l G e2) (eY_0 _ _) (by decide) rfl wc_X12_areFelt wm_X12_274 ws_X12_areFelt wl_X12_areFelt wi_X12 hy_X12_areFelt ⟨Nat.le_of_ble_eq_true rfl, Nat.le_of_ble_eq_true rfl⟩ rfl rfl (Nat.le_of_ble_eq_true rfl) d_X12_spy_62 ?_
    refine z_if_eq C d_X12_spy_65 (fun q4 => ?_) (fun q4 => ?_)
    · have h := o_t q4 h
      exact z_sub [0, 1, 2, 3, 4, 5, 6] rfl (k_X12_spy_95 C hlk hr hk36 hk48 h)
    · have h := o_f q4 h
      refine z_iload_n 2 C d_X12_spy_68 rfl rfl ?_
      refine z_if_ne C d_X12_spy_69 (fun q5 => ?_) (fun q5 => ?_)
      · have h := o_f q5 h
        refine z_iload_n 3 C d_X12_spy_77 rfl rfl ?_
        exact z_sub [0, 1, 2, 4, 5, 6] rfl (k_X12_spy_78 C hlk hr hk36 hk48 h)
      · have h := o_t q5 h
        refine z_iload 5 C d_X12_spy_72 rfl ?_
        refine z_goto C d_X12_spy_74 ?_
        exact z_sub [0, 1, 2, 4, 5, 6] rfl (k_X12_spy_78 C hlk hr hk36 hk48 h)
theorem k_X12_spy_48 {p : Program} {l : Launch} {e : Env} {s : State} {m : MethodId} {args : Array Value} {below : List Frame} {meth : Method} {c : Code} {G : GG} {k36 : Int32 → Int32 → Int32 → Int32 → Option Int32} {M : Mm} {x1 : Int32} {x5 : Int32} {r : Int32} (C : CX p s m args c prog_14_method_72_code 7 "SnowSentriesModel" 1 G) (hlk : meth.locks = false) (hr : meth.sig.returnType = (some .int)) (hk36 : ∀ (x2 : Int32) (x3 : Int32) (x4 : Int32) (x5 : Int32), k36 x2 x3 x4 x5 = some r → Z p l e { frames := 2, cells := 0, slots := 0, locals := 49 } s m args below meth c 1 G 7 (MQ below (QC 1 G (some (.int r)) M) args s 0 0 (AU 1 G)) 36 [(0, .ref (gB G + 0)), (1, .int x1), (2, .int x2), (3, .int x3), (4, .int x4), (5, .int x5)] [] M) : ∀ (n : Nat) (x2 : Int32) (x3 : Int32) (x4 : Int32) (x6 : Int32), f_X12_spy_48 k36 M x1 x5 n x2 x3 x4 x6 = some r → Z p l e { frames := 2, cells := 0, slots := 0, locals := 49 } s m args below meth c 1 G 7 (MQ below (QC 1 G (some (.int r)) M) args s 0 0 (AU 1 G)) 48 [(0, .ref (gB G + 0)), (1, .int x1), (2, .int x2), (3, .int x3), (4, .int x4), (5, .int x5), (6, .int x6)] [] M := by
  intro n
  induction n with
  | zero =>
    intro x2 x3 x4 x6  h
    exact absurd h (fun z => by cases z)
  | succ n ih =>
    intro x2 x3 x4 x6  h
    exact kb_X12_spy_48 C hlk hr hk36 (fun x2 x3 x4 x6 h => ih x2 x3 x4 x6 h) h
set_option maxRecDepth 4000 in
theorem k_X12_spy_126 {p : Program} {l : Launch} {e : Env} {s : State} {m : MethodId} {args : Array Value} {below : List Frame} {meth : Method} {c : Code} {G : GG} {M : Mm} {s_0 : Int32} {r : Int32} (C : CX p s m args c prog_14_method_72_code 7 "SnowSentriesModel" 1 G) (hlk : meth.locks = false) (hr : meth.sig.returnType = (some .int)) : f_X12_spy_126 M s_0 = some r → Z p l e { frames := 2, cells := 0, slots := 0, locals := 49 } s m args below meth c 1 G 7 (MQ below (QC 1 G (some (.int r)) M) args s 0 0 (AU 1 G)) 126 [] [.int s_0] M := by
  intro h
  unfold f_X12_spy_126 at h
  obtain rfl := o_some h
  exact z_iret C hlk hr d_X12_spy_126
set_option maxRecDepth 4000 in
theorem k_X12_spy_107 {p : Program} {l : Launch} {e : Env} {s : State} {m : MethodId} {args : Array Value} {below : List Frame} {meth : Method} {c : Code} {G : GG} {M : Mm} {x1 : Int32} {x2 : Int32} {x3 : Int32} {x4 : Int32} {r : Int32} (C : CX p s m args c prog_14_method_72_code 7 "SnowSentriesModel" 1 G) (hlk : meth.locks = false) (hr : meth.sig.returnType = (some .int)) : f_X12_spy_107 M x1 x2 x3 x4 = some r → Z p l e { frames := 2, cells := 0, slots := 0, locals := 49 } s m args below meth c 1 G 7 (MQ below (QC 1 G (some (.int r)) M) args s 0 0 (AU 1 G)) 107 [(1, .int x1), (2, .int x2), (3, .int x3), (4, .int x4)] [] M := by
  intro h
  unfold f_X12_spy_107 at h
  refine z_iload_n 0 C d_X12_spy_107 rfl rfl ?_
  refine z_if_ne C d_X12_spy_108 (fun q1 => ?_) (fun q1 => ?_)
  · have h := o_f q1 h
    refine z_iload_n 0 C d_X12_spy_115 rfl rfl ?_
    refine z_iconst (v := (1 : Int32)) C d_X12_spy_116 (by decide) ?_
    refine z_icmp_ne C d_X12_spy_117 (fun q2 => ?_) (fun q2 => ?_)
    · have h := o_f q2 h
      refine z_iload 3 C d_X12_spy_124 rfl ?_
      exact z_sub [] rfl (k_X12_spy_126 C hlk hr h)
    · have h := o_t q2 h
      refine z_iload_n 2 C d_X12_spy_120 rfl rfl ?_
      refine z_goto C d_X12_spy_121 ?_
      exact z_sub [] rfl (k_X12_spy_126 C hlk hr h)
  · have h := o_t q1 h
    refine z_iload_n 1 C d_X12_spy_111 rfl rfl ?_
    refine z_goto C d_X12_spy_112 ?_
    exact z_sub [] rfl (k_X12_spy_126 C hlk hr h)
set_option maxRecDepth 4000 in
theorem kb_X12_spy_36 {p : Program} {l : Launch} {e : Env} {s : State} {m : MethodId} {args : Array Value} {below : List Frame} {meth : Method} {c : Code} {G : GG} {k36 : Int32 → Int32 → Int32 → Int32 → Option Int32} {M : Mm} {x1 : Int32} {x2 : Int32} {x3 : Int32} {x4 : Int32} {x5 : Int32} {r : Int32} (C : CX p s m args c prog_14_method_72_code 7 "SnowSentriesModel" 1 G) (hlk : meth.locks = false) (hr : meth.sig.returnType = (some .int)) (hk36 : ∀ (x2 : Int32) (x3 : Int32) (x4 : Int32) (x5 : Int32), k36 x2 x3 x4 x5 = some r → Z p l e { frames := 2, cells := 0, slots := 0, locals := 49 } s m args below meth c 1 G 7 (MQ below (QC 1 G (some (.int r)) M) args s 0 0 (AU 1 G)) 36 [(0, .ref (gB G + 0)), (1, .int x1), (2, .int x2), (3, .int x3), (4, .int x4), (5, .int x5)] [] M) : b_X12_spy_36 k36 M x1 x2 x3 x4 x5 = some r → Z p l e { frames := 2, cells := 0, slots := 0, locals := 49 } s m args below meth c 1 G 7 (MQ below (QC 1 G (some (.int r)) M) args s 0 0 (AU 1 G)) 36 [(0, .ref (gB G + 0)), (1, .int x1), (2, .int x2), (3, .int x3), (4, .int x4), (5, .int x5)] [] M := by
  intro h
  unfold b_X12_spy_36 at h
  refine z_iload 5 C d_X12_spy_36 rfl ?_
  refine z_aload_n 0 C d_X12_spy_38 rfl rfl ?_
  refine z_get (k := 1) (v := .int (M.1 0 1)) C (eY_0 _ _) (by decide) rfl inX12 (by decide) wf_X12_13 rfl d_X12_spy_39 ?_
  refine z_icmp_ge C d_X12_spy_42 (fun q1 => ?_) (fun q1 => ?_)
  · have h := o_t q1 h
    exact z_sub [1, 2, 3, 4] rfl (k_X12_spy_107 C hlk hr h)
  · have h := o_f q1 h
    refine z_iconst (v := (1 : Int32)) C d_X12_spy_45 (by decide) ?_
    refine z_istore (L' := [(6, .int (1 : Int32)), (0, .ref (gB G + 0)), (1, .int x1), (2, .int x2), (3, .int x3), (4, .int x4), (5, .int x5)]) C d_X12_spy_46 (by decide) rfl ?_
    exact z_sub [1, 2, 3, 4, 5, 6, 0] rfl (k_X12_spy_48 C hlk hr hk36 _ _ _ _ _ h)
theorem k_X12_spy_36 {p : Program} {l : Launch} {e : Env} {s : State} {m : MethodId} {args : Array Value} {below : List Frame} {meth : Method} {c : Code} {G : GG} {M : Mm} {x1 : Int32} {r : Int32} (C : CX p s m args c prog_14_method_72_code 7 "SnowSentriesModel" 1 G) (hlk : meth.locks = false) (hr : meth.sig.returnType = (some .int)) : ∀ (n : Nat) (x2 : Int32) (x3 : Int32) (x4 : Int32) (x5 : Int32), f_X12_spy_36 M x1 n x2 x3 x4 x5 = some r → Z p l e { frames := 2, cells := 0, slots := 0, locals := 49 } s m args below meth c 1 G 7 (MQ below (QC 1 G (some (.int r)) M) args s 0 0 (AU 1 G)) 36 [(0, .ref (gB G + 0)), (1, .int x1), (2, .int x2), (3, .int x3), (4, .int x4), (5, .int x5)] [] M := by
  intro n
  induction n with
  | zero =>
    intro x2 x3 x4 x5  h
    exact absurd h (fun z => by cases z)
  | succ n ih =>
    intro x2 x3 x4 x5  h
    exact kb_X12_spy_36 C hlk hr  (fun x2 x3 x4 x5 h => ih x2 x3 x4 x5 h) h
set_option maxRecDepth 4000 in
theorem k_X12_spy_0 {p : Program} {l : Launch} {e : Env} {s : State} {m : MethodId} {args : Array Value} {below : List Frame} {meth : Method} {c : Code} {G : GG} {M : Mm} {x1 : Int32} {r : Int32} (C : CX p s m args c prog_14_method_72_code 7 "SnowSentriesModel" 1 G) (hlk : meth.locks = false) (hr : meth.sig.returnType = (some .int)) : f_X12_spy M x1 = some r → Z p l e { frames := 2, cells := 0, slots := 0, locals := 49 } s m args below meth c 1 G 7 (MQ below (QC 1 G (some (.int r)) M) args s 0 0 (AU 1 G)) 0 [(0, .ref (gB G + 0)), (1, .int x1)] [] M := by
  intro h
  unfold f_X12_spy at h
  refine z_iload_n 1 C d_X12_spy_0 rfl rfl ?_
  refine z_i2l C d_X12_spy_1 ?_
  refine z_lconst (v := (0 : Int64)) C d_X12_spy_2 (by decide) ?_
  refine z_ldc2 (v := (2 : Int64)) C wk_X12_188 d_X12_spy_3 ?_
  obtain ⟨p2, e1, h⟩ := o_bd h
  refine z_S (S := []) (As := [.long x1.toInt64, .long (0 : Int64), .long (2 : Int64)]) C (c_X12_in l G (M := M) e1) wc_X12_in wm_X12_75 ws_X12_in wi_X12 hy_X12_in ⟨Nat.le_of_ble_eq_true rfl, Nat.le_of_ble_eq_true rfl⟩ rfl rfl (Nat.le_of_ble_eq_true rfl) d_X12_spy_6 ?_
  refine z_if_ne C d_X12_spy_9 (fun q3 => ?_) (fun q3 => ?_)
  · have h := o_f q3 h
    refine z_aload_n 0 C d_X12_spy_14 rfl rfl ?_
    refine z_get (k := 30) (v := .int (M.1 0 30)) C (eY_0 _ _) (by decide) rfl inX12 (by decide) wf_X12_173 rfl d_X12_spy_15 ?_
    refine z_if_ne C d_X12_spy_18 (fun q4 => ?_) (fun q4 => ?_)
    · have h := o_f q4 h
      refine z_iconst (v := (0 : Int32)) C d_X12_spy_24 (by decide) ?_
      refine z_istore_n (L' := [(2, .int (0 : Int32)), (0, .ref (gB G + 0)), (1, .int x1)]) C d_X12_spy_25 rfl (by decide) rfl ?_
      refine z_bipush (v := (-4 : Int32)) C d_X12_spy_26 (by decide) ?_
      refine z_istore_n (L' := [(3, .int (-4 : Int32)), (2, .int (0 : Int32)), (0, .ref (gB G + 0)), (1, .int x1)]) C d_X12_spy_28 rfl (by decide) rfl ?_
      refine z_bipush (v := (-4 : Int32)) C d_X12_spy_29 (by decide) ?_
      refine z_istore (L' := [(4, .int (-4 : Int32)), (3, .int (-4 : Int32)), (2, .int (0 : Int32)), (0, .ref (gB G + 0)), (1, .int x1)]) C d_X12_spy_31 (by decide) rfl ?_
      refine z_iconst (v := (0 : Int32)) C d_X12_spy_33 (by decide) ?_
      refine z_istore (L' := [(5, .int (0 : Int32)), (4, .int (-4 : Int32)), (3, .int (-4 : Int32)), (2, .int (0 : Int32)), (0, .ref (gB G + 0)), (1, .int x1)]) C d_X12_spy_34 (by decide) rfl ?_
      exact z_sub [4, 5, 3, 2, 1, 0] rfl (k_X12_spy_36 C hlk hr _ _ _ _ _ h)
    · have h := o_t q4 h
      refine z_bipush (v := (-2 : Int32)) C d_X12_spy_21 (by decide) ?_
      obtain rfl := o_some h
      exact z_iret C hlk hr d_X12_spy_23
  · have h := o_t q3 h
    refine z_iconst (v := (-1 : Int32)) C d_X12_spy_12 (by decide) ?_
    obtain rfl := o_some h
    exact z_iret C hlk hr d_X12_spy_13
theorem c_X12_spy (l : Launch) (G : GG) {M : Mm} {x1 : Int32} {r : Int32} (h : f_X12_spy M x1 = some r) : CT l 1 G y_X12_spy prog_14_method_72_code 7 (some .int) 2 49 [.ref (gB G + 0), .int x1] M (some (.int r)) M :=
  CT.of (by decide +kernel) (Nat.le_of_ble_eq_true rfl) rfl (fun p e s m args below meth c C hlk hr => k_X12_spy_0 C hlk hr h)
-- SnowSentriesModel.spies(I)I
set_option maxRecDepth 4000 in
theorem k_X12_spies_145 {p : Program} {l : Launch} {e : Env} {s : State} {m : MethodId} {args : Array Value} {below : List Frame} {meth : Method} {c : Code} {G : GG} {k36 : Int32 → Int32 → Int32 → Int32 → Option Int32} {k51 : Int32 → Int32 → Int32 → Int32 → Option Int32} {k63 : Int32 → Int32 → Int32 → Int32 → Option Int32} {M : Mm} {x1 : Int32} {x2 : Int32} {x3 : Int32} {x4 : Int32} {x5 : Int32} {x6 : Int32} {x7 : Int32} {r : Int32} (C : CX p s m args c prog_14_method_73_code 8 "SnowSentriesModel" 1 G) (hlk : meth.locks = false) (hr : meth.sig.returnType = (some .int)) (hk36 : ∀ (x2 : Int32) (x3 : Int32) (x4 : Int32) (x5 : Int32), k36 x2 x3 x4 x5 = some r → Z p l e { frames := 2, cells := 0, slots := 0, locals := 49 } s m args below meth c 1 G 8 (MQ below (QC 1 G (some (.int r)) M) args s 0 0 (AU 1 G)) 36 [(0, .ref (gB G + 0)), (1, .int x1), (2, .int x2), (3, .int x3), (4, .int x4), (5, .int x5)] [] M) (hk51 : ∀ (x2 : Int32) (x3 : Int32) (x4 : Int32) (x6 : Int32), k51 x2 x3 x4 x6 = some r → Z p l e { frames := 2, cells := 0, slots := 0, locals := 49 } s m args below meth c 1 G 8 (MQ below (QC 1 G (some (.int r)) M) args s 0 0 (AU 1 G)) 51 [(0, .ref (gB G + 0)), (1, .int x1), (2, .int x2), (3, .int x3), (4, .int x4), (5, .int x5), (6, .int x6)] [] M) (hk63 : ∀ (x2 : Int32) (x3 : Int32) (x4 : Int32) (x7 : Int32), k63 x2 x3 x4 x7 = some r → Z p l e { frames := 2, cells := 0, slots := 0, locals := 49 } s m args below meth c 1 G 8 (MQ below (QC 1 G (some (.int r)) M) args s 0 0 (AU 1 G)) 63 [(0, .ref (gB G + 0)), (1, .int x1), (2, .int x2), (3, .int x3), (4, .int x4), (5, .int x5), (6, .int x6), (7, .int x7)] [] M) : f_X12_spies_145 k36 k51 k63 M x1 x2 x3 x4 x5 x6 x7 = some r → Z p l e { frames := 2, cells := 0, slots := 0, locals := 49 } s m args below meth c 1 G 8 (MQ below (QC 1 G (some (.int r)) M) args s 0 0 (AU 1 G)) 145 [(0, .ref (gB G + 0)), (1, .int x1), (2, .int x2), (3, .int x3), (4, .int x4), (5, .int x5), (6, .int x6), (7, .int x7)] [] M := by
  intro h
  unfold f_X12_spies_145 at h
  refine z_iinc (v := (1 : Int32)) (L' := [(7, .int (x7 + (1 : Int32))), (0, .ref (gB G + 0)), (1, .int x1), (2, .int x2), (3, .int x3), (4, .int x4), (5, .int x5), (6, .int x6)]) 7 C d_X12_spies_145 rfl (by decide) (by decide) rfl ?_
  refine z_goto C d_X12_spies_148 ?_
  exact z_sub [1, 2, 3, 4, 5, 6, 7, 0] rfl (hk63 _ _ _ _  h)
set_option maxRecDepth 4000 in
theorem k_X12_spies_140 {p : Program} {l : Launch} {e : Env} {s : State} {m : MethodId} {args : Array Value} {below : List Frame} {meth : Method} {c : Code} {G : GG} {k36 : Int32 → Int32 → Int32 → Int32 → Option Int32} {k51 : Int32 → Int32 → Int32 → Int32 → Option Int32} {k63 : Int32 → Int32 → Int32 → Int32 → Option Int32} {M : Mm} {x1 : Int32} {x2 : Int32} {x3 : Int32} {x5 : Int32} {x6 : Int32} {x7 : Int32} {s_0 : Int32} {r : Int32} (C : CX p s m args c prog_14_method_73_code 8 "SnowSentriesModel" 1 G) (hlk : meth.locks = false) (hr : meth.sig.returnType = (some .int)) (hk36 : ∀ (x2 : Int32) (x3 : Int32) (x4 : Int32) (x5 : Int32), k36 x2 x3 x4 x5 = some r → Z p l e { frames := 2, cells := 0, slots := 0, locals := 49 } s m args below meth c 1 G 8 (MQ below (QC 1 G (some (.int r)) M) args s 0 0 (AU 1 G)) 36 [(0, .ref (gB G + 0)), (1, .int x1), (2, .int x2), (3, .int x3), (4, .int x4), (5, .int x5)] [] M) (hk51 : ∀ (x2 : Int32) (x3 : Int32) (x4 : Int32) (x6 : Int32), k51 x2 x3 x4 x6 = some r → Z p l e { frames := 2, cells := 0, slots := 0, locals := 49 } s m args below meth c 1 G 8 (MQ below (QC 1 G (some (.int r)) M) args s 0 0 (AU 1 G)) 51 [(0, .ref (gB G + 0)), (1, .int x1), (2, .int x2), (3, .int x3), (4, .int x4), (5, .int x5), (6, .int x6)] [] M) (hk63 : ∀ (x2 : Int32) (x3 : Int32) (x4 : Int32) (x7 : Int32), k63 x2 x3 x4 x7 = some r → Z p l e { frames := 2, cells := 0, slots := 0, locals := 49 } s m args below meth c 1 G 8 (MQ below (QC 1 G (some (.int r)) M) args s 0 0 (AU 1 G)) 63 [(0, .ref (gB G + 0)), (1, .int x1), (2, .int x2), (3, .int x3), (4, .int x4), (5, .int x5), (6, .int x6), (7, .int x7)] [] M) : f_X12_spies_140 k36 k51 k63 M x1 x2 x3 x5 x6 x7 s_0 = some r → Z p l e { frames := 2, cells := 0, slots := 0, locals := 49 } s m args below meth c 1 G 8 (MQ below (QC 1 G (some (.int r)) M) args s 0 0 (AU 1 G)) 140 [(0, .ref (gB G + 0)), (1, .int x1), (2, .int x2), (3, .int x3), (5, .int x5), (6, .int x6), (7, .int x7)] [.int s_0] M := by
  intro h
  unfold f_X12_spies_140 at h
  refine z_istore (L' := [(4, .int s_0), (0, .ref (gB G + 0)), (1, .int x1), (2, .int x2), (3, .int x3), (5, .int x5), (6, .int x6), (7, .int x7)]) C d_X12_spies_140 (by decide) rfl ?_
  refine z_iinc (v := (1 : Int32)) (L' := [(2, .int (x2 + (1 : Int32))), (4, .int s_0), (0, .ref (gB G + 0)), (1, .int x1), (3, .int x3), (5, .int x5), (6, .int x6), (7, .int x7)]) 3 C d_X12_spies_142 rfl (by decide) (by decide) rfl ?_
  exact z_sub [2, 3, 0, 4, 1, 5, 6, 7] rfl (k_X12_spies_145 C hlk hr hk36 hk51 hk63 h)
set_option maxRecDepth 4000 in
theorem k_X12_spies_112 {p : Program} {l : Launch} {e : Env} {s : State} {m : MethodId} {args : Array Value} {below : List Frame} {meth : Method} {c : Code} {G : GG} {k36 : Int32 → Int32 → Int32 → Int32 → Option Int32} {k51 : Int32 → Int32 → Int32 → Int32 → Option Int32} {k63 : Int32 → Int32 → Int32 → Int32 → Option Int32} {M : Mm} {x1 : Int32} {x2 : Int32} {x4 : Int32} {x5 : Int32} {x6 : Int32} {x7 : Int32} {s_0 : Int32} {r : Int32} (C : CX p s m args c prog_14_method_73_code 8 "SnowSentriesModel" 1 G) (hlk : meth.locks = false) (hr : meth.sig.returnType = (some .int)) (hk36 : ∀ (x2 : Int32) (x3 : Int32) (x4 : Int32) (x5 : Int32), k36 x2 x3 x4 x5 = some r → Z p l e { frames := 2, cells := 0, slots := 0, locals := 49 } s m args below meth c 1 G 8 (MQ below (QC 1 G (some (.int r)) M) args s 0 0 (AU 1 G)) 36 [(0, .ref (gB G + 0)), (1, .int x1), (2, .int x2), (3, .int x3), (4, .int x4), (5, .int x5)] [] M) (hk51 : ∀ (x2 : Int32) (x3 : Int32) (x4 : Int32) (x6 : Int32), k51 x2 x3 x4 x6 = some r → Z p l e { frames := 2, cells := 0, slots := 0, locals := 49 } s m args below meth c 1 G 8 (MQ below (QC 1 G (some (.int r)) M) args s 0 0 (AU 1 G)) 51 [(0, .ref (gB G + 0)), (1, .int x1), (2, .int x2), (3, .int x3), (4, .int x4), (5, .int x5), (6, .int x6)] [] M) (hk63 : ∀ (x2 : Int32) (x3 : Int32) (x4 : Int32) (x7 : Int32), k63 x2 x3 x4 x7 = some r → Z p l e { frames := 2, cells := 0, slots := 0, locals := 49 } s m args below meth c 1 G 8 (MQ below (QC 1 G (some (.int r)) M) args s 0 0 (AU 1 G)) 63 [(0, .ref (gB G + 0)), (1, .int x1), (2, .int x2), (3, .int x3), (4, .int x4), (5, .int x5), (6, .int x6), (7, .int x7)] [] M) : f_X12_spies_112 k36 k51 k63 M x1 x2 x4 x5 x6 x7 s_0 = some r → Z p l e { frames := 2, cells := 0, slots := 0, locals := 49 } s m args below meth c 1 G 8 (MQ below (QC 1 G (some (.int r)) M) args s 0 0 (AU 1 G)) 112 [(0, .ref (gB G + 0)), (1, .int x1), (2, .int x2), (4, .int x4), (5, .int x5), (6, .int x6), (7, .int x7)] [.int s_0] M := by
  intro h
  unfold f_X12_spies_112 at h
  refine z_istore_n (L' := [(3, .int s_0), (0, .ref (gB G + 0)), (1, .int x1), (2, .int x2), (4, .int x4), (5, .int x5), (6, .int x6), (7, .int x7)]) C d_X12_spies_112 rfl (by decide) rfl ?_
  refine z_iload_n 3 C d_X12_spies_113 rfl rfl ?_
  refine z_if_ne C d_X12_spies_114 (fun q1 => ?_) (fun q1 => ?_)
  · have h := o_f q1 h
    refine z_iload 4 C d_X12_spies_138 rfl ?_
    exact z_sub [1, 2, 3, 0, 5, 6, 7] rfl (k_X12_spies_140 C hlk hr hk36 hk51 hk63 h)
  · have h := o_t q1 h
    refine z_bipush (v := (100 : Int32)) C d_X12_spies_117 (by decide) ?_
    refine z_iconst (v := (1 : Int32)) C d_X12_spies_119 (by decide) ?_
    refine z_iload 7 C d_X12_spies_120 rfl ?_
    refine z_bipush (v := (20 : Int32)) C d_X12_spies_122 (by decide) ?_
    refine z_idiv C d_X12_spies_124 (by decide) ?_
    refine z_iadd C d_X12_spies_125 ?_
    refine z_imul C d_X12_spies_126 ?_
    refine z_iconst (v := (1 : Int32)) C d_X12_spies_127 (by decide) ?_
    refine z_iadd C d_X12_spies_128 ?_
    refine z_iload 7 C d_X12_spies_129 rfl ?_
    refine z_bipush (v := (20 : Int32)) C d_X12_spies_131 (by decide) ?_
    refine z_irem C d_X12_spies_133 (by decide) ?_
    refine z_iadd C d_X12_spies_134 ?_
    refine z_goto C d_X12_spies_135 ?_
    exact z_sub [1, 2, 3, 0, 5, 6, 7] rfl (k_X12_spies_140 C hlk hr hk36 hk51 hk63 h)
set_option maxRecDepth 4000 in
theorem k_X12_spies_151 {p : Program} {l : Launch} {e : Env} {s : State} {m : MethodId} {args : Array Value} {below : List Frame} {meth : Method} {c : Code} {G : GG} {k36 : Int32 → Int32 → Int32 → Int32 → Option Int32} {k51 : Int32 → Int32 → Int32 → Int32 → Option Int32} {M : Mm} {x1 : Int32} {x2 : Int32} {x3 : Int32} {x4 : Int32} {x5 : Int32} {x6 : Int32} {r : Int32} (C : CX p s m args c prog_14_method_73_code 8 "SnowSentriesModel" 1 G) (hlk : meth.locks = false) (hr : meth.sig.returnType = (some .int)) (hk36 : ∀ (x2 : Int32) (x3 : Int32) (x4 : Int32) (x5 : Int32), k36 x2 x3 x4 x5 = some r → Z p l e { frames := 2, cells := 0, slots := 0, locals := 49 } s m args below meth c 1 G 8 (MQ below (QC 1 G (some (.int r)) M) args s 0 0 (AU 1 G)) 36 [(0, .ref (gB G + 0)), (1, .int x1), (2, .int x2), (3, .int x3), (4, .int x4), (5, .int x5)] [] M) (hk51 : ∀ (x2 : Int32) (x3 : Int32) (x4 : Int32) (x6 : Int32), k51 x2 x3 x4 x6 = some r → Z p l e { frames := 2, cells := 0, slots := 0, locals := 49 } s m args below meth c 1 G 8 (MQ below (QC 1 G (some (.int r)) M) args s 0 0 (AU 1 G)) 51 [(0, .ref (gB G + 0)), (1, .int x1), (2, .int x2), (3, .int x3), (4, .int x4), (5, .int x5), (6, .int x6)] [] M) : f_X12_spies_151 k36 k51 M x1 x2 x3 x4 x5 x6 = some r → Z p l e { frames := 2, cells := 0, slots := 0, locals := 49 } s m args below meth c 1 G 8 (MQ below (QC 1 G (some (.int r)) M) args s 0 0 (AU 1 G)) 151 [(0, .ref (gB G + 0)), (1, .int x1), (2, .int x2), (3, .int x3), (4, .int x4), (5, .int x5), (6, .int x6)] [] M := by
  intro h
  unfold f_X12_spies_151 at h
  refine z_iinc (v := (1 : Int32)) (L' := [(6, .int (x6 + (1 : Int32))), (0, .ref (gB G + 0)), (1, .int x1), (2, .int x2), (3, .int x3), (4, .int x4), (5, .int x5)]) 6 C d_X12_spies_151 rfl (by decide) (by decide) rfl ?_
  refine z_goto C d_X12_spies_154 ?_
  exact z_sub [1, 2, 3, 4, 5, 6, 0] rfl (hk51 _ _ _ _  h)
set_option maxRecDepth 4000 in
theorem kb_X12_spies_63 {p : Program} {l : Launch} {e : Env} {s : State} {m : MethodId} {args : Array Value} {below : List Frame} {meth : Method} {c : Code} {G : GG} {k36 : Int32 → Int32 → Int32 → Int32 → Option Int32} {k51 : Int32 → Int32 → Int32 → Int32 → Option Int32} {k63 : Int32 → Int32 → Int32 → Int32 → Option Int32} {M : Mm} {x1 : Int32} {x5 : Int32} {x6 : Int32} {x2 : Int32} {x3 : Int32} {x4 : Int32} {x7 : Int32} {r : Int32} (C : CX p s m args c prog_14_method_73_code 8 "SnowSentriesModel" 1 G) (hlk : meth.locks = false) (hr : meth.sig.returnType = (some .int)) (hk36 : ∀ (x2 : Int32) (x3 : Int32) (x4 : Int32) (x5 : Int32), k36 x2 x3 x4 x5 = some r → Z p l e { frames := 2, cells := 0, slots := 0, locals := 49 } s m args below meth c 1 G 8 (MQ below (QC 1 G (some (.int r)) M) args s 0 0 (AU 1 G)) 36 [(0, .ref (gB G + 0)), (1, .int x1), (2, .int x2), (3, .int x3), (4, .int x4), (5, .int x5)] [] M) (hk51 : ∀ (x2 : Int32) (x3 : Int32) (x4 : Int32) (x6 : Int32), k51 x2 x3 x4 x6 = some r → Z p l e { frames := 2, cells := 0, slots := 0, locals := 49 } s m args below meth c 1 G 8 (MQ below (QC 1 G (some (.int r)) M) args s 0 0 (AU 1 G)) 51 [(0, .ref (gB G + 0)), (1, .int x1), (2, .int x2), (3, .int x3), (4, .int x4), (5, .int x5), (6, .int x6)] [] M) (hk63 : ∀ (x2 : Int32) (x3 : Int32) (x4 : Int32) (x7 : Int32), k63 x2 x3 x4 x7 = some r → Z p l e { frames := 2, cells := 0, slots := 0, locals := 49 } s m args below meth c 1 G 8 (MQ below (QC 1 G (some (.int r)) M) args s 0 0 (AU 1 G)) 63 [(0, .ref (gB G + 0)), (1, .int x1), (2, .int x2), (3, .int x3), (4, .int x4), (5, .int x5), (6, .int x6), (7, .int x7)] [] M) : b_X12_spies_63 k36 k51 k63 M x1 x5 x6 x2 x3 x4 x7 = some r → Z p l e { frames := 2, cells := 0, slots := 0, locals := 49 } s m args below meth c 1 G 8 (MQ below (QC 1 G (some (.int r)) M) args s 0 0 (AU 1 G)) 63 [(0, .ref (gB G + 0)), (1, .int x1), (2, .int x2), (3, .int x3), (4, .int x4), (5, .int x5), (6, .int x6), (7, .int x7)] [] M := by
  intro h
  unfold b_X12_spies_63 at h
  refine z_iload 7 C d_X12_spies_63 rfl ?_
  refine z_sipush (v := (400 : Int32)) C d_X12_spies_65 (by decide) ?_
  refine z_icmp_ge C d_X12_spies_68 (fun q1 => ?_) (fun q1 => ?_)
  · have h := o_t q1 h
    exact z_sub [0, 1, 2, 3, 4, 5, 6] rfl (k_X12_spies_151 C hlk hr hk36 hk51 h)
  · have h := o_f q1 h
    refine z_aload_n 0 C d_X12_spies_71 rfl rfl ?_
    refine z_iload 5 C d_X12_spies_72 rfl ?_
    refine z_iconst (v := (1 : Int32)) C d_X12_spies_74 (by decide) ?_
    refine z_iload 7 C d_X12_spies_75 rfl ?_
    refine z_bipush (v := (20 : Int32)) C d_X12_spies_77 (by decide) ?_
    refine z_idiv C d_X12_spies_79 (by decide) ?_
    refine z_iadd C d_X12_spies_80 ?_
    refine z_iload 6 C d_X12_spies_81 rfl ?_
    refine z_iconst (v := (1 : Int32)) C d_X12_spies_83 (by decide) ?_
    refine z_iload 7 C d_X12_spies_84 rfl ?_
    refine z_bipush (v := (20 : Int32)) C d_X12_spies_86 (by decide) ?_
    refine z_irem C d_X12_spies_88 (by decide) ?_
    refine z_iadd C d_X12_spies_89 ?_
    obtain ⟨p3, e2, h⟩ := o_bd h
    refine z_V (S := []) (As := [.int x5, .int ((1 : Int32) + (x7 / (20 : Int32))), .int x6, .int ((1 : Int32) + (x7 - x7 / (20 : Int32) * (20 : Int32)))]) C (c_X12_areFelt l G e2) (eY_0 _ _) (by decide) rfl wc_X12_areFelt wm_X12_274 ws_X12_areFelt wl_X12_areFelt wi_X12 hy_X12_areFelt ⟨Nat.le_of_ble_eq_true rfl, Nat.le_of_ble_eq_true rfl⟩ rfl rfl (Nat.le_of_ble_eq_true rfl) d_X12_spies_90 ?_
    refine z_if_eq C d_X12_spies_93 (fun q4 => ?_) (fun q4 => ?_)
    · have h := o_t q4 h
      exact z_sub [0, 1, 2, 3, 4, 5, 6, 7] rfl (k_X12_spies_145 C hlk hr hk36 hk51 hk63 h)
    · have h := o_f q4 h
      refine z_iload_n 2 C d_X12_spies_96 rfl rfl ?_
      refine z_if_ne C d_X12_spies_97 (fun q5 => ?_) (fun q5 => ?_)
      · have h := o_f q5 h
        refine z_iload_n 3 C d_X12_spies_111 rfl rfl ?_
        exact z_sub [0, 1, 2, 4, 5, 6, 7] rfl (k_X12_spies_112 C hlk hr hk36 hk51 hk63 h)
      · have h := o_t q5 h
        refine z_bipush (v := (10 : Int32)) C d_X12_spies_100 (by decide) ?_
        refine z_iload 5 C d_X12_spies_102 rfl ?_
        refine z_imul C d_X12_spies_104 ?_
        refine z_iload 6 C d_X12_spies_105 rfl ?_
        refine z_iadd C d_X12_spies_107 ?_
        refine z_goto C d_X12_spies_108 ?_
        exact z_sub [0, 1, 2, 4, 5, 6, 7] rfl (k_X12_spies_112 C hlk hr hk36 hk51 hk63 h)
theorem k_X12_spies_63 {p : Program} {l : Launch} {e : Env} {s : State} {m : MethodId} {args : Array Value} {below : List Frame} {meth : Method} {c : Code} {G : GG} {k36 : Int32 → Int32 → Int32 → Int32 → Option Int32} {k51 : Int32 → Int32 → Int32 → Int32 → Option Int32} {M : Mm} {x1 : Int32} {x5 : Int32} {x6 : Int32} {r : Int32} (C : CX p s m args c prog_14_method_73_code 8 "SnowSentriesModel" 1 G) (hlk : meth.locks = false) (hr : meth.sig.returnType = (some .int)) (hk36 : ∀ (x2 : Int32) (x3 : Int32) (x4 : Int32) (x5 : Int32), k36 x2 x3 x4 x5 = some r → Z p l e { frames := 2, cells := 0, slots := 0, locals := 49 } s m args below meth c 1 G 8 (MQ below (QC 1 G (some (.int r)) M) args s 0 0 (AU 1 G)) 36 [(0, .ref (gB G + 0)), (1, .int x1), (2, .int x2), (3, .int x3), (4, .int x4), (5, .int x5)] [] M) (hk51 : ∀ (x2 : Int32) (x3 : Int32) (x4 : Int32) (x6 : Int32), k51 x2 x3 x4 x6 = some r → Z p l e { frames := 2, cells := 0, slots := 0, locals := 49 } s m args below meth c 1 G 8 (MQ below (QC 1 G (some (.int r)) M) args s 0 0 (AU 1 G)) 51 [(0, .ref (gB G + 0)), (1, .int x1), (2, .int x2), (3, .int x3), (4, .int x4), (5, .int x5), (6, .int x6)] [] M) : ∀ (n : Nat) (x2 : Int32) (x3 : Int32) (x4 : Int32) (x7 : Int32), f_X12_spies_63 k36 k51 M x1 x5 x6 n x2 x3 x4 x7 = some r → Z p l e { frames := 2, cells := 0, slots := 0, locals := 49 } s m args below meth c 1 G 8 (MQ below (QC 1 G (some (.int r)) M) args s 0 0 (AU 1 G)) 63 [(0, .ref (gB G + 0)), (1, .int x1), (2, .int x2), (3, .int x3), (4, .int x4), (5, .int x5), (6, .int x6), (7, .int x7)] [] M := by
  intro n
  induction n with
  | zero =>
    intro x2 x3 x4 x7  h
    exact absurd h (fun z => by cases z)
  | succ n ih =>
    intro x2 x3 x4 x7  h
    exact kb_X12_spies_63 C hlk hr hk36 hk51 (fun x2 x3 x4 x7 h => ih x2 x3 x4 x7 h) h
set_option maxRecDepth 4000 in
theorem k_X12_spies_157 {p : Program} {l : Launch} {e : Env} {s : State} {m : MethodId} {args : Array Value} {below : List Frame} {meth : Method} {c : Code} {G : GG} {k36 : Int32 → Int32 → Int32 → Int32 → Option Int32} {M : Mm} {x1 : Int32} {x2 : Int32} {x3 : Int32} {x4 : Int32} {x5 : Int32} {r : Int32} (C : CX p s m args c prog_14_method_73_code 8 "SnowSentriesModel" 1 G) (hlk : meth.locks = false) (hr : meth.sig.returnType = (some .int)) (hk36 : ∀ (x2 : Int32) (x3 : Int32) (x4 : Int32) (x5 : Int32), k36 x2 x3 x4 x5 = some r → Z p l e { frames := 2, cells := 0, slots := 0, locals := 49 } s m args below meth c 1 G 8 (MQ below (QC 1 G (some (.int r)) M) args s 0 0 (AU 1 G)) 36 [(0, .ref (gB G + 0)), (1, .int x1), (2, .int x2), (3, .int x3), (4, .int x4), (5, .int x5)] [] M) : f_X12_spies_157 k36 M x1 x2 x3 x4 x5 = some r → Z p l e { frames := 2, cells := 0, slots := 0, locals := 49 } s m args below meth c 1 G 8 (MQ below (QC 1 G (some (.int r)) M) args s 0 0 (AU 1 G)) 157 [(0, .ref (gB G + 0)), (1, .int x1), (2, .int x2), (3, .int x3), (4, .int x4), (5, .int x5)] [] M := by
  intro h
  unfold f_X12_spies_157 at h
  refine z_iinc (v := (1 : Int32)) (L' := [(5, .int (x5 + (1 : Int32))), (0, .ref (gB G + 0)), (1, .int x1), (2, .int x2), (3, .int x3), (4, .int x4)]) 5 C d_X12_spies_157 rfl (by decide) (by decide) rfl ?_
  refine z_goto C d_X12_spies_160 ?_
  exact z_sub [1, 2, 3, 4, 5, 0] rfl (hk36 _ _ _ _  h)
set_option maxRecDepth 4000 in
theorem kb_X12_spies_51 {p : Program} {l : Launch} {e : Env} {s : State} {m : MethodId} {args : Array Value} {below : List Frame} {meth : Method} {c : Code} {G : GG} {k36 : Int32 → Int32 → Int32 → Int32 → Option Int32} {k51 : Int32 → Int32 → Int32 → Int32 → Option Int32} {M : Mm} {x1 : Int32} {x5 : Int32} {x2 : Int32} {x3 : Int32} {x4 : Int32} {x6 : Int32} {r : Int32} (C : CX p s m args c prog_14_method_73_code 8 "SnowSentriesModel" 1 G) (hlk : meth.locks = false) (hr : meth.sig.returnType = (some .int)) (hk36 : ∀ (x2 : Int32) (x3 : Int32) (x4 : Int32) (x5 : Int32), k36 x2 x3 x4 x5 = some r → Z p l e { frames := 2, cells := 0, slots := 0, locals := 49 } s m args below meth c 1 G 8 (MQ below (QC 1 G (some (.int r)) M) args s 0 0 (AU 1 G)) 36 [(0, .ref (gB G + 0)), (1, .int x1), (2, .int x2), (3, .int x3), (4, .int x4), (5, .int x5)] [] M) (hk51 : ∀ (x2 : Int32) (x3 : Int32) (x4 : Int32) (x6 : Int32), k51 x2 x3 x4 x6 = some r → Z p l e { frames := 2, cells := 0, slots := 0, locals := 49 } s m args below meth c 1 G 8 (MQ below (QC 1 G (some (.int r)) M) args s 0 0 (AU 1 G)) 51 [(0, .ref (gB G + 0)), (1, .int x1), (2, .int x2), (3, .int x3), (4, .int x4), (5, .int x5), (6, .int x6)] [] M) : b_X12_spies_51 k36 k51 M x1 x5 x2 x3 x4 x6 = some r → Z p l e { frames := 2, cells := 0, slots := 0, locals := 49 } s m args below meth c 1 G 8 (MQ below (QC 1 G (some (.int r)) M) args s 0 0 (AU 1 G)) 51 [(0, .ref (gB G + 0)), (1, .int x1), (2, .int x2), (3, .int x3), (4, .int x4), (5, .int x5), (6, .int x6)] [] M := by
  intro h
  unfold b_X12_spies_51 at h
  refine z_iload 6 C d_X12_spies_51 rfl ?_
  refine z_aload_n 0 C d_X12_spies_53 rfl rfl ?_
  refine z_get (k := 1) (v := .int (M.1 0 1)) C (eY_0 _ _) (by decide) rfl inX12 (by decide) wf_X12_13 rfl d_X12_spies_54 ?_
  refine z_icmp_ge C d_X12_spies_57 (fun q1 => ?_) (fun q1 => ?_)
  · have h := o_t q1 h
    exact z_sub [0, 1, 2, 3, 4, 5] rfl (k_X12_spies_157 C hlk hr hk36 h)
  · have h := o_f q1 h
    refine z_iconst (v := (0 : Int32)) C d_X12_spies_60 (by decide) ?_
    refine z_istore (L' := [(7, .int (0 : Int32)), (0, .ref (gB G + 0)), (1, .int x1), (2, .int x2), (3, .int x3), (4, .int x4), (5, .int x5), (6, .int x6)]) C d_X12_spies_61 (by decide) rfl ?_
    exact z_sub [1, 2, 3, 4, 5, 6, 7, 0] rfl (k_X12_spies_63 C hlk hr hk36 hk51 _ _ _ _ _ h)
theorem k_X12_spies_51 {p : Program} {l : Launch} {e : Env} {s : State} {m : MethodId} {args : Array Value} {below : List Frame} {meth : Method} {c : Code} {G : GG} {k36 : Int32 → Int32 → Int32 → Int32 → Option Int32} {M : Mm} {x1 : Int32} {x5 : Int32} {r : Int32} (C : CX p s m args c prog_14_method_73_code 8 "SnowSentriesModel" 1 G) (hlk : meth.locks = false) (hr : meth.sig.returnType = (some .int)) (hk36 : ∀ (x2 : Int32) (x3 : Int32) (x4 : Int32) (x5 : Int32), k36 x2 x3 x4 x5 = some r → Z p l e { frames := 2, cells := 0, slots := 0, locals := 49 } s m args below meth c 1 G 8 (MQ below (QC 1 G (some (.int r)) M) args s 0 0 (AU 1 G)) 36 [(0, .ref (gB G + 0)), (1, .int x1), (2, .int x2), (3, .int x3), (4, .int x4), (5, .int x5)] [] M) : ∀ (n : Nat) (x2 : Int32) (x3 : Int32) (x4 : Int32) (x6 : Int32), f_X12_spies_51 k36 M x1 x5 n x2 x3 x4 x6 = some r → Z p l e { frames := 2, cells := 0, slots := 0, locals := 49 } s m args below meth c 1 G 8 (MQ below (QC 1 G (some (.int r)) M) args s 0 0 (AU 1 G)) 51 [(0, .ref (gB G + 0)), (1, .int x1), (2, .int x2), (3, .int x3), (4, .int x4), (5, .int x5), (6, .int x6)] [] M := by
  intro n
  induction n with
  | zero =>
    intro x2 x3 x4 x6  h
    exact absurd h (fun z => by cases z)
  | succ n ih =>
    intro x2 x3 x4 x6  h
    exact kb_X12_spies_51 C hlk hr hk36 (fun x2 x3 x4 x6 h => ih x2 x3 x4 x6 h) h
set_option maxRecDepth 4000 in
theorem k_X12_spies_182 {p : Program} {l : Launch} {e : Env} {s : State} {m : MethodId} {args : Array Value} {below : List Frame} {meth : Method} {c : Code} {G : GG} {M : Mm} {s_0 : Int32} {r : Int32} (C : CX p s m args c prog_14_method_73_code 8 "SnowSentriesModel" 1 G) (hlk : meth.locks = false) (hr : meth.sig.returnType = (some .int)) : f_X12_spies_182 M s_0 = some r → Z p l e { frames := 2, cells := 0, slots := 0, locals := 49 } s m args below meth c 1 G 8 (MQ below (QC 1 G (some (.int r)) M) args s 0 0 (AU 1 G)) 182 [] [.int s_0] M := by
  intro h
  unfold f_X12_spies_182 at h
  obtain rfl := o_some h
  exact z_iret C hlk hr d_X12_spies_182
set_option maxRecDepth 4000 in
theorem k_X12_spies_163 {p : Program} {l : Launch} {e : Env} {s : State} {m : MethodId} {args : Array Value} {below : List Frame} {meth : Method} {c : Code} {G : GG} {M : Mm} {x1 : Int32} {x2 : Int32} {x3 : Int32} {x4 : Int32} {r : Int32} (C : CX p s m args c prog_14_method_73_code 8 "SnowSentriesModel" 1 G) (hlk : meth.locks = false) (hr : meth.sig.returnType = (some .int)) : f_X12_spies_163 M x1 x2 x3 x4 = some r → Z p l e { frames := 2, cells := 0, slots := 0, locals := 49 } s m args below meth c 1 G 8 (MQ below (QC 1 G (some (.int r)) M) args s 0 0 (AU 1 G)) 163 [(1, .int x1), (2, .int x2), (3, .int x3), (4, .int x4)] [] M := by
  intro h
  unfold f_X12_spies_163 at h
  refine z_iload_n 0 C d_X12_spies_163 rfl rfl ?_
  refine z_if_ne C d_X12_spies_164 (fun q1 => ?_) (fun q1 => ?_)
  · have h := o_f q1 h
    refine z_iload_n 0 C d_X12_spies_171 rfl rfl ?_
    refine z_iconst (v := (1 : Int32)) C d_X12_spies_172 (by decide) ?_
    refine z_icmp_ne C d_X12_spies_173 (fun q2 => ?_) (fun q2 => ?_)
    · have h := o_f q2 h
      refine z_iload 3 C d_X12_spies_180 rfl ?_
      exact z_sub [] rfl (k_X12_spies_182 C hlk hr h)
    · have h := o_t q2 h
      refine z_iload_n 2 C d_X12_spies_176 rfl rfl ?_
      refine z_goto C d_X12_spies_177 ?_
      exact z_sub [] rfl (k_X12_spies_182 C hlk hr h)
  · have h := o_t q1 h
    refine z_iload_n 1 C d_X12_spies_167 rfl rfl ?_
    refine z_goto C d_X12_spies_168 ?_
    exact z_sub [] rfl (k_X12_spies_182 C hlk hr h)
set_option maxRecDepth 4000 in
theorem kb_X12_spies_36 {p : Program} {l : Launch} {e : Env} {s : State} {m : MethodId} {args : Array Value} {below : List Frame} {meth : Method} {c : Code} {G : GG} {k36 : Int32 → Int32 → Int32 → Int32 → Option Int32} {M : Mm} {x1 : Int32} {x2 : Int32} {x3 : Int32} {x4 : Int32} {x5 : Int32} {r : Int32} (C : CX p s m args c prog_14_method_73_code 8 "SnowSentriesModel" 1 G) (hlk : meth.locks = false) (hr : meth.sig.returnType = (some .int)) (hk36 : ∀ (x2 : Int32) (x3 : Int32) (x4 : Int32) (x5 : Int32), k36 x2 x3 x4 x5 = some r → Z p l e { frames := 2, cells := 0, slots := 0, locals := 49 } s m args below meth c 1 G 8 (MQ below (QC 1 G (some (.int r)) M) args s 0 0 (AU 1 G)) 36 [(0, .ref (gB G + 0)), (1, .int x1), (2, .int x2), (3, .int x3), (4, .int x4), (5, .int x5)] [] M) : b_X12_spies_36 k36 M x1 x2 x3 x4 x5 = some r → Z p l e { frames := 2, cells := 0, slots := 0, locals := 49 } s m args below meth c 1 G 8 (MQ below (QC 1 G (some (.int r)) M) args s 0 0 (AU 1 G)) 36 [(0, .ref (gB G + 0)), (1, .int x1), (2, .int x2), (3, .int x3), (4, .int x4), (5, .int x5)] [] M := by
  intro h
  unfold b_X12_spies_36 at h
  refine z_iload 5 C d_X12_spies_36 rfl ?_
  refine z_aload_n 0 C d_X12_spies_38 rfl rfl ?_
  refine z_get (k := 1) (v := .int (M.1 0 1)) C (eY_0 _ _) (by decide) rfl inX12 (by decide) wf_X12_13 rfl d_X12_spies_39 ?_
  refine z_icmp_ge C d_X12_spies_42 (fun q1 => ?_) (fun q1 => ?_)
  · have h := o_t q1 h
    exact z_sub [1, 2, 3, 4] rfl (k_X12_spies_163 C hlk hr h)
  · have h := o_f q1 h
    refine z_iload 5 C d_X12_spies_45 rfl ?_
    refine z_iconst (v := (1 : Int32)) C d_X12_spies_47 (by decide) ?_
    refine z_iadd C d_X12_spies_48 ?_
    obtain ⟨v2, e3, h⟩ := o_nm h
    refine z_nI e3 ?_
    refine z_istore (L' := [(6, .int v2), (0, .ref (gB G + 0)), (1, .int x1), (2, .int x2), (3, .int x3), (4, .int x4), (5, .int x5)]) C d_X12_spies_49 (by decide) rfl ?_
    exact z_sub [1, 2, 3, 4, 5, 6, 0] rfl (k_X12_spies_51 C hlk hr hk36 _ _ _ _ _ h)
theorem k_X12_spies_36 {p : Program} {l : Launch} {e : Env} {s : State} {m : MethodId} {args : Array Value} {below : List Frame} {meth : Method} {c : Code} {G : GG} {M : Mm} {x1 : Int32} {r : Int32} (C : CX p s m args c prog_14_method_73_code 8 "SnowSentriesModel" 1 G) (hlk : meth.locks = false) (hr : meth.sig.returnType = (some .int)) : ∀ (n : Nat) (x2 : Int32) (x3 : Int32) (x4 : Int32) (x5 : Int32), f_X12_spies_36 M x1 n x2 x3 x4 x5 = some r → Z p l e { frames := 2, cells := 0, slots := 0, locals := 49 } s m args below meth c 1 G 8 (MQ below (QC 1 G (some (.int r)) M) args s 0 0 (AU 1 G)) 36 [(0, .ref (gB G + 0)), (1, .int x1), (2, .int x2), (3, .int x3), (4, .int x4), (5, .int x5)] [] M := by
  intro n
  induction n with
  | zero =>
    intro x2 x3 x4 x5  h
    exact absurd h (fun z => by cases z)
  | succ n ih =>
    intro x2 x3 x4 x5  h
    exact kb_X12_spies_36 C hlk hr  (fun x2 x3 x4 x5 h => ih x2 x3 x4 x5 h) h
set_option maxRecDepth 4000 in
theorem k_X12_spies_0 {p : Program} {l : Launch} {e : Env} {s : State} {m : MethodId} {args : Array Value} {below : List Frame} {meth : Method} {c : Code} {G : GG} {M : Mm} {x1 : Int32} {r : Int32} (C : CX p s m args c prog_14_method_73_code 8 "SnowSentriesModel" 1 G) (hlk : meth.locks = false) (hr : meth.sig.returnType = (some .int)) : f_X12_spies M x1 = some r → Z p l e { frames := 2, cells := 0, slots := 0, locals := 49 } s m args below meth c 1 G 8 (MQ below (QC 1 G (some (.int r)) M) args s 0 0 (AU 1 G)) 0 [(0, .ref (gB G + 0)), (1, .int x1)] [] M := by
  intro h
  unfold f_X12_spies at h
  refine z_iload_n 1 C d_X12_spies_0 rfl rfl ?_
  refine z_i2l C d_X12_spies_1 ?_
  refine z_lconst (v := (0 : Int64)) C d_X12_spies_2 (by decide) ?_
  refine z_ldc2 (v := (2 : Int64)) C wk_X12_188 d_X12_spies_3 ?_
  obtain ⟨p2, e1, h⟩ := o_bd h
  refine z_S (S := []) (As := [.long x1.toInt64, .long (0 : Int64), .long (2 : Int64)]) C (c_X12_in l G (M := M) e1) wc_X12_in wm_X12_75 ws_X12_in wi_X12 hy_X12_in ⟨Nat.le_of_ble_eq_true rfl, Nat.le_of_ble_eq_true rfl⟩ rfl rfl (Nat.le_of_ble_eq_true rfl) d_X12_spies_6 ?_
  refine z_if_ne C d_X12_spies_9 (fun q3 => ?_) (fun q3 => ?_)
  · have h := o_f q3 h
    refine z_aload_n 0 C d_X12_spies_14 rfl rfl ?_
    refine z_get (k := 30) (v := .int (M.1 0 30)) C (eY_0 _ _) (by decide) rfl inX12 (by decide) wf_X12_173 rfl d_X12_spies_15 ?_
    refine z_if_ne C d_X12_spies_18 (fun q4 => ?_) (fun q4 => ?_)
    · have h := o_f q4 h
      refine z_iconst (v := (0 : Int32)) C d_X12_spies_24 (by decide) ?_
      refine z_istore_n (L' := [(2, .int (0 : Int32)), (0, .ref (gB G + 0)), (1, .int x1)]) C d_X12_spies_25 rfl (by decide) rfl ?_
      refine z_bipush (v := (-4 : Int32)) C d_X12_spies_26 (by decide) ?_
      refine z_istore_n (L' := [(3, .int (-4 : Int32)), (2, .int (0 : Int32)), (0, .ref (gB G + 0)), (1, .int x1)]) C d_X12_spies_28 rfl (by decide) rfl ?_
      refine z_bipush (v := (-4 : Int32)) C d_X12_spies_29 (by decide) ?_
      refine z_istore (L' := [(4, .int (-4 : Int32)), (3, .int (-4 : Int32)), (2, .int (0 : Int32)), (0, .ref (gB G + 0)), (1, .int x1)]) C d_X12_spies_31 (by decide) rfl ?_
      refine z_iconst (v := (0 : Int32)) C d_X12_spies_33 (by decide) ?_
      refine z_istore (L' := [(5, .int (0 : Int32)), (4, .int (-4 : Int32)), (3, .int (-4 : Int32)), (2, .int (0 : Int32)), (0, .ref (gB G + 0)), (1, .int x1)]) C d_X12_spies_34 (by decide) rfl ?_
      exact z_sub [4, 5, 3, 2, 1, 0] rfl (k_X12_spies_36 C hlk hr _ _ _ _ _ h)
    · have h := o_t q4 h
      refine z_bipush (v := (-2 : Int32)) C d_X12_spies_21 (by decide) ?_
      obtain rfl := o_some h
      exact z_iret C hlk hr d_X12_spies_23
  · have h := o_t q3 h
    refine z_iconst (v := (-1 : Int32)) C d_X12_spies_12 (by decide) ?_
    obtain rfl := o_some h
    exact z_iret C hlk hr d_X12_spies_13
theorem c_X12_spies (l : Launch) (G : GG) {M : Mm} {x1 : Int32} {r : Int32} (h : f_X12_spies M x1 = some r) : CT l 1 G y_X12_spies prog_14_method_73_code 8 (some .int) 2 49 [.ref (gB G + 0), .int x1] M (some (.int r)) M :=
  CT.of (by decide +kernel) (Nat.le_of_ble_eq_true rfl) rfl (fun p e s m args below meth c C hlk hr => k_X12_spies_0 C hlk hr h)
-- SnowSentriesModel.lowest(JJI)J
set_option maxRecDepth 4000 in
theorem k_X12_lowest_41 {p : Program} {l : Launch} {e : Env} {s : State} {m : MethodId} {args : Array Value} {below : List Frame} {meth : Method} {c : Code} {G : GG} {j5 : Int64} {t_0 : Int64} {M : Mm}  {r : Int64} (C : CX p s m args c prog_14_method_74_code 11 "SnowSentriesModel" 1 G) (hlk : meth.locks = false) (hr : meth.sig.returnType = (some .long)) : f_X12_lowest_41 j5 t_0 = some r → Z p l e { frames := 0, cells := 0, slots := 0, locals := 0 } s m args below meth c 1 G 11 (MQ below (QC 1 G (some (.long r)) M) args s 0 0 (AU 1 G)) 41 [(5, .long j5)] [.long t_0] M := by
  intro h
  unfold f_X12_lowest_41 at h
  refine z_lload 0 C d_X12_lowest_41 rfl ?_
  obtain ⟨q1, h⟩ := o_ck h
  refine z_ldiv C d_X12_lowest_43 q1 ?_
  obtain rfl := o_some h
  exact z_lret C hlk hr d_X12_lowest_44
set_option maxRecDepth 4000 in
theorem k_X12_lowest_31 {p : Program} {l : Launch} {e : Env} {s : State} {m : MethodId} {args : Array Value} {below : List Frame} {meth : Method} {c : Code} {G : GG} {j0 : Int64} {j2 : Int64} {x4 : Int32} {j5 : Int64} {M : Mm}  {r : Int64} (C : CX p s m args c prog_14_method_74_code 11 "SnowSentriesModel" 1 G) (hlk : meth.locks = false) (hr : meth.sig.returnType = (some .long)) : f_X12_lowest_31 j0 j2 x4 j5 = some r → Z p l e { frames := 0, cells := 0, slots := 0, locals := 0 } s m args below meth c 1 G 11 (MQ below (QC 1 G (some (.long r)) M) args s 0 0 (AU 1 G)) 31 [(0, .long j0), (2, .long j2), (4, .int x4), (5, .long j5)] [] M := by
  intro h
  unfold f_X12_lowest_31 at h
  refine z_iload 2 C d_X12_lowest_31 rfl ?_
  refine z_if_ne C d_X12_lowest_33 (fun q1 => ?_) (fun q1 => ?_)
  · have h := o_f q1 h
    refine z_lload_n 1 C d_X12_lowest_40 rfl rfl ?_
    exact z_sub [3] rfl (k_X12_lowest_41 C hlk hr h)
  · have h := o_t q1 h
    refine z_lload_n 0 C d_X12_lowest_36 rfl rfl ?_
    refine z_goto C d_X12_lowest_37 ?_
    exact z_sub [3] rfl (k_X12_lowest_41 C hlk hr h)
set_option maxRecDepth 4000 in
theorem kb_X12_lowest_6 {p : Program} {l : Launch} {e : Env} {s : State} {m : MethodId} {args : Array Value} {below : List Frame} {meth : Method} {c : Code} {G : GG} {k6 : Int64 → Int64 → Option Int64} {j0 : Int64} {j2 : Int64} {x4 : Int32} {j5 : Int64} {j7 : Int64} {M : Mm}  {r : Int64} (C : CX p s m args c prog_14_method_74_code 11 "SnowSentriesModel" 1 G) (hlk : meth.locks = false) (hr : meth.sig.returnType = (some .long)) (hk6 : ∀ (j5 : Int64) (j7 : Int64), k6 j5 j7 = some r → Z p l e { frames := 0, cells := 0, slots := 0, locals := 0 } s m args below meth c 1 G 11 (MQ below (QC 1 G (some (.long r)) M) args s 0 0 (AU 1 G)) 6 [(0, .long j0), (2, .long j2), (4, .int x4), (5, .long j5), (7, .long j7)] [] M) : b_X12_lowest_6 k6 j0 j2 x4 j5 j7 = some r → Z p l e { frames := 0, cells := 0, slots := 0, locals := 0 } s m args below meth c 1 G 11 (MQ below (QC 1 G (some (.long r)) M) args s 0 0 (AU 1 G)) 6 [(0, .long j0), (2, .long j2), (4, .int x4), (5, .long j5), (7, .long j7)] [] M := by
  intro h
  unfold b_X12_lowest_6 at h
  refine z_lload 4 C d_X12_lowest_6 rfl ?_
  refine z_lconst (v := (0 : Int64)) C d_X12_lowest_8 (by decide) ?_
  refine z_lcmp C d_X12_lowest_9 ?_
  refine z_if_eq C d_X12_lowest_10 (fun q1 => ?_) (fun q1 => ?_)
  · have h := o_t q1 h
    exact z_sub [0, 1, 2, 3] rfl (k_X12_lowest_31 C hlk hr h)
  · have h := o_f q1 h
    refine z_lload 3 C d_X12_lowest_13 rfl ?_
    refine z_lload 4 C d_X12_lowest_15 rfl ?_
    obtain ⟨q2, h⟩ := o_ck h
    refine z_lrem C d_X12_lowest_17 q2 ?_
    obtain ⟨v3, e4, h⟩ := o_nm h
    refine z_nJ e4 ?_
    refine z_lstore (L' := [(9, .long v3), (0, .long j0), (2, .long j2), (4, .int x4), (5, .long j5), (7, .long j7)]) C d_X12_lowest_18 (by decide) rfl ?_
    refine z_lload 5 C d_X12_lowest_20 rfl ?_
    refine z_lstore (L' := [(5, .long j7), (9, .long v3), (0, .long j0), (2, .long j2), (4, .int x4), (7, .long j7)]) C d_X12_lowest_22 (by decide) rfl ?_
    refine z_lload 1 C d_X12_lowest_24 rfl ?_
    refine z_lstore (L' := [(7, .long v3), (5, .long j7), (9, .long v3), (0, .long j0), (2, .long j2), (4, .int x4)]) C d_X12_lowest_26 (by decide) rfl ?_
    refine z_goto C d_X12_lowest_28 ?_
    exact z_sub [3, 4, 5, 1, 0] rfl (hk6 _ _  h)
theorem k_X12_lowest_6 {p : Program} {l : Launch} {e : Env} {s : State} {m : MethodId} {args : Array Value} {below : List Frame} {meth : Method} {c : Code} {G : GG} {j0 : Int64} {j2 : Int64} {x4 : Int32} {M : Mm}  {r : Int64} (C : CX p s m args c prog_14_method_74_code 11 "SnowSentriesModel" 1 G) (hlk : meth.locks = false) (hr : meth.sig.returnType = (some .long)) : ∀ (n : Nat) (j5 : Int64) (j7 : Int64), f_X12_lowest_6 j0 j2 x4 n j5 j7 = some r → Z p l e { frames := 0, cells := 0, slots := 0, locals := 0 } s m args below meth c 1 G 11 (MQ below (QC 1 G (some (.long r)) M) args s 0 0 (AU 1 G)) 6 [(0, .long j0), (2, .long j2), (4, .int x4), (5, .long j5), (7, .long j7)] [] M := by
  intro n
  induction n with
  | zero =>
    intro j5 j7  h
    exact absurd h (fun z => by cases z)
  | succ n ih =>
    intro j5 j7  h
    exact kb_X12_lowest_6 C hlk hr  (fun j5 j7 h => ih j5 j7 h) h
set_option maxRecDepth 4000 in
theorem k_X12_lowest_0 {p : Program} {l : Launch} {e : Env} {s : State} {m : MethodId} {args : Array Value} {below : List Frame} {meth : Method} {c : Code} {G : GG} {j0 : Int64} {j2 : Int64} {x4 : Int32} {M : Mm}  {r : Int64} (C : CX p s m args c prog_14_method_74_code 11 "SnowSentriesModel" 1 G) (hlk : meth.locks = false) (hr : meth.sig.returnType = (some .long)) : f_X12_lowest j0 j2 x4 = some r → Z p l e { frames := 0, cells := 0, slots := 0, locals := 0 } s m args below meth c 1 G 11 (MQ below (QC 1 G (some (.long r)) M) args s 0 0 (AU 1 G)) 0 [(0, .long j0), (2, .long j2), (4, .int x4)] [] M := by
  intro h
  unfold f_X12_lowest at h
  refine z_lload_n 0 C d_X12_lowest_0 rfl rfl ?_
  refine z_lstore (L' := [(5, .long j0), (0, .long j0), (2, .long j2), (4, .int x4)]) C d_X12_lowest_1 (by decide) rfl ?_
  refine z_lload_n 2 C d_X12_lowest_3 rfl rfl ?_
  refine z_lstore (L' := [(7, .long j2), (5, .long j0), (0, .long j0), (2, .long j2), (4, .int x4)]) C d_X12_lowest_4 (by decide) rfl ?_
  exact z_sub [2, 3, 4, 1, 0] rfl (k_X12_lowest_6 C hlk hr _ _ _ h)
theorem c_X12_lowest (l : Launch) (G : GG) {j0 : Int64} {j2 : Int64} {x4 : Int32} {M : Mm} {r : Int64} (h : f_X12_lowest j0 j2 x4 = some r) : CT l 1 G y_X12_lowest prog_14_method_74_code 11 (some .long) 0 0 [.long j0, .long j2, .int x4] M (some (.long r)) M :=
  CT.of (by decide +kernel) (Nat.le_of_ble_eq_true rfl) rfl (fun p e s m args below meth c C hlk hr => k_X12_lowest_0 C hlk hr h)
-- SnowSentriesModel.odds(IIII)J
set_option maxRecDepth 4000 in
theorem k_X12_odds_34 {p : Program} {l : Launch} {e : Env} {s : State} {m : MethodId} {args : Array Value} {below : List Frame} {meth : Method} {c : Code} {G : GG} {M : Mm} {r : Int64} {M2 : Mm} (C : CX p s m args c prog_14_method_75_code 14 "SnowSentriesModel" 1 G) (hlk : meth.locks = false) (hr : meth.sig.returnType = (some .long)) : f_X12_odds_34 M = some (r, M2) → Z p l e { frames := 4, cells := 0, slots := 0, locals := 107 } s m args below meth c 1 G 14 (MQ below (QC 1 G (some (.long r)) M2) args s 0 0 (AU 1 G)) 34 [] [] M := by
  intro h
  unfold f_X12_odds_34 at h
  refine z_ldc2 (v := (-1 : Int64)) C wk_X12_278 d_X12_odds_34 ?_
  obtain ⟨rfl, rfl⟩ := o_pair h
  exact z_lret C hlk hr d_X12_odds_37
set_option maxRecDepth 4000 in
theorem k_X12_odds_144 {p : Program} {l : Launch} {e : Env} {s : State} {m : MethodId} {args : Array Value} {below : List Frame} {meth : Method} {c : Code} {G : GG} {k93 : Mm → Int64 → Int32 → Option (Int64 × Mm)} {k108 : Int64 → Int32 → Option (Int64 × Mm)} {M : Mm} {x1 : Int32} {x2 : Int32} {x3 : Int32} {x4 : Int32} {x5 : Int32} {j6 : Int64} {j8 : Int64} {x10 : Int32} {x13 : Int32} {t_0 : Int64} {t_1 : Int64} {r : Int64} {M2 : Mm} (C : CX p s m args c prog_14_method_75_code 14 "SnowSentriesModel" 1 G) (hlk : meth.locks = false) (hr : meth.sig.returnType = (some .long)) (hk93 : ∀ (M : Mm) (j8 : Int64) (x10 : Int32), k93 M j8 x10 = some (r, M2) → Z p l e { frames := 4, cells := 0, slots := 0, locals := 107 } s m args below meth c 1 G 14 (MQ below (QC 1 G (some (.long r)) M2) args s 0 0 (AU 1 G)) 93 [(0, .ref (gB G + 0)), (1, .int x1), (2, .int x2), (3, .int x3), (4, .int x4), (5, .int x5), (6, .long j6), (8, .long j8), (10, .int x10)] [] M) (hk108 : ∀ (j11 : Int64) (x13 : Int32), k108 j11 x13 = some (r, M2) → Z p l e { frames := 4, cells := 0, slots := 0, locals := 107 } s m args below meth c 1 G 14 (MQ below (QC 1 G (some (.long r)) M2) args s 0 0 (AU 1 G)) 108 [(0, .ref (gB G + 0)), (1, .int x1), (2, .int x2), (3, .int x3), (4, .int x4), (5, .int x5), (6, .long j6), (8, .long j8), (10, .int x10), (11, .long j11), (13, .int x13)] [] M) : f_X12_odds_144 k93 k108 M x1 x2 x3 x4 x5 j6 j8 x10 x13 t_0 t_1 = some (r, M2) → Z p l e { frames := 4, cells := 0, slots := 0, locals := 107 } s m args below meth c 1 G 14 (MQ below (QC 1 G (some (.long r)) M2) args s 0 0 (AU 1 G)) 144 [(0, .ref (gB G + 0)), (1, .int x1), (2, .int x2), (3, .int x3), (4, .int x4), (5, .int x5), (6, .long j6), (8, .long j8), (10, .int x10), (13, .int x13)] [.long t_1, .long t_0] M := by
  intro h
  unfold f_X12_odds_144 at h
  refine z_lmul C d_X12_odds_144 ?_
  obtain ⟨v1, e2, h⟩ := o_nm h
  refine z_nJ e2 ?_
  refine z_lstore (L' := [(11, .long v1), (0, .ref (gB G + 0)), (1, .int x1), (2, .int x2), (3, .int x3), (4, .int x4), (5, .int x5), (6, .long j6), (8, .long j8), (10, .int x10), (13, .int x13)]) C d_X12_odds_145 (by decide) rfl ?_
  refine z_iinc (v := (1 : Int32)) (L' := [(13, .int (x13 + (1 : Int32))), (11, .long v1), (0, .ref (gB G + 0)), (1, .int x1), (2, .int x2), (3, .int x3), (4, .int x4), (5, .int x5), (6, .long j6), (8, .long j8), (10, .int x10)]) 10 C d_X12_odds_147 rfl (by decide) (by decide) rfl ?_
  refine z_goto C d_X12_odds_150 ?_
  exact z_sub [2, 3, 4, 5, 6, 7, 8, 9, 10, 1, 0] rfl (hk108 _ _  h)
set_option maxRecDepth 4000 in
theorem k_X12_odds_186 {p : Program} {l : Launch} {e : Env} {s : State} {m : MethodId} {args : Array Value} {below : List Frame} {meth : Method} {c : Code} {G : GG} {k93 : Mm → Int64 → Int32 → Option (Int64 × Mm)} {M : Mm} {x1 : Int32} {x2 : Int32} {x3 : Int32} {x4 : Int32} {x5 : Int32} {j6 : Int64} {x10 : Int32} {t_0 : Int64} {t_1 : Int64} {r : Int64} {M2 : Mm} (C : CX p s m args c prog_14_method_75_code 14 "SnowSentriesModel" 1 G) (hlk : meth.locks = false) (hr : meth.sig.returnType = (some .long)) (hk93 : ∀ (M : Mm) (j8 : Int64) (x10 : Int32), k93 M j8 x10 = some (r, M2) → Z p l e { frames := 4, cells := 0, slots := 0, locals := 107 } s m args below meth c 1 G 14 (MQ below (QC 1 G (some (.long r)) M2) args s 0 0 (AU 1 G)) 93 [(0, .ref (gB G + 0)), (1, .int x1), (2, .int x2), (3, .int x3), (4, .int x4), (5, .int x5), (6, .long j6), (8, .long j8), (10, .int x10)] [] M) : f_X12_odds_186 k93 M x1 x2 x3 x4 x5 j6 x10 t_0 t_1 = some (r, M2) → Z p l e { frames := 4, cells := 0, slots := 0, locals := 107 } s m args below meth c 1 G 14 (MQ below (QC 1 G (some (.long r)) M2) args s 0 0 (AU 1 G)) 186 [(0, .ref (gB G + 0)), (1, .int x1), (2, .int x2), (3, .int x3), (4, .int x4), (5, .int x5), (6, .long j6), (10, .int x10)] [.long t_1, .long t_0] M := by
  intro h
  unfold f_X12_odds_186 at h
  refine z_ladd C d_X12_odds_186 ?_
  obtain ⟨v1, e2, h⟩ := o_nm h
  refine z_nJ e2 ?_
  refine z_lstore (L' := [(8, .long v1), (0, .ref (gB G + 0)), (1, .int x1), (2, .int x2), (3, .int x3), (4, .int x4), (5, .int x5), (6, .long j6), (10, .int x10)]) C d_X12_odds_187 (by decide) rfl ?_
  refine z_iinc (v := (1 : Int32)) (L' := [(10, .int (x10 + (1 : Int32))), (8, .long v1), (0, .ref (gB G + 0)), (1, .int x1), (2, .int x2), (3, .int x3), (4, .int x4), (5, .int x5), (6, .long j6)]) 8 C d_X12_odds_189 rfl (by decide) (by decide) rfl ?_
  refine z_goto C d_X12_odds_192 ?_
  exact z_sub [2, 3, 4, 5, 6, 7, 8, 1, 0] rfl (hk93 _ _ _  h)
set_option maxRecDepth 4000 in
theorem k_X12_odds_185 {p : Program} {l : Launch} {e : Env} {s : State} {m : MethodId} {args : Array Value} {below : List Frame} {meth : Method} {c : Code} {G : GG} {k93 : Mm → Int64 → Int32 → Option (Int64 × Mm)} {M : Mm} {x1 : Int32} {x2 : Int32} {x3 : Int32} {x4 : Int32} {x5 : Int32} {j6 : Int64} {x10 : Int32} {t_0 : Int64} {r : Int64} {M2 : Mm} (C : CX p s m args c prog_14_method_75_code 14 "SnowSentriesModel" 1 G) (hlk : meth.locks = false) (hr : meth.sig.returnType = (some .long)) (hk93 : ∀ (M : Mm) (j8 : Int64) (x10 : Int32), k93 M j8 x10 = some (r, M2) → Z p l e { frames := 4, cells := 0, slots := 0, locals := 107 } s m args below meth c 1 G 14 (MQ below (QC 1 G (some (.long r)) M2) args s 0 0 (AU 1 G)) 93 [(0, .ref (gB G + 0)), (1, .int x1), (2, .int x2), (3, .int x3), (4, .int x4), (5, .int x5), (6, .long j6), (8, .long j8), (10, .int x10)] [] M) : f_X12_odds_185 k93 M x1 x2 x3 x4 x5 j6 x10 t_0 = some (r, M2) → Z p l e { frames := 4, cells := 0, slots := 0, locals := 107 } s m args below meth c 1 G 14 (MQ below (QC 1 G (some (.long r)) M2) args s 0 0 (AU 1 G)) 185 [(0, .ref (gB G + 0)), (1, .int x1), (2, .int x2), (3, .int x3), (4, .int x4), (5, .int x5), (6, .long j6), (10, .int x10)] [.long t_0] M := by
  intro h
  unfold f_X12_odds_185 at h
  refine z_lconst (v := (0 : Int64)) C d_X12_odds_185 (by decide) ?_
  exact z_sub [0, 1, 2, 3, 4, 5, 6, 7] rfl (k_X12_odds_186 C hlk hr hk93 h)
set_option maxRecDepth 4000 in
theorem k_X12_odds_153 {p : Program} {l : Launch} {e : Env} {s : State} {m : MethodId} {args : Array Value} {below : List Frame} {meth : Method} {c : Code} {G : GG} {k93 : Mm → Int64 → Int32 → Option (Int64 × Mm)} {M : Mm} {x1 : Int32} {x2 : Int32} {x3 : Int32} {x4 : Int32} {x5 : Int32} {j6 : Int64} {j8 : Int64} {x10 : Int32} {j11 : Int64} {r : Int64} {M2 : Mm} (C : CX p s m args c prog_14_method_75_code 14 "SnowSentriesModel" 1 G) (hlk : meth.locks = false) (hr : meth.sig.returnType = (some .long)) (hk93 : ∀ (M : Mm) (j8 : Int64) (x10 : Int32), k93 M j8 x10 = some (r, M2) → Z p l e { frames := 4, cells := 0, slots := 0, locals := 107 } s m args below meth c 1 G 14 (MQ below (QC 1 G (some (.long r)) M2) args s 0 0 (AU 1 G)) 93 [(0, .ref (gB G + 0)), (1, .int x1), (2, .int x2), (3, .int x3), (4, .int x4), (5, .int x5), (6, .long j6), (8, .long j8), (10, .int x10)] [] M) : f_X12_odds_153 k93 M x1 x2 x3 x4 x5 j6 j8 x10 j11 = some (r, M2) → Z p l e { frames := 4, cells := 0, slots := 0, locals := 107 } s m args below meth c 1 G 14 (MQ below (QC 1 G (some (.long r)) M2) args s 0 0 (AU 1 G)) 153 [(0, .ref (gB G + 0)), (1, .int x1), (2, .int x2), (3, .int x3), (4, .int x4), (5, .int x5), (6, .long j6), (8, .long j8), (10, .int x10), (11, .long j11)] [] M := by
  intro h
  unfold f_X12_odds_153 at h
  refine z_lload 7 C d_X12_odds_153 rfl ?_
  refine z_lload 9 C d_X12_odds_155 rfl ?_
  refine z_lconst (v := (0 : Int64)) C d_X12_odds_157 (by decide) ?_
  refine z_lcmp C d_X12_odds_158 ?_
  refine z_if_le C d_X12_odds_159 (fun q1 => ?_) (fun q1 => ?_)
  · have h := o_t q1 h
    exact z_sub [0, 1, 2, 3, 4, 5, 6, 8] rfl (k_X12_odds_185 C hlk hr hk93 h)
  · have h := o_f q1 h
    refine z_aload_n 0 C d_X12_odds_162 rfl rfl ?_
    refine z_iload_n 1 C d_X12_odds_163 rfl rfl ?_
    refine z_iload_n 2 C d_X12_odds_164 rfl rfl ?_
    refine z_iconst (v := (0 : Int32)) C d_X12_odds_165 (by decide) ?_
    refine z_iload 8 C d_X12_odds_166 rfl ?_
    refine z_aload_n 0 C d_X12_odds_168 rfl rfl ?_
    obtain ⟨p3, e2, h⟩ := o_bd h
    refine z_V (S := [.int x10, .int (0 : Int32), .int x2, .int x1, .ref (gB G + 0), .long j8]) (As := []) C (c_X12_hourNow l G e2) (eY_0 _ _) (by decide) rfl wc_X12_hourNow wm_X12_185 ws_X12_hourNow wl_X12_hourNow wi_X12 hy_X12_hourNow ⟨Nat.le_of_ble_eq_true rfl, Nat.le_of_ble_eq_true rfl⟩ rfl rfl (Nat.le_of_ble_eq_true rfl) d_X12_odds_169 ?_
    refine z_ishl C d_X12_odds_172 ?_
    obtain ⟨p5, e4, h⟩ := o_bd h
    refine z_V (S := [.long j8]) (As := [.int x1, .int x2, .int (0 : Int32), .int (x10 <<< (p3 &&& 31))]) C (c_X12_holdsTo l G e4) (eY_0 _ _) (by decide) rfl wc_X12_holdsTo wm_X12_257 ws_X12_holdsTo wl_X12_holdsTo wi_X12 hy_X12_holdsTo ⟨Nat.le_of_ble_eq_true rfl, Nat.le_of_ble_eq_true rfl⟩ rfl rfl (Nat.le_of_ble_eq_true rfl) d_X12_odds_173 ?_
    refine z_iload_n 3 C d_X12_odds_176 rfl rfl ?_
    refine z_icmp_ge C d_X12_odds_177 (fun q6 => ?_) (fun q6 => ?_)
    · have h := o_t q6 h
      exact z_sub [0, 1, 2, 3, 4, 5, 6, 8] rfl (k_X12_odds_185 C hlk hr hk93 h)
    · have h := o_f q6 h
      refine z_lload 9 C d_X12_odds_180 rfl ?_
      refine z_goto C d_X12_odds_182 ?_
      exact z_sub [0, 1, 2, 3, 4, 5, 6, 8] rfl (k_X12_odds_186 C hlk hr hk93 h)
set_option maxRecDepth 4000 in
theorem kb_X12_odds_108 {p : Program} {l : Launch} {e : Env} {s : State} {m : MethodId} {args : Array Value} {below : List Frame} {meth : Method} {c : Code} {G : GG} {k93 : Mm → Int64 → Int32 → Option (Int64 × Mm)} {k108 : Int64 → Int32 → Option (Int64 × Mm)} {M : Mm} {x1 : Int32} {x2 : Int32} {x3 : Int32} {x4 : Int32} {x5 : Int32} {j6 : Int64} {j8 : Int64} {x10 : Int32} {j11 : Int64} {x13 : Int32} {r : Int64} {M2 : Mm} (C : CX p s m args c prog_14_method_75_code 14 "SnowSentriesModel" 1 G) (hlk : meth.locks = false) (hr : meth.sig.returnType = (some .long)) (hk93 : ∀ (M : Mm) (j8 : Int64) (x10 : Int32), k93 M j8 x10 = some (r, M2) → Z p l e { frames := 4, cells := 0, slots := 0, locals := 107 } s m args below meth c 1 G 14 (MQ below (QC 1 G (some (.long r)) M2) args s 0 0 (AU 1 G)) 93 [(0, .ref (gB G + 0)), (1, .int x1), (2, .int x2), (3, .int x3), (4, .int x4), (5, .int x5), (6, .long j6), (8, .long j8), (10, .int x10)] [] M) (hk108 : ∀ (j11 : Int64) (x13 : Int32), k108 j11 x13 = some (r, M2) → Z p l e { frames := 4, cells := 0, slots := 0, locals := 107 } s m args below meth c 1 G 14 (MQ below (QC 1 G (some (.long r)) M2) args s 0 0 (AU 1 G)) 108 [(0, .ref (gB G + 0)), (1, .int x1), (2, .int x2), (3, .int x3), (4, .int x4), (5, .int x5), (6, .long j6), (8, .long j8), (10, .int x10), (11, .long j11), (13, .int x13)] [] M) : b_X12_odds_108 k93 k108 M x1 x2 x3 x4 x5 j6 j8 x10 j11 x13 = some (r, M2) → Z p l e { frames := 4, cells := 0, slots := 0, locals := 107 } s m args below meth c 1 G 14 (MQ below (QC 1 G (some (.long r)) M2) args s 0 0 (AU 1 G)) 108 [(0, .ref (gB G + 0)), (1, .int x1), (2, .int x2), (3, .int x3), (4, .int x4), (5, .int x5), (6, .long j6), (8, .long j8), (10, .int x10), (11, .long j11), (13, .int x13)] [] M := by
  intro h
  unfold b_X12_odds_108 at h
  refine z_iload 10 C d_X12_odds_108 rfl ?_
  refine z_iload 5 C d_X12_odds_110 rfl ?_
  refine z_icmp_ge C d_X12_odds_112 (fun q1 => ?_) (fun q1 => ?_)
  · have h := o_t q1 h
    exact z_sub [0, 1, 2, 3, 4, 5, 6, 7, 8, 9] rfl (k_X12_odds_153 C hlk hr hk93 h)
  · have h := o_f q1 h
    refine z_lload 9 C d_X12_odds_115 rfl ?_
    refine z_iload 8 C d_X12_odds_117 rfl ?_
    refine z_iload 10 C d_X12_odds_119 rfl ?_
    refine z_ishr C d_X12_odds_121 ?_
    refine z_iconst (v := (1 : Int32)) C d_X12_odds_122 (by decide) ?_
    refine z_iand C d_X12_odds_123 ?_
    refine z_iconst (v := (1 : Int32)) C d_X12_odds_124 (by decide) ?_
    refine z_icmp_ne C d_X12_odds_125 (fun q2 => ?_) (fun q2 => ?_)
    · have h := o_f q2 h
      refine z_bipush (v := (10 : Int32)) C d_X12_odds_136 (by decide) ?_
      refine z_aload_n 0 C d_X12_odds_138 rfl rfl ?_
      refine z_get (k := 6) (v := .int (M.1 0 6)) C (eY_0 _ _) (by decide) rfl inX12 (by decide) wf_X12_26 rfl d_X12_odds_139 ?_
      refine z_isub C d_X12_odds_142 ?_
      refine z_i2l C d_X12_odds_143 ?_
      exact z_sub [0, 1, 2, 3, 4, 5, 6, 7, 8, 10] rfl (k_X12_odds_144 C hlk hr hk93 hk108 h)
    · have h := o_t q2 h
      refine z_aload_n 0 C d_X12_odds_128 rfl rfl ?_
      refine z_get (k := 6) (v := .int (M.1 0 6)) C (eY_0 _ _) (by decide) rfl inX12 (by decide) wf_X12_26 rfl d_X12_odds_129 ?_
      refine z_i2l C d_X12_odds_132 ?_
      refine z_goto C d_X12_odds_133 ?_
      exact z_sub [0, 1, 2, 3, 4, 5, 6, 7, 8, 10] rfl (k_X12_odds_144 C hlk hr hk93 hk108 h)
theorem k_X12_odds_108 {p : Program} {l : Launch} {e : Env} {s : State} {m : MethodId} {args : Array Value} {below : List Frame} {meth : Method} {c : Code} {G : GG} {k93 : Mm → Int64 → Int32 → Option (Int64 × Mm)} {M : Mm} {x1 : Int32} {x2 : Int32} {x3 : Int32} {x4 : Int32} {x5 : Int32} {j6 : Int64} {j8 : Int64} {x10 : Int32} {r : Int64} {M2 : Mm} (C : CX p s m args c prog_14_method_75_code 14 "SnowSentriesModel" 1 G) (hlk : meth.locks = false) (hr : meth.sig.returnType = (some .long)) (hk93 : ∀ (M : Mm) (j8 : Int64) (x10 : Int32), k93 M j8 x10 = some (r, M2) → Z p l e { frames := 4, cells := 0, slots := 0, locals := 107 } s m args below meth c 1 G 14 (MQ below (QC 1 G (some (.long r)) M2) args s 0 0 (AU 1 G)) 93 [(0, .ref (gB G + 0)), (1, .int x1), (2, .int x2), (3, .int x3), (4, .int x4), (5, .int x5), (6, .long j6), (8, .long j8), (10, .int x10)] [] M) : ∀ (n : Nat) (j11 : Int64) (x13 : Int32), f_X12_odds_108 k93 M x1 x2 x3 x4 x5 j6 j8 x10 n j11 x13 = some (r, M2) → Z p l e { frames := 4, cells := 0, slots := 0, locals := 107 } s m args below meth c 1 G 14 (MQ below (QC 1 G (some (.long r)) M2) args s 0 0 (AU 1 G)) 108 [(0, .ref (gB G + 0)), (1, .int x1), (2, .int x2), (3, .int x3), (4, .int x4), (5, .int x5), (6, .long j6), (8, .long j8), (10, .int x10), (11, .long j11), (13, .int x13)] [] M := by
  intro n
  induction n with
  | zero =>
    intro j11 x13  h
    exact absurd h (fun z => by cases z)
  | succ n ih =>
    intro j11 x13  h
    exact kb_X12_odds_108 C hlk hr hk93 (fun j11 x13 h => ih j11 x13 h) h
set_option maxRecDepth 4000 in
theorem k_X12_odds_195 {p : Program} {l : Launch} {e : Env} {s : State} {m : MethodId} {args : Array Value} {below : List Frame} {meth : Method} {c : Code} {G : GG} {M : Mm} {x4 : Int32} {j6 : Int64} {j8 : Int64} {r : Int64} {M2 : Mm} (C : CX p s m args c prog_14_method_75_code 14 "SnowSentriesModel" 1 G) (hlk : meth.locks = false) (hr : meth.sig.returnType = (some .long)) : f_X12_odds_195 M x4 j6 j8 = some (r, M2) → Z p l e { frames := 4, cells := 0, slots := 0, locals := 107 } s m args below meth c 1 G 14 (MQ below (QC 1 G (some (.long r)) M2) args s 0 0 (AU 1 G)) 195 [(4, .int x4), (6, .long j6), (8, .long j8)] [] M := by
  intro h
  unfold f_X12_odds_195 at h
  refine z_lload 2 C d_X12_odds_195 rfl ?_
  refine z_lload 1 C d_X12_odds_197 rfl ?_
  refine z_iload 0 C d_X12_odds_199 rfl ?_
  obtain ⟨p2, e1, h⟩ := o_bd h
  refine z_S (S := []) (As := [.long j8, .long j6, .int x4]) C (c_X12_lowest l G (M := M) e1) wc_X12_lowest wm_X12_282 ws_X12_lowest wi_X12 hy_X12_lowest ⟨Nat.le_of_ble_eq_true rfl, Nat.le_of_ble_eq_true rfl⟩ rfl rfl (Nat.le_of_ble_eq_true rfl) d_X12_odds_201 ?_
  obtain ⟨rfl, rfl⟩ := o_pair h
  exact z_lret C hlk hr d_X12_odds_204
set_option maxRecDepth 4000 in
theorem kb_X12_odds_93 {p : Program} {l : Launch} {e : Env} {s : State} {m : MethodId} {args : Array Value} {below : List Frame} {meth : Method} {c : Code} {G : GG} {k93 : Mm → Int64 → Int32 → Option (Int64 × Mm)} {x1 : Int32} {x2 : Int32} {x3 : Int32} {x4 : Int32} {x5 : Int32} {j6 : Int64} {M : Mm} {j8 : Int64} {x10 : Int32} {r : Int64} {M2 : Mm} (C : CX p s m args c prog_14_method_75_code 14 "SnowSentriesModel" 1 G) (hlk : meth.locks = false) (hr : meth.sig.returnType = (some .long)) (hk93 : ∀ (M : Mm) (j8 : Int64) (x10 : Int32), k93 M j8 x10 = some (r, M2) → Z p l e { frames := 4, cells := 0, slots := 0, locals := 107 } s m args below meth c 1 G 14 (MQ below (QC 1 G (some (.long r)) M2) args s 0 0 (AU 1 G)) 93 [(0, .ref (gB G + 0)), (1, .int x1), (2, .int x2), (3, .int x3), (4, .int x4), (5, .int x5), (6, .long j6), (8, .long j8), (10, .int x10)] [] M) : b_X12_odds_93 k93 x1 x2 x3 x4 x5 j6 M j8 x10 = some (r, M2) → Z p l e { frames := 4, cells := 0, slots := 0, locals := 107 } s m args below meth c 1 G 14 (MQ below (QC 1 G (some (.long r)) M2) args s 0 0 (AU 1 G)) 93 [(0, .ref (gB G + 0)), (1, .int x1), (2, .int x2), (3, .int x3), (4, .int x4), (5, .int x5), (6, .long j6), (8, .long j8), (10, .int x10)] [] M := by
  intro h
  unfold b_X12_odds_93 at h
  refine z_iload 8 C d_X12_odds_93 rfl ?_
  refine z_iconst (v := (1 : Int32)) C d_X12_odds_95 (by decide) ?_
  refine z_iload 5 C d_X12_odds_96 rfl ?_
  refine z_ishl C d_X12_odds_98 ?_
  refine z_icmp_ge C d_X12_odds_99 (fun q1 => ?_) (fun q1 => ?_)
  · have h := o_t q1 h
    exact z_sub [4, 6, 7] rfl (k_X12_odds_195 C hlk hr h)
  · have h := o_f q1 h
    refine z_lconst (v := (1 : Int64)) C d_X12_odds_102 (by decide) ?_
    refine z_lstore (L' := [(11, .long (1 : Int64)), (0, .ref (gB G + 0)), (1, .int x1), (2, .int x2), (3, .int x3), (4, .int x4), (5, .int x5), (6, .long j6), (8, .long j8), (10, .int x10)]) C d_X12_odds_103 (by decide) rfl ?_
    refine z_iconst (v := (0 : Int32)) C d_X12_odds_105 (by decide) ?_
    refine z_istore (L' := [(13, .int (0 : Int32)), (11, .long (1 : Int64)), (0, .ref (gB G + 0)), (1, .int x1), (2, .int x2), (3, .int x3), (4, .int x4), (5, .int x5), (6, .long j6), (8, .long j8), (10, .int x10)]) C d_X12_odds_106 (by decide) rfl ?_
    exact z_sub [2, 3, 4, 5, 6, 7, 8, 9, 10, 1, 0] rfl (k_X12_odds_108 C hlk hr hk93 _ _ _ h)
theorem k_X12_odds_93 {p : Program} {l : Launch} {e : Env} {s : State} {m : MethodId} {args : Array Value} {below : List Frame} {meth : Method} {c : Code} {G : GG} {x1 : Int32} {x2 : Int32} {x3 : Int32} {x4 : Int32} {x5 : Int32} {j6 : Int64} {r : Int64} {M2 : Mm} (C : CX p s m args c prog_14_method_75_code 14 "SnowSentriesModel" 1 G) (hlk : meth.locks = false) (hr : meth.sig.returnType = (some .long)) : ∀ (n : Nat) (M : Mm) (j8 : Int64) (x10 : Int32), f_X12_odds_93 x1 x2 x3 x4 x5 j6 n M j8 x10 = some (r, M2) → Z p l e { frames := 4, cells := 0, slots := 0, locals := 107 } s m args below meth c 1 G 14 (MQ below (QC 1 G (some (.long r)) M2) args s 0 0 (AU 1 G)) 93 [(0, .ref (gB G + 0)), (1, .int x1), (2, .int x2), (3, .int x3), (4, .int x4), (5, .int x5), (6, .long j6), (8, .long j8), (10, .int x10)] [] M := by
  intro n
  induction n with
  | zero =>
    intro M j8 x10  h
    exact absurd h (fun z => by cases z)
  | succ n ih =>
    intro M j8 x10  h
    exact kb_X12_odds_93 C hlk hr  (fun M j8 x10 h => ih M j8 x10 h) h
set_option maxRecDepth 4000 in
theorem k_X12_odds_87 {p : Program} {l : Launch} {e : Env} {s : State} {m : MethodId} {args : Array Value} {below : List Frame} {meth : Method} {c : Code} {G : GG} {M : Mm} {x1 : Int32} {x2 : Int32} {x3 : Int32} {x4 : Int32} {x5 : Int32} {j6 : Int64} {r : Int64} {M2 : Mm} (C : CX p s m args c prog_14_method_75_code 14 "SnowSentriesModel" 1 G) (hlk : meth.locks = false) (hr : meth.sig.returnType = (some .long)) : f_X12_odds_87 M x1 x2 x3 x4 x5 j6 = some (r, M2) → Z p l e { frames := 4, cells := 0, slots := 0, locals := 107 } s m args below meth c 1 G 14 (MQ below (QC 1 G (some (.long r)) M2) args s 0 0 (AU 1 G)) 87 [(0, .ref (gB G + 0)), (1, .int x1), (2, .int x2), (3, .int x3), (4, .int x4), (5, .int x5), (6, .long j6)] [] M := by
  intro h
  unfold f_X12_odds_87 at h
  refine z_lconst (v := (0 : Int64)) C d_X12_odds_87 (by decide) ?_
  refine z_lstore (L' := [(8, .long (0 : Int64)), (0, .ref (gB G + 0)), (1, .int x1), (2, .int x2), (3, .int x3), (4, .int x4), (5, .int x5), (6, .long j6)]) C d_X12_odds_88 (by decide) rfl ?_
  refine z_iconst (v := (0 : Int32)) C d_X12_odds_90 (by decide) ?_
  refine z_istore (L' := [(10, .int (0 : Int32)), (8, .long (0 : Int64)), (0, .ref (gB G + 0)), (1, .int x1), (2, .int x2), (3, .int x3), (4, .int x4), (5, .int x5), (6, .long j6)]) C d_X12_odds_91 (by decide) rfl ?_
  exact z_sub [2, 3, 4, 5, 6, 7, 8, 1, 0] rfl (k_X12_odds_93 C hlk hr _ _ _ _ h)
set_option maxRecDepth 4000 in
theorem kb_X12_odds_66 {p : Program} {l : Launch} {e : Env} {s : State} {m : MethodId} {args : Array Value} {below : List Frame} {meth : Method} {c : Code} {G : GG} {k66 : Int64 → Int32 → Option (Int64 × Mm)} {M : Mm} {x1 : Int32} {x2 : Int32} {x3 : Int32} {x4 : Int32} {x5 : Int32} {j6 : Int64} {x8 : Int32} {r : Int64} {M2 : Mm} (C : CX p s m args c prog_14_method_75_code 14 "SnowSentriesModel" 1 G) (hlk : meth.locks = false) (hr : meth.sig.returnType = (some .long)) (hk66 : ∀ (j6 : Int64) (x8 : Int32), k66 j6 x8 = some (r, M2) → Z p l e { frames := 4, cells := 0, slots := 0, locals := 107 } s m args below meth c 1 G 14 (MQ below (QC 1 G (some (.long r)) M2) args s 0 0 (AU 1 G)) 66 [(0, .ref (gB G + 0)), (1, .int x1), (2, .int x2), (3, .int x3), (4, .int x4), (5, .int x5), (6, .long j6), (8, .int x8)] [] M) : b_X12_odds_66 k66 M x1 x2 x3 x4 x5 j6 x8 = some (r, M2) → Z p l e { frames := 4, cells := 0, slots := 0, locals := 107 } s m args below meth c 1 G 14 (MQ below (QC 1 G (some (.long r)) M2) args s 0 0 (AU 1 G)) 66 [(0, .ref (gB G + 0)), (1, .int x1), (2, .int x2), (3, .int x3), (4, .int x4), (5, .int x5), (6, .long j6), (8, .int x8)] [] M := by
  intro h
  unfold b_X12_odds_66 at h
  refine z_iload 7 C d_X12_odds_66 rfl ?_
  refine z_iload 5 C d_X12_odds_68 rfl ?_
  refine z_icmp_ge C d_X12_odds_70 (fun q1 => ?_) (fun q1 => ?_)
  · have h := o_t q1 h
    exact z_sub [0, 1, 2, 3, 4, 5, 6] rfl (k_X12_odds_87 C hlk hr h)
  · have h := o_f q1 h
    refine z_lload 6 C d_X12_odds_73 rfl ?_
    refine z_ldc2 (v := (10 : Int64)) C wk_X12_225 d_X12_odds_75 ?_
    refine z_lmul C d_X12_odds_78 ?_
    obtain ⟨v2, e3, h⟩ := o_nm h
    refine z_nJ e3 ?_
    refine z_lstore (L' := [(6, .long v2), (0, .ref (gB G + 0)), (1, .int x1), (2, .int x2), (3, .int x3), (4, .int x4), (5, .int x5), (8, .int x8)]) C d_X12_odds_79 (by decide) rfl ?_
    refine z_iinc (v := (1 : Int32)) (L' := [(8, .int (x8 + (1 : Int32))), (6, .long v2), (0, .ref (gB G + 0)), (1, .int x1), (2, .int x2), (3, .int x3), (4, .int x4), (5, .int x5)]) 7 C d_X12_odds_81 rfl (by decide) (by decide) rfl ?_
    refine z_goto C d_X12_odds_84 ?_
    exact z_sub [2, 3, 4, 5, 6, 7, 1, 0] rfl (hk66 _ _  h)
theorem k_X12_odds_66 {p : Program} {l : Launch} {e : Env} {s : State} {m : MethodId} {args : Array Value} {below : List Frame} {meth : Method} {c : Code} {G : GG} {M : Mm} {x1 : Int32} {x2 : Int32} {x3 : Int32} {x4 : Int32} {x5 : Int32} {r : Int64} {M2 : Mm} (C : CX p s m args c prog_14_method_75_code 14 "SnowSentriesModel" 1 G) (hlk : meth.locks = false) (hr : meth.sig.returnType = (some .long)) : ∀ (n : Nat) (j6 : Int64) (x8 : Int32), f_X12_odds_66 M x1 x2 x3 x4 x5 n j6 x8 = some (r, M2) → Z p l e { frames := 4, cells := 0, slots := 0, locals := 107 } s m args below meth c 1 G 14 (MQ below (QC 1 G (some (.long r)) M2) args s 0 0 (AU 1 G)) 66 [(0, .ref (gB G + 0)), (1, .int x1), (2, .int x2), (3, .int x3), (4, .int x4), (5, .int x5), (6, .long j6), (8, .int x8)] [] M := by
  intro n
  induction n with
  | zero =>
    intro j6 x8  h
    exact absurd h (fun z => by cases z)
  | succ n ih =>
    intro j6 x8  h
    exact kb_X12_odds_66 C hlk hr  (fun j6 x8 h => ih j6 x8 h) h
set_option maxRecDepth 4000 in
theorem k_X12_odds_0 {p : Program} {l : Launch} {e : Env} {s : State} {m : MethodId} {args : Array Value} {below : List Frame} {meth : Method} {c : Code} {G : GG} {M : Mm} {x1 : Int32} {x2 : Int32} {x3 : Int32} {x4 : Int32} {r : Int64} {M2 : Mm} (C : CX p s m args c prog_14_method_75_code 14 "SnowSentriesModel" 1 G) (hlk : meth.locks = false) (hr : meth.sig.returnType = (some .long)) : f_X12_odds M x1 x2 x3 x4 = some (r, M2) → Z p l e { frames := 4, cells := 0, slots := 0, locals := 107 } s m args below meth c 1 G 14 (MQ below (QC 1 G (some (.long r)) M2) args s 0 0 (AU 1 G)) 0 [(0, .ref (gB G + 0)), (1, .int x1), (2, .int x2), (3, .int x3), (4, .int x4)] [] M := by
  intro h
  unfold f_X12_odds at h
  refine z_iload_n 1 C d_X12_odds_0 rfl rfl ?_
  obtain ⟨p2, e1, h⟩ := o_bd h
  refine z_S (S := []) (As := [.int x1]) C (c_X12_isSide l G (M := M) e1) wc_X12_isSide wm_X12_210 ws_X12_isSide wi_X12 hy_X12_isSide ⟨Nat.le_of_ble_eq_true rfl, Nat.le_of_ble_eq_true rfl⟩ rfl rfl (Nat.le_of_ble_eq_true rfl) d_X12_odds_1 ?_
  refine z_if_eq C d_X12_odds_4 (fun q3 => ?_) (fun q3 => ?_)
  · have h := o_t q3 h
    exact z_sub [] rfl (k_X12_odds_34 C hlk hr h)
  · have h := o_f q3 h
    refine z_aload_n 0 C d_X12_odds_7 rfl rfl ?_
    refine z_iload_n 2 C d_X12_odds_8 rfl rfl ?_
    obtain ⟨p5, e4, h⟩ := o_bd h
    refine z_V (S := []) (As := [.int x2]) C (c_X12_isFurlong l G e4) (eY_0 _ _) (by decide) rfl wc_X12_isFurlong wm_X12_201 ws_X12_isFurlong wl_X12_isFurlong wi_X12 hy_X12_isFurlong ⟨Nat.le_of_ble_eq_true rfl, Nat.le_of_ble_eq_true rfl⟩ rfl rfl (Nat.le_of_ble_eq_true rfl) d_X12_odds_9 ?_
    refine z_if_eq C d_X12_odds_12 (fun q6 => ?_) (fun q6 => ?_)
    · have h := o_t q6 h
      exact z_sub [] rfl (k_X12_odds_34 C hlk hr h)
    · have h := o_f q6 h
      refine z_aload_n 0 C d_X12_odds_15 rfl rfl ?_
      refine z_iload_n 3 C d_X12_odds_16 rfl rfl ?_
      obtain ⟨p8, e7, h⟩ := o_bd h
      refine z_V (S := []) (As := [.int x3]) C (c_X12_isAhead l G e7) (eY_0 _ _) (by decide) rfl wc_X12_isAhead wm_X12_251 ws_X12_isAhead wl_X12_isAhead wi_X12 hy_X12_isAhead ⟨Nat.le_of_ble_eq_true rfl, Nat.le_of_ble_eq_true rfl⟩ rfl rfl (Nat.le_of_ble_eq_true rfl) d_X12_odds_17 ?_
      refine z_if_eq C d_X12_odds_20 (fun q9 => ?_) (fun q9 => ?_)
      · have h := o_t q9 h
        exact z_sub [] rfl (k_X12_odds_34 C hlk hr h)
      · have h := o_f q9 h
        refine z_iload 4 C d_X12_odds_23 rfl ?_
        refine z_i2l C d_X12_odds_25 ?_
        refine z_lconst (v := (0 : Int64)) C d_X12_odds_26 (by decide) ?_
        refine z_lconst (v := (1 : Int64)) C d_X12_odds_27 (by decide) ?_
        obtain ⟨p11, e10, h⟩ := o_bd h
        refine z_S (S := []) (As := [.long x4.toInt64, .long (0 : Int64), .long (1 : Int64)]) C (c_X12_in l G (M := M) e10) wc_X12_in wm_X12_75 ws_X12_in wi_X12 hy_X12_in ⟨Nat.le_of_ble_eq_true rfl, Nat.le_of_ble_eq_true rfl⟩ rfl rfl (Nat.le_of_ble_eq_true rfl) d_X12_odds_28 ?_
        refine z_if_ne C d_X12_odds_31 (fun q12 => ?_) (fun q12 => ?_)
        · have h := o_f q12 h
          refine z_aload_n 0 C d_X12_odds_38 rfl rfl ?_
          refine z_iconst (v := (0 : Int32)) C d_X12_odds_39 (by decide) ?_
          refine z_iload_n 1 C d_X12_odds_40 rfl rfl ?_
          refine z_iload_n 2 C d_X12_odds_41 rfl rfl ?_
          obtain ⟨p14, e13, h⟩ := o_bd h
          refine z_V (S := []) (As := [.int (0 : Int32), .int x1, .int x2]) C (c_X12_isThere l G e13) (eY_0 _ _) (by decide) rfl wc_X12_isThere wm_X12_215 ws_X12_isThere wl_X12_isThere wi_X12 hy_X12_isThere ⟨Nat.le_of_ble_eq_true rfl, Nat.le_of_ble_eq_true rfl⟩ rfl rfl (Nat.le_of_ble_eq_true rfl) d_X12_odds_42 ?_
          refine z_if_ne C d_X12_odds_45 (fun q15 => ?_) (fun q15 => ?_)
          · have h := o_f q15 h
            refine z_iload_n 3 C d_X12_odds_52 rfl rfl ?_
            refine z_aload_n 0 C d_X12_odds_53 rfl rfl ?_
            obtain ⟨p17, e16, h⟩ := o_bd h
            refine z_V (S := [.int x3]) (As := []) C (c_X12_hourNow l G e16) (eY_0 _ _) (by decide) rfl wc_X12_hourNow wm_X12_185 ws_X12_hourNow wl_X12_hourNow wi_X12 hy_X12_hourNow ⟨Nat.le_of_ble_eq_true rfl, Nat.le_of_ble_eq_true rfl⟩ rfl rfl (Nat.le_of_ble_eq_true rfl) d_X12_odds_54 ?_
            refine z_isub C d_X12_odds_57 ?_
            obtain ⟨v18, e19, h⟩ := o_nm h
            refine z_nI e19 ?_
            refine z_istore (L' := [(5, .int v18), (0, .ref (gB G + 0)), (1, .int x1), (2, .int x2), (3, .int x3), (4, .int x4)]) C d_X12_odds_58 (by decide) rfl ?_
            refine z_lconst (v := (1 : Int64)) C d_X12_odds_60 (by decide) ?_
            refine z_lstore (L' := [(6, .long (1 : Int64)), (5, .int v18), (0, .ref (gB G + 0)), (1, .int x1), (2, .int x2), (3, .int x3), (4, .int x4)]) C d_X12_odds_61 (by decide) rfl ?_
            refine z_iconst (v := (0 : Int32)) C d_X12_odds_63 (by decide) ?_
            refine z_istore (L' := [(8, .int (0 : Int32)), (6, .long (1 : Int64)), (5, .int v18), (0, .ref (gB G + 0)), (1, .int x1), (2, .int x2), (3, .int x3), (4, .int x4)]) C d_X12_odds_64 (by decide) rfl ?_
            exact z_sub [3, 4, 5, 6, 7, 2, 1, 0] rfl (k_X12_odds_66 C hlk hr _ _ _ h)
          · have h := o_t q15 h
            refine z_ldc2 (v := (-4 : Int64)) C wk_X12_280 d_X12_odds_48 ?_
            obtain ⟨rfl, rfl⟩ := o_pair h
            exact z_lret C hlk hr d_X12_odds_51
        · have h := o_t q12 h
          exact z_sub [] rfl (k_X12_odds_34 C hlk hr h)
theorem c_X12_odds (l : Launch) (G : GG) {M : Mm} {x1 : Int32} {x2 : Int32} {x3 : Int32} {x4 : Int32} {r : Int64} {M2 : Mm} (h : f_X12_odds M x1 x2 x3 x4 = some (r, M2)) : CT l 1 G y_X12_odds prog_14_method_75_code 14 (some .long) 4 107 [.ref (gB G + 0), .int x1, .int x2, .int x3, .int x4] M (some (.long r)) M2 :=
  CT.of (by decide +kernel) (Nat.le_of_ble_eq_true rfl) rfl (fun p e s m args below meth c C hlk hr => k_X12_odds_0 C hlk hr h)
-- SnowSentriesModel.strengthOf(I)I
set_option maxRecDepth 4000 in
theorem k_X12_strengthOf_28 {p : Program} {l : Launch} {e : Env} {s : State} {m : MethodId} {args : Array Value} {below : List Frame} {meth : Method} {c : Code} {G : GG} {k4 : Int32 → Int32 → Option Int32} {M : Mm} {x1 : Int32} {x3 : Int32} {s_0 : Int32} {s_1 : Int32} {r : Int32} (C : CX p s m args c prog_14_method_76_code 4 "SnowSentriesModel" 1 G) (hlk : meth.locks = false) (hr : meth.sig.returnType = (some .int)) (hk4 : ∀ (x2 : Int32) (x3 : Int32), k4 x2 x3 = some r → Z p l e { frames := 2, cells := 0, slots := 0, locals := 45 } s m args below meth c 1 G 4 (MQ below (QC 1 G (some (.int r)) M) args s 0 0 (AU 1 G)) 4 [(0, .ref (gB G + 0)), (1, .int x1), (2, .int x2), (3, .int x3)] [] M) : f_X12_strengthOf_28 k4 M x1 x3 s_0 s_1 = some r → Z p l e { frames := 2, cells := 0, slots := 0, locals := 45 } s m args below meth c 1 G 4 (MQ below (QC 1 G (some (.int r)) M) args s 0 0 (AU 1 G)) 28 [(0, .ref (gB G + 0)), (1, .int x1), (3, .int x3)] [.int s_1, .int s_0] M := by
  intro h
  unfold f_X12_strengthOf_28 at h
  refine z_iadd C d_X12_strengthOf_28 ?_
  obtain ⟨v1, e2, h⟩ := o_nm h
  refine z_nI e2 ?_
  refine z_istore_n (L' := [(2, .int v1), (0, .ref (gB G + 0)), (1, .int x1), (3, .int x3)]) C d_X12_strengthOf_29 rfl (by decide) rfl ?_
  refine z_iinc (v := (1 : Int32)) (L' := [(3, .int (x3 + (1 : Int32))), (2, .int v1), (0, .ref (gB G + 0)), (1, .int x1)]) 3 C d_X12_strengthOf_30 rfl (by decide) (by decide) rfl ?_
  refine z_goto C d_X12_strengthOf_33 ?_
  exact z_sub [2, 3, 1, 0] rfl (hk4 _ _  h)
set_option maxRecDepth 4000 in
theorem kb_X12_strengthOf_4 {p : Program} {l : Launch} {e : Env} {s : State} {m : MethodId} {args : Array Value} {below : List Frame} {meth : Method} {c : Code} {G : GG} {k4 : Int32 → Int32 → Option Int32} {M : Mm} {x1 : Int32} {x2 : Int32} {x3 : Int32} {r : Int32} (C : CX p s m args c prog_14_method_76_code 4 "SnowSentriesModel" 1 G) (hlk : meth.locks = false) (hr : meth.sig.returnType = (some .int)) (hk4 : ∀ (x2 : Int32) (x3 : Int32), k4 x2 x3 = some r → Z p l e { frames := 2, cells := 0, slots := 0, locals := 45 } s m args below meth c 1 G 4 (MQ below (QC 1 G (some (.int r)) M) args s 0 0 (AU 1 G)) 4 [(0, .ref (gB G + 0)), (1, .int x1), (2, .int x2), (3, .int x3)] [] M) : b_X12_strengthOf_4 k4 M x1 x2 x3 = some r → Z p l e { frames := 2, cells := 0, slots := 0, locals := 45 } s m args below meth c 1 G 4 (MQ below (QC 1 G (some (.int r)) M) args s 0 0 (AU 1 G)) 4 [(0, .ref (gB G + 0)), (1, .int x1), (2, .int x2), (3, .int x3)] [] M := by
  intro h
  unfold b_X12_strengthOf_4 at h
  refine z_iload_n 3 C d_X12_strengthOf_4 rfl rfl ?_
  refine z_aload_n 0 C d_X12_strengthOf_5 rfl rfl ?_
  refine z_get (k := 1) (v := .int (M.1 0 1)) C (eY_0 _ _) (by decide) rfl inX12 (by decide) wf_X12_13 rfl d_X12_strengthOf_6 ?_
  refine z_icmp_ge C d_X12_strengthOf_9 (fun q1 => ?_) (fun q1 => ?_)
  · have h := o_t q1 h
    refine z_iload_n 2 C d_X12_strengthOf_36 rfl rfl ?_
    obtain rfl := o_some h
    exact z_iret C hlk hr d_X12_strengthOf_37
  · have h := o_f q1 h
    refine z_iload_n 2 C d_X12_strengthOf_12 rfl rfl ?_
    refine z_aload_n 0 C d_X12_strengthOf_13 rfl rfl ?_
    refine z_iconst (v := (0 : Int32)) C d_X12_strengthOf_14 (by decide) ?_
    refine z_iload_n 1 C d_X12_strengthOf_15 rfl rfl ?_
    refine z_iload_n 3 C d_X12_strengthOf_16 rfl rfl ?_
    obtain ⟨p3, e2, h⟩ := o_bd h
    refine z_V (S := [.int x2]) (As := [.int (0 : Int32), .int x1, .int x3]) C (c_X12_counts l G e2) (eY_0 _ _) (by decide) rfl wc_X12_counts wm_X12_206 ws_X12_counts wl_X12_counts wi_X12 hy_X12_counts ⟨Nat.le_of_ble_eq_true rfl, Nat.le_of_ble_eq_true rfl⟩ rfl rfl (Nat.le_of_ble_eq_true rfl) d_X12_strengthOf_17 ?_
    refine z_if_eq C d_X12_strengthOf_20 (fun q4 => ?_) (fun q4 => ?_)
    · have h := o_t q4 h
      refine z_iconst (v := (0 : Int32)) C d_X12_strengthOf_27 (by decide) ?_
      exact z_sub [0, 1, 3] rfl (k_X12_strengthOf_28 C hlk hr hk4 h)
    · have h := o_f q4 h
      refine z_iconst (v := (1 : Int32)) C d_X12_strengthOf_23 (by decide) ?_
      refine z_goto C d_X12_strengthOf_24 ?_
      exact z_sub [0, 1, 3] rfl (k_X12_strengthOf_28 C hlk hr hk4 h)
theorem k_X12_strengthOf_4 {p : Program} {l : Launch} {e : Env} {s : State} {m : MethodId} {args : Array Value} {below : List Frame} {meth : Method} {c : Code} {G : GG} {M : Mm} {x1 : Int32} {r : Int32} (C : CX p s m args c prog_14_method_76_code 4 "SnowSentriesModel" 1 G) (hlk : meth.locks = false) (hr : meth.sig.returnType = (some .int)) : ∀ (n : Nat) (x2 : Int32) (x3 : Int32), f_X12_strengthOf_4 M x1 n x2 x3 = some r → Z p l e { frames := 2, cells := 0, slots := 0, locals := 45 } s m args below meth c 1 G 4 (MQ below (QC 1 G (some (.int r)) M) args s 0 0 (AU 1 G)) 4 [(0, .ref (gB G + 0)), (1, .int x1), (2, .int x2), (3, .int x3)] [] M := by
  intro n
  induction n with
  | zero =>
    intro x2 x3  h
    exact absurd h (fun z => by cases z)
  | succ n ih =>
    intro x2 x3  h
    exact kb_X12_strengthOf_4 C hlk hr  (fun x2 x3 h => ih x2 x3 h) h
set_option maxRecDepth 4000 in
theorem k_X12_strengthOf_0 {p : Program} {l : Launch} {e : Env} {s : State} {m : MethodId} {args : Array Value} {below : List Frame} {meth : Method} {c : Code} {G : GG} {M : Mm} {x1 : Int32} {r : Int32} (C : CX p s m args c prog_14_method_76_code 4 "SnowSentriesModel" 1 G) (hlk : meth.locks = false) (hr : meth.sig.returnType = (some .int)) : f_X12_strengthOf M x1 = some r → Z p l e { frames := 2, cells := 0, slots := 0, locals := 45 } s m args below meth c 1 G 4 (MQ below (QC 1 G (some (.int r)) M) args s 0 0 (AU 1 G)) 0 [(0, .ref (gB G + 0)), (1, .int x1)] [] M := by
  intro h
  unfold f_X12_strengthOf at h
  refine z_iconst (v := (0 : Int32)) C d_X12_strengthOf_0 (by decide) ?_
  refine z_istore_n (L' := [(2, .int (0 : Int32)), (0, .ref (gB G + 0)), (1, .int x1)]) C d_X12_strengthOf_1 rfl (by decide) rfl ?_
  refine z_iconst (v := (0 : Int32)) C d_X12_strengthOf_2 (by decide) ?_
  refine z_istore_n (L' := [(3, .int (0 : Int32)), (2, .int (0 : Int32)), (0, .ref (gB G + 0)), (1, .int x1)]) C d_X12_strengthOf_3 rfl (by decide) rfl ?_
  exact z_sub [2, 3, 1, 0] rfl (k_X12_strengthOf_4 C hlk hr _ _ _ h)
theorem c_X12_strengthOf (l : Launch) (G : GG) {M : Mm} {x1 : Int32} {r : Int32} (h : f_X12_strengthOf M x1 = some r) : CT l 1 G y_X12_strengthOf prog_14_method_76_code 4 (some .int) 2 45 [.ref (gB G + 0), .int x1] M (some (.int r)) M :=
  CT.of (by decide +kernel) (Nat.le_of_ble_eq_true rfl) rfl (fun p e s m args below meth c C hlk hr => k_X12_strengthOf_0 C hlk hr h)
-- SnowSentriesModel.talks(I)I
set_option maxRecDepth 4000 in
theorem k_X12_talks_69 {p : Program} {l : Launch} {e : Env} {s : State} {m : MethodId} {args : Array Value} {below : List Frame} {meth : Method} {c : Code} {G : GG} {k28 : Mm → Int32 → Int32 → Int32 → Option (Int32 × Mm)} {M : Mm} {x1 : Int32} {x2 : Int32} {x5 : Int32} {s_0 : Int32} {r : Int32} {M2 : Mm} (C : CX p s m args c prog_14_method_77_code 6 "SnowSentriesModel" 1 G) (hlk : meth.locks = false) (hr : meth.sig.returnType = (some .int)) (hk28 : ∀ (M : Mm) (x3 : Int32) (x4 : Int32) (x5 : Int32), k28 M x3 x4 x5 = some (r, M2) → Z p l e { frames := 3, cells := 0, slots := 0, locals := 68 } s m args below meth c 1 G 6 (MQ below (QC 1 G (some (.int r)) M2) args s 0 0 (AU 1 G)) 28 [(0, .ref (gB G + 0)), (1, .int x1), (2, .int x2), (3, .int x3), (4, .int x4), (5, .int x5)] [] M) : f_X12_talks_69 k28 M x1 x2 x5 s_0 = some (r, M2) → Z p l e { frames := 3, cells := 0, slots := 0, locals := 68 } s m args below meth c 1 G 6 (MQ below (QC 1 G (some (.int r)) M2) args s 0 0 (AU 1 G)) 69 [(0, .ref (gB G + 0)), (1, .int x1), (2, .int x2), (5, .int x5)] [.int s_0] M := by
  intro h
  unfold f_X12_talks_69 at h
  refine z_istore_n (L' := [(3, .int s_0), (0, .ref (gB G + 0)), (1, .int x1), (2, .int x2), (5, .int x5)]) C d_X12_talks_69 rfl (by decide) rfl ?_
  refine z_aload_n 1 C d_X12_talks_70 rfl rfl ?_
  refine z_iconst (v := (0 : Int32)) C d_X12_talks_71 (by decide) ?_
  obtain ⟨p2, e1, h⟩ := o_bd h
  refine z_V (S := []) (As := [.int (0 : Int32)]) C (c_X12_strengthOf l G e1) (eY_0 _ _) (by decide) rfl wc_X12_strengthOf wm_X12_286 ws_X12_strengthOf wl_X12_strengthOf wi_X12 hy_X12_strengthOf ⟨Nat.le_of_ble_eq_true rfl, Nat.le_of_ble_eq_true rfl⟩ rfl rfl (Nat.le_of_ble_eq_true rfl) d_X12_talks_72 ?_
  refine z_istore (L' := [(4, .int p2), (3, .int s_0), (0, .ref (gB G + 0)), (1, .int x1), (2, .int x2), (5, .int x5)]) C d_X12_talks_75 (by decide) rfl ?_
  refine z_iinc (v := (1 : Int32)) (L' := [(5, .int (x5 + (1 : Int32))), (4, .int p2), (3, .int s_0), (0, .ref (gB G + 0)), (1, .int x1), (2, .int x2)]) 5 C d_X12_talks_77 rfl (by decide) (by decide) rfl ?_
  refine z_goto C d_X12_talks_80 ?_
  exact z_sub [3, 4, 5, 2, 1, 0] rfl (hk28 _ _ _ _  h)
set_option maxRecDepth 4000 in
theorem k_X12_talks_106 {p : Program} {l : Launch} {e : Env} {s : State} {m : MethodId} {args : Array Value} {below : List Frame} {meth : Method} {c : Code} {G : GG} {M : Mm} {s_0 : Int32} {r : Int32} {M2 : Mm} (C : CX p s m args c prog_14_method_77_code 6 "SnowSentriesModel" 1 G) (hlk : meth.locks = false) (hr : meth.sig.returnType = (some .int)) : f_X12_talks_106 M s_0 = some (r, M2) → Z p l e { frames := 3, cells := 0, slots := 0, locals := 68 } s m args below meth c 1 G 6 (MQ below (QC 1 G (some (.int r)) M2) args s 0 0 (AU 1 G)) 106 [] [.int s_0] M := by
  intro h
  unfold f_X12_talks_106 at h
  obtain ⟨rfl, rfl⟩ := o_pair h
  exact z_iret C hlk hr d_X12_talks_106
set_option maxRecDepth 4000 in
theorem k_X12_talks_100 {p : Program} {l : Launch} {e : Env} {s : State} {m : MethodId} {args : Array Value} {below : List Frame} {meth : Method} {c : Code} {G : GG} {M : Mm} {x3 : Int32} {r : Int32} {M2 : Mm} (C : CX p s m args c prog_14_method_77_code 6 "SnowSentriesModel" 1 G) (hlk : meth.locks = false) (hr : meth.sig.returnType = (some .int)) : f_X12_talks_100 M x3 = some (r, M2) → Z p l e { frames := 3, cells := 0, slots := 0, locals := 68 } s m args below meth c 1 G 6 (MQ below (QC 1 G (some (.int r)) M2) args s 0 0 (AU 1 G)) 100 [(3, .int x3)] [] M := by
  intro h
  unfold f_X12_talks_100 at h
  refine z_iload_n 0 C d_X12_talks_100 rfl rfl ?_
  refine z_goto C d_X12_talks_101 ?_
  exact z_sub [] rfl (k_X12_talks_106 C hlk hr h)
set_option maxRecDepth 4000 in
theorem k_X12_talks_83 {p : Program} {l : Launch} {e : Env} {s : State} {m : MethodId} {args : Array Value} {below : List Frame} {meth : Method} {c : Code} {G : GG} {M : Mm} {x1 : Int32} {x2 : Int32} {x3 : Int32} {x4 : Int32} {r : Int32} {M2 : Mm} (C : CX p s m args c prog_14_method_77_code 6 "SnowSentriesModel" 1 G) (hlk : meth.locks = false) (hr : meth.sig.returnType = (some .int)) : f_X12_talks_83 M x1 x2 x3 x4 = some (r, M2) → Z p l e { frames := 3, cells := 0, slots := 0, locals := 68 } s m args below meth c 1 G 6 (MQ below (QC 1 G (some (.int r)) M2) args s 0 0 (AU 1 G)) 83 [(0, .ref (gB G + 0)), (1, .int x1), (2, .int x2), (3, .int x3), (4, .int x4)] [] M := by
  intro h
  unfold f_X12_talks_83 at h
  refine z_aload_n 0 C d_X12_talks_83 rfl rfl ?_
  refine z_get (k := 3) (v := .ref (gB G + 3)) C (eY_0 _ _) (by decide) rfl inX12 (by decide) wf_X12_20 rfl d_X12_talks_84 ?_
  refine z_iconst (v := (0 : Int32)) C d_X12_talks_87 (by decide) ?_
  refine z_iload_n 2 C d_X12_talks_88 rfl rfl ?_
  obtain ⟨M1, e2, h⟩ := o_wr h
  refine z_ast (fun r q => eY_3 r q) C (by decide) (show inn (0 : Int32) 3 from by decide) d_X12_talks_89 ?_
  refine z_nM e2 ?_
  refine z_iload_n 3 C d_X12_talks_90 rfl rfl ?_
  refine z_bipush (v := (-4 : Int32)) C d_X12_talks_91 (by decide) ?_
  refine z_icmp_eq C d_X12_talks_93 (fun q3 => ?_) (fun q3 => ?_)
  · have h := o_t q3 h
    exact z_sub [3] rfl (k_X12_talks_100 C hlk hr h)
  · have h := o_f q3 h
    refine z_iload_n 1 C d_X12_talks_96 rfl rfl ?_
    refine z_if_ne C d_X12_talks_97 (fun q4 => ?_) (fun q4 => ?_)
    · have h := o_f q4 h
      refine z_iload 4 C d_X12_talks_104 rfl ?_
      exact z_sub [] rfl (k_X12_talks_106 C hlk hr h)
    · have h := o_t q4 h
      exact z_sub [3] rfl (k_X12_talks_100 C hlk hr h)
set_option maxRecDepth 4000 in
theorem kb_X12_talks_28 {p : Program} {l : Launch} {e : Env} {s : State} {m : MethodId} {args : Array Value} {below : List Frame} {meth : Method} {c : Code} {G : GG} {k28 : Mm → Int32 → Int32 → Int32 → Option (Int32 × Mm)} {x1 : Int32} {x2 : Int32} {M : Mm} {x3 : Int32} {x4 : Int32} {x5 : Int32} {r : Int32} {M2 : Mm} (C : CX p s m args c prog_14_method_77_code 6 "SnowSentriesModel" 1 G) (hlk : meth.locks = false) (hr : meth.sig.returnType = (some .int)) (hk28 : ∀ (M : Mm) (x3 : Int32) (x4 : Int32) (x5 : Int32), k28 M x3 x4 x5 = some (r, M2) → Z p l e { frames := 3, cells := 0, slots := 0, locals := 68 } s m args below meth c 1 G 6 (MQ below (QC 1 G (some (.int r)) M2) args s 0 0 (AU 1 G)) 28 [(0, .ref (gB G + 0)), (1, .int x1), (2, .int x2), (3, .int x3), (4, .int x4), (5, .int x5)] [] M) : b_X12_talks_28 k28 x1 x2 M x3 x4 x5 = some (r, M2) → Z p l e { frames := 3, cells := 0, slots := 0, locals := 68 } s m args below meth c 1 G 6 (MQ below (QC 1 G (some (.int r)) M2) args s 0 0 (AU 1 G)) 28 [(0, .ref (gB G + 0)), (1, .int x1), (2, .int x2), (3, .int x3), (4, .int x4), (5, .int x5)] [] M := by
  intro h
  unfold b_X12_talks_28 at h
  refine z_iload 5 C d_X12_talks_28 rfl ?_
  refine z_bipush (v := (99 : Int32)) C d_X12_talks_30 (by decide) ?_
  refine z_icmp_gt C d_X12_talks_32 (fun q1 => ?_) (fun q1 => ?_)
  · have h := o_t q1 h
    exact z_sub [0, 1, 2, 3, 4] rfl (k_X12_talks_83 C hlk hr h)
  · have h := o_f q1 h
    refine z_iload_n 3 C d_X12_talks_35 rfl rfl ?_
    refine z_bipush (v := (-4 : Int32)) C d_X12_talks_36 (by decide) ?_
    refine z_icmp_ne C d_X12_talks_38 (fun q2 => ?_) (fun q2 => ?_)
    · have h := o_f q2 h
      exact z_sub [0, 1, 2, 3, 4] rfl (k_X12_talks_83 C hlk hr h)
    · have h := o_t q2 h
      refine z_aload_n 0 C d_X12_talks_41 rfl rfl ?_
      refine z_get (k := 3) (v := .ref (gB G + 3)) C (eY_0 _ _) (by decide) rfl inX12 (by decide) wf_X12_20 rfl d_X12_talks_42 ?_
      refine z_iconst (v := (0 : Int32)) C d_X12_talks_45 (by decide) ?_
      refine z_iload 5 C d_X12_talks_46 rfl ?_
      obtain ⟨M3, e4, h⟩ := o_wr h
      refine z_ast (fun r q => eY_3 r q) C (by decide) (show inn (0 : Int32) 3 from by decide) d_X12_talks_48 ?_
      refine z_nM e4 ?_
      refine z_aload_n 0 C d_X12_talks_49 rfl rfl ?_
      refine z_iconst (v := (0 : Int32)) C d_X12_talks_50 (by decide) ?_
      obtain ⟨p6, e5, h⟩ := o_bd h
      refine z_V (S := []) (As := [.int (0 : Int32)]) C (c_X12_strengthOf l G e5) (eY_0 _ _) (by decide) rfl wc_X12_strengthOf wm_X12_286 ws_X12_strengthOf wl_X12_strengthOf wi_X12 hy_X12_strengthOf ⟨Nat.le_of_ble_eq_true rfl, Nat.le_of_ble_eq_true rfl⟩ rfl rfl (Nat.le_of_ble_eq_true rfl) d_X12_talks_51 ?_
      refine z_aload_n 0 C d_X12_talks_54 rfl rfl ?_
      refine z_iconst (v := (1 : Int32)) C d_X12_talks_55 (by decide) ?_
      obtain ⟨p8, e7, h⟩ := o_bd h
      refine z_V (S := [.int p6]) (As := [.int (1 : Int32)]) C (c_X12_strengthOf l G e7) (eY_0 _ _) (by decide) rfl wc_X12_strengthOf wm_X12_286 ws_X12_strengthOf wl_X12_strengthOf wi_X12 hy_X12_strengthOf ⟨Nat.le_of_ble_eq_true rfl, Nat.le_of_ble_eq_true rfl⟩ rfl rfl (Nat.le_of_ble_eq_true rfl) d_X12_talks_56 ?_
      refine z_icmp_ne C d_X12_talks_59 (fun q9 => ?_) (fun q9 => ?_)
      · have h := o_f q9 h
        refine z_bipush (v := (-4 : Int32)) C d_X12_talks_67 (by decide) ?_
        exact z_sub [0, 1, 2, 5] rfl (k_X12_talks_69 C hlk hr hk28 h)
      · have h := o_t q9 h
        refine z_iload 5 C d_X12_talks_62 rfl ?_
        refine z_goto C d_X12_talks_64 ?_
        exact z_sub [0, 1, 2, 5] rfl (k_X12_talks_69 C hlk hr hk28 h)
theorem k_X12_talks_28 {p : Program} {l : Launch} {e : Env} {s : State} {m : MethodId} {args : Array Value} {below : List Frame} {meth : Method} {c : Code} {G : GG} {x1 : Int32} {x2 : Int32} {r : Int32} {M2 : Mm} (C : CX p s m args c prog_14_method_77_code 6 "SnowSentriesModel" 1 G) (hlk : meth.locks = false) (hr : meth.sig.returnType = (some .int)) : ∀ (n : Nat) (M : Mm) (x3 : Int32) (x4 : Int32) (x5 : Int32), f_X12_talks_28 x1 x2 n M x3 x4 x5 = some (r, M2) → Z p l e { frames := 3, cells := 0, slots := 0, locals := 68 } s m args below meth c 1 G 6 (MQ below (QC 1 G (some (.int r)) M2) args s 0 0 (AU 1 G)) 28 [(0, .ref (gB G + 0)), (1, .int x1), (2, .int x2), (3, .int x3), (4, .int x4), (5, .int x5)] [] M := by
  intro n
  induction n with
  | zero =>
    intro M x3 x4 x5  h
    exact absurd h (fun z => by cases z)
  | succ n ih =>
    intro M x3 x4 x5  h
    exact kb_X12_talks_28 C hlk hr  (fun M x3 x4 x5 h => ih M x3 x4 x5 h) h
set_option maxRecDepth 4000 in
theorem k_X12_talks_0 {p : Program} {l : Launch} {e : Env} {s : State} {m : MethodId} {args : Array Value} {below : List Frame} {meth : Method} {c : Code} {G : GG} {M : Mm} {x1 : Int32} {r : Int32} {M2 : Mm} (C : CX p s m args c prog_14_method_77_code 6 "SnowSentriesModel" 1 G) (hlk : meth.locks = false) (hr : meth.sig.returnType = (some .int)) : f_X12_talks M x1 = some (r, M2) → Z p l e { frames := 3, cells := 0, slots := 0, locals := 68 } s m args below meth c 1 G 6 (MQ below (QC 1 G (some (.int r)) M2) args s 0 0 (AU 1 G)) 0 [(0, .ref (gB G + 0)), (1, .int x1)] [] M := by
  intro h
  unfold f_X12_talks at h
  refine z_iload_n 1 C d_X12_talks_0 rfl rfl ?_
  refine z_i2l C d_X12_talks_1 ?_
  refine z_lconst (v := (0 : Int64)) C d_X12_talks_2 (by decide) ?_
  refine z_lconst (v := (1 : Int64)) C d_X12_talks_3 (by decide) ?_
  obtain ⟨p2, e1, h⟩ := o_bd h
  refine z_S (S := []) (As := [.long x1.toInt64, .long (0 : Int64), .long (1 : Int64)]) C (c_X12_in l G (M := M) e1) wc_X12_in wm_X12_75 ws_X12_in wi_X12 hy_X12_in ⟨Nat.le_of_ble_eq_true rfl, Nat.le_of_ble_eq_true rfl⟩ rfl rfl (Nat.le_of_ble_eq_true rfl) d_X12_talks_4 ?_
  refine z_if_ne C d_X12_talks_7 (fun q3 => ?_) (fun q3 => ?_)
  · have h := o_f q3 h
    refine z_aload_n 0 C d_X12_talks_12 rfl rfl ?_
    refine z_get (k := 3) (v := .ref (gB G + 3)) C (eY_0 _ _) (by decide) rfl inX12 (by decide) wf_X12_20 rfl d_X12_talks_13 ?_
    refine z_iconst (v := (0 : Int32)) C d_X12_talks_16 (by decide) ?_
    refine z_ald (eY_3 _ _) C (by decide) (show inn (0 : Int32) 3 from by decide) d_X12_talks_17 ?_
    obtain ⟨v4, e5, h⟩ := o_nm h
    refine z_nI e5 ?_
    refine z_istore_n (L' := [(2, .int v4), (0, .ref (gB G + 0)), (1, .int x1)]) C d_X12_talks_18 rfl (by decide) rfl ?_
    refine z_bipush (v := (-4 : Int32)) C d_X12_talks_19 (by decide) ?_
    refine z_istore_n (L' := [(3, .int (-4 : Int32)), (2, .int v4), (0, .ref (gB G + 0)), (1, .int x1)]) C d_X12_talks_21 rfl (by decide) rfl ?_
    refine z_iconst (v := (0 : Int32)) C d_X12_talks_22 (by decide) ?_
    refine z_istore (L' := [(4, .int (0 : Int32)), (3, .int (-4 : Int32)), (2, .int v4), (0, .ref (gB G + 0)), (1, .int x1)]) C d_X12_talks_23 (by decide) rfl ?_
    refine z_iconst (v := (1 : Int32)) C d_X12_talks_25 (by decide) ?_
    refine z_istore (L' := [(5, .int (1 : Int32)), (4, .int (0 : Int32)), (3, .int (-4 : Int32)), (2, .int v4), (0, .ref (gB G + 0)), (1, .int x1)]) C d_X12_talks_26 (by decide) rfl ?_
    exact z_sub [4, 5, 3, 2, 1, 0] rfl (k_X12_talks_28 C hlk hr _ _ _ _ _ h)
  · have h := o_t q3 h
    refine z_iconst (v := (-1 : Int32)) C d_X12_talks_10 (by decide) ?_
    obtain ⟨rfl, rfl⟩ := o_pair h
    exact z_iret C hlk hr d_X12_talks_11
theorem c_X12_talks (l : Launch) (G : GG) {M : Mm} {x1 : Int32} {r : Int32} {M2 : Mm} (h : f_X12_talks M x1 = some (r, M2)) : CT l 1 G y_X12_talks prog_14_method_77_code 6 (some .int) 3 68 [.ref (gB G + 0), .int x1] M (some (.int r)) M2 :=
  CT.of (by decide +kernel) (Nat.le_of_ble_eq_true rfl) rfl (fun p e s m args below meth c C hlk hr => k_X12_talks_0 C hlk hr h)
-- SnowSentriesModel.strength(I)I
set_option maxRecDepth 4000 in
theorem k_X12_strength_16 {p : Program} {l : Launch} {e : Env} {s : State} {m : MethodId} {args : Array Value} {below : List Frame} {meth : Method} {c : Code} {G : GG} {M : Mm} {s_0 : Int32} {r : Int32} (C : CX p s m args c prog_14_method_78_code 2 "SnowSentriesModel" 1 G) (hlk : meth.locks = false) (hr : meth.sig.returnType = (some .int)) : f_X12_strength_16 M s_0 = some r → Z p l e { frames := 3, cells := 0, slots := 0, locals := 68 } s m args below meth c 1 G 2 (MQ below (QC 1 G (some (.int r)) M) args s 0 0 (AU 1 G)) 16 [] [.int s_0] M := by
  intro h
  unfold f_X12_strength_16 at h
  obtain rfl := o_some h
  exact z_iret C hlk hr d_X12_strength_16
set_option maxRecDepth 4000 in
theorem k_X12_strength_0 {p : Program} {l : Launch} {e : Env} {s : State} {m : MethodId} {args : Array Value} {below : List Frame} {meth : Method} {c : Code} {G : GG} {M : Mm} {x1 : Int32} {r : Int32} (C : CX p s m args c prog_14_method_78_code 2 "SnowSentriesModel" 1 G) (hlk : meth.locks = false) (hr : meth.sig.returnType = (some .int)) : f_X12_strength M x1 = some r → Z p l e { frames := 3, cells := 0, slots := 0, locals := 68 } s m args below meth c 1 G 2 (MQ below (QC 1 G (some (.int r)) M) args s 0 0 (AU 1 G)) 0 [(0, .ref (gB G + 0)), (1, .int x1)] [] M := by
  intro h
  unfold f_X12_strength at h
  refine z_iload_n 1 C d_X12_strength_0 rfl rfl ?_
  obtain ⟨p2, e1, h⟩ := o_bd h
  refine z_S (S := []) (As := [.int x1]) C (c_X12_isSide l G (M := M) e1) wc_X12_isSide wm_X12_210 ws_X12_isSide wi_X12 hy_X12_isSide ⟨Nat.le_of_ble_eq_true rfl, Nat.le_of_ble_eq_true rfl⟩ rfl rfl (Nat.le_of_ble_eq_true rfl) d_X12_strength_1 ?_
  refine z_if_eq C d_X12_strength_4 (fun q3 => ?_) (fun q3 => ?_)
  · have h := o_t q3 h
    refine z_iconst (v := (-1 : Int32)) C d_X12_strength_15 (by decide) ?_
    exact z_sub [] rfl (k_X12_strength_16 C hlk hr h)
  · have h := o_f q3 h
    refine z_aload_n 0 C d_X12_strength_7 rfl rfl ?_
    refine z_iload_n 1 C d_X12_strength_8 rfl rfl ?_
    obtain ⟨p5, e4, h⟩ := o_bd h
    refine z_V (S := []) (As := [.int x1]) C (c_X12_strengthOf l G e4) (eY_0 _ _) (by decide) rfl wc_X12_strengthOf wm_X12_286 ws_X12_strengthOf wl_X12_strengthOf wi_X12 hy_X12_strengthOf ⟨Nat.le_of_ble_eq_true rfl, Nat.le_of_ble_eq_true rfl⟩ rfl rfl (Nat.le_of_ble_eq_true rfl) d_X12_strength_9 ?_
    refine z_goto C d_X12_strength_12 ?_
    exact z_sub [] rfl (k_X12_strength_16 C hlk hr h)
theorem c_X12_strength (l : Launch) (G : GG) {M : Mm} {x1 : Int32} {r : Int32} (h : f_X12_strength M x1 = some r) : CT l 1 G y_X12_strength prog_14_method_78_code 2 (some .int) 3 68 [.ref (gB G + 0), .int x1] M (some (.int r)) M :=
  CT.of (by decide +kernel) (Nat.le_of_ble_eq_true rfl) rfl (fun p e s m args below meth c C hlk hr => k_X12_strength_0 C hlk hr h)
-- SnowSentriesModel.keep(I)I
set_option maxRecDepth 4000 in
theorem k_X12_keep_38 {p : Program} {l : Launch} {e : Env} {s : State} {m : MethodId} {args : Array Value} {below : List Frame} {meth : Method} {c : Code} {G : GG} {M : Mm} {x1 : Int32} {s_0 : Int32} {r : Int32} {M2 : Mm} (C : CX p s m args c prog_14_method_79_code 3 "SnowSentriesModel" 1 G) (hlk : meth.locks = false) (hr : meth.sig.returnType = (some .int)) : f_X12_keep_38 M x1 s_0 = some (r, M2) → Z p l e { frames := 1, cells := 0, slots := 0, locals := 25 } s m args below meth c 1 G 3 (MQ below (QC 1 G (some (.int r)) M2) args s 0 0 (AU 1 G)) 38 [(0, .ref (gB G + 0)), (1, .int x1)] [.int s_0] M := by
  intro h
  unfold f_X12_keep_38 at h
  refine z_istore_n (L' := [(2, .int s_0), (0, .ref (gB G + 0)), (1, .int x1)]) C d_X12_keep_38 rfl (by decide) rfl ?_
  refine z_aload_n 1 C d_X12_keep_39 rfl rfl ?_
  refine z_get (k := 31) (v := .ref (gB G + 15)) C (eY_0 _ _) (by decide) rfl inX12 (by decide) wf_X12_59 rfl d_X12_keep_40 ?_
  refine z_iload_n 2 C d_X12_keep_43 rfl rfl ?_
  refine z_iconst (v := (1 : Int32)) C d_X12_keep_44 (by decide) ?_
  obtain ⟨q3, h⟩ := o_ck h
  obtain ⟨M1, e2, h⟩ := o_wr h
  refine z_zst (fun r q => eY_15 r q) C (by decide) q3 d_X12_keep_45 ?_
  refine z_nM e2 ?_
  refine z_iload_n 0 C d_X12_keep_46 rfl rfl ?_
  obtain ⟨rfl, rfl⟩ := o_pair h
  exact z_iret C hlk hr d_X12_keep_47
set_option maxRecDepth 4000 in
theorem k_X12_keep_0 {p : Program} {l : Launch} {e : Env} {s : State} {m : MethodId} {args : Array Value} {below : List Frame} {meth : Method} {c : Code} {G : GG} {M : Mm} {x1 : Int32} {r : Int32} {M2 : Mm} (C : CX p s m args c prog_14_method_79_code 3 "SnowSentriesModel" 1 G) (hlk : meth.locks = false) (hr : meth.sig.returnType = (some .int)) : f_X12_keep M x1 = some (r, M2) → Z p l e { frames := 1, cells := 0, slots := 0, locals := 25 } s m args below meth c 1 G 3 (MQ below (QC 1 G (some (.int r)) M2) args s 0 0 (AU 1 G)) 0 [(0, .ref (gB G + 0)), (1, .int x1)] [] M := by
  intro h
  unfold f_X12_keep at h
  refine z_iload_n 1 C d_X12_keep_0 rfl rfl ?_
  refine z_i2l C d_X12_keep_1 ?_
  refine z_lconst (v := (0 : Int64)) C d_X12_keep_2 (by decide) ?_
  refine z_lconst (v := (1 : Int64)) C d_X12_keep_3 (by decide) ?_
  obtain ⟨p2, e1, h⟩ := o_bd h
  refine z_S (S := []) (As := [.long x1.toInt64, .long (0 : Int64), .long (1 : Int64)]) C (c_X12_in l G (M := M) e1) wc_X12_in wm_X12_75 ws_X12_in wi_X12 hy_X12_in ⟨Nat.le_of_ble_eq_true rfl, Nat.le_of_ble_eq_true rfl⟩ rfl rfl (Nat.le_of_ble_eq_true rfl) d_X12_keep_4 ?_
  refine z_if_ne C d_X12_keep_7 (fun q3 => ?_) (fun q3 => ?_)
  · have h := o_f q3 h
    refine z_aload_n 0 C d_X12_keep_12 rfl rfl ?_
    refine z_iconst (v := (0 : Int32)) C d_X12_keep_13 (by decide) ?_
    refine z_sipush (v := (210 : Int32)) C d_X12_keep_14 (by decide) ?_
    refine z_iload_n 1 C d_X12_keep_17 rfl rfl ?_
    refine z_iconst (v := (1 : Int32)) C d_X12_keep_18 (by decide) ?_
    refine z_iadd C d_X12_keep_19 ?_
    refine z_imul C d_X12_keep_20 ?_
    obtain ⟨p5, e4, h⟩ := o_bd h
    refine z_V (S := []) (As := [.int (0 : Int32), .int ((210 : Int32) * (x1 + (1 : Int32)))]) C (c_X12_copies l G e4) (eY_0 _ _) (by decide) rfl wc_X12_copies wm_X12_248 ws_X12_copies wl_X12_copies wi_X12 hy_X12_copies ⟨Nat.le_of_ble_eq_true rfl, Nat.le_of_ble_eq_true rfl⟩ rfl rfl (Nat.le_of_ble_eq_true rfl) d_X12_keep_21 ?_
    refine z_aload_n 0 C d_X12_keep_24 rfl rfl ?_
    refine z_get (k := 31) (v := .ref (gB G + 15)) C (eY_0 _ _) (by decide) rfl inX12 (by decide) wf_X12_59 rfl d_X12_keep_25 ?_
    refine z_iload_n 1 C d_X12_keep_28 rfl rfl ?_
    obtain ⟨q6, h⟩ := o_ck h
    refine z_zld (eY_15 _ _) C (by decide) q6 d_X12_keep_29 ?_
    refine z_if_eq C d_X12_keep_30 (fun q7 => ?_) (fun q7 => ?_)
    · have h := o_t q7 h
      refine z_iconst (v := (0 : Int32)) C d_X12_keep_37 (by decide) ?_
      exact z_sub [0, 1] rfl (k_X12_keep_38 C hlk hr h)
    · have h := o_f q7 h
      refine z_iconst (v := (1 : Int32)) C d_X12_keep_33 (by decide) ?_
      refine z_goto C d_X12_keep_34 ?_
      exact z_sub [0, 1] rfl (k_X12_keep_38 C hlk hr h)
  · have h := o_t q3 h
    refine z_iconst (v := (-1 : Int32)) C d_X12_keep_10 (by decide) ?_
    obtain ⟨rfl, rfl⟩ := o_pair h
    exact z_iret C hlk hr d_X12_keep_11
theorem c_X12_keep (l : Launch) (G : GG) {M : Mm} {x1 : Int32} {r : Int32} {M2 : Mm} (h : f_X12_keep M x1 = some (r, M2)) : CT l 1 G y_X12_keep prog_14_method_79_code 3 (some .int) 1 25 [.ref (gB G + 0), .int x1] M (some (.int r)) M2 :=
  CT.of (by decide +kernel) (Nat.le_of_ble_eq_true rfl) rfl (fun p e s m args below meth c C hlk hr => k_X12_keep_0 C hlk hr h)
-- SnowSentriesModel.back(I)I
set_option maxRecDepth 4000 in
theorem k_X12_back_0 {p : Program} {l : Launch} {e : Env} {s : State} {m : MethodId} {args : Array Value} {below : List Frame} {meth : Method} {c : Code} {G : GG} {M : Mm} {x1 : Int32} {r : Int32} {M2 : Mm} (C : CX p s m args c prog_14_method_80_code 2 "SnowSentriesModel" 1 G) (hlk : meth.locks = false) (hr : meth.sig.returnType = (some .int)) : f_X12_back M x1 = some (r, M2) → Z p l e { frames := 1, cells := 0, slots := 0, locals := 25 } s m args below meth c 1 G 2 (MQ below (QC 1 G (some (.int r)) M2) args s 0 0 (AU 1 G)) 0 [(0, .ref (gB G + 0)), (1, .int x1)] [] M := by
  intro h
  unfold f_X12_back at h
  refine z_iload_n 1 C d_X12_back_0 rfl rfl ?_
  refine z_i2l C d_X12_back_1 ?_
  refine z_lconst (v := (0 : Int64)) C d_X12_back_2 (by decide) ?_
  refine z_lconst (v := (1 : Int64)) C d_X12_back_3 (by decide) ?_
  obtain ⟨p2, e1, h⟩ := o_bd h
  refine z_S (S := []) (As := [.long x1.toInt64, .long (0 : Int64), .long (1 : Int64)]) C (c_X12_in l G (M := M) e1) wc_X12_in wm_X12_75 ws_X12_in wi_X12 hy_X12_in ⟨Nat.le_of_ble_eq_true rfl, Nat.le_of_ble_eq_true rfl⟩ rfl rfl (Nat.le_of_ble_eq_true rfl) d_X12_back_4 ?_
  refine z_if_ne C d_X12_back_7 (fun q3 => ?_) (fun q3 => ?_)
  · have h := o_f q3 h
    refine z_aload_n 0 C d_X12_back_12 rfl rfl ?_
    refine z_get (k := 31) (v := .ref (gB G + 15)) C (eY_0 _ _) (by decide) rfl inX12 (by decide) wf_X12_59 rfl d_X12_back_13 ?_
    refine z_iload_n 1 C d_X12_back_16 rfl rfl ?_
    obtain ⟨q4, h⟩ := o_ck h
    refine z_zld (eY_15 _ _) C (by decide) q4 d_X12_back_17 ?_
    refine z_if_ne C d_X12_back_18 (fun q5 => ?_) (fun q5 => ?_)
    · have h := o_f q5 h
      refine z_aload_n 0 C d_X12_back_24 rfl rfl ?_
      refine z_sipush (v := (210 : Int32)) C d_X12_back_25 (by decide) ?_
      refine z_iload_n 1 C d_X12_back_28 rfl rfl ?_
      refine z_iconst (v := (1 : Int32)) C d_X12_back_29 (by decide) ?_
      refine z_iadd C d_X12_back_30 ?_
      refine z_imul C d_X12_back_31 ?_
      refine z_iconst (v := (0 : Int32)) C d_X12_back_32 (by decide) ?_
      obtain ⟨p7, e6, h⟩ := o_bd h
      refine z_V (S := []) (As := [.int ((210 : Int32) * (x1 + (1 : Int32))), .int (0 : Int32)]) C (c_X12_copies l G e6) (eY_0 _ _) (by decide) rfl wc_X12_copies wm_X12_248 ws_X12_copies wl_X12_copies wi_X12 hy_X12_copies ⟨Nat.le_of_ble_eq_true rfl, Nat.le_of_ble_eq_true rfl⟩ rfl rfl (Nat.le_of_ble_eq_true rfl) d_X12_back_33 ?_
      refine z_aload_n 0 C d_X12_back_36 rfl rfl ?_
      obtain ⟨p9, e8, h⟩ := o_bd h
      refine z_V (S := []) (As := []) C (c_X12_hourNow l G e8) (eY_0 _ _) (by decide) rfl wc_X12_hourNow wm_X12_185 ws_X12_hourNow wl_X12_hourNow wi_X12 hy_X12_hourNow ⟨Nat.le_of_ble_eq_true rfl, Nat.le_of_ble_eq_true rfl⟩ rfl rfl (Nat.le_of_ble_eq_true rfl) d_X12_back_37 ?_
      obtain ⟨rfl, rfl⟩ := o_pair h
      exact z_iret C hlk hr d_X12_back_40
    · have h := o_t q5 h
      refine z_bipush (v := (-2 : Int32)) C d_X12_back_21 (by decide) ?_
      obtain ⟨rfl, rfl⟩ := o_pair h
      exact z_iret C hlk hr d_X12_back_23
  · have h := o_t q3 h
    refine z_iconst (v := (-1 : Int32)) C d_X12_back_10 (by decide) ?_
    obtain ⟨rfl, rfl⟩ := o_pair h
    exact z_iret C hlk hr d_X12_back_11
theorem c_X12_back (l : Launch) (G : GG) {M : Mm} {x1 : Int32} {r : Int32} {M2 : Mm} (h : f_X12_back M x1 = some (r, M2)) : CT l 1 G y_X12_back prog_14_method_80_code 2 (some .int) 1 25 [.ref (gB G + 0), .int x1] M (some (.int r)) M2 :=
  CT.of (by decide +kernel) (Nat.le_of_ble_eq_true rfl) rfl (fun p e s m args below meth c C hlk hr => k_X12_back_0 C hlk hr h)
-- SnowSentriesModel.sheet(III)I
set_option maxRecDepth 4000 in
theorem k_X12_sheet_30 {p : Program} {l : Launch} {e : Env} {s : State} {m : MethodId} {args : Array Value} {below : List Frame} {meth : Method} {c : Code} {G : GG} {M : Mm} {r : Int32} {M2 : Mm} (C : CX p s m args c prog_14_method_81_code 5 "SnowSentriesModel" 1 G) (hlk : meth.locks = false) (hr : meth.sig.returnType = (some .int)) : f_X12_sheet_30 M = some (r, M2) → Z p l e { frames := 1, cells := 0, slots := 0, locals := 25 } s m args below meth c 1 G 5 (MQ below (QC 1 G (some (.int r)) M2) args s 0 0 (AU 1 G)) 30 [] [] M := by
  intro h
  unfold f_X12_sheet_30 at h
  refine z_iconst (v := (-1 : Int32)) C d_X12_sheet_30 (by decide) ?_
  obtain ⟨rfl, rfl⟩ := o_pair h
  exact z_iret C hlk hr d_X12_sheet_31
set_option maxRecDepth 4000 in
theorem kb_X12_sheet_56 {p : Program} {l : Launch} {e : Env} {s : State} {m : MethodId} {args : Array Value} {below : List Frame} {meth : Method} {c : Code} {G : GG} {k56 : Mm → Int32 → Option (Int32 × Mm)} {x1 : Int32} {M : Mm} {x4 : Int32} {r : Int32} {M2 : Mm} (C : CX p s m args c prog_14_method_81_code 5 "SnowSentriesModel" 1 G) (hlk : meth.locks = false) (hr : meth.sig.returnType = (some .int)) (hk56 : ∀ (M : Mm) (x4 : Int32), k56 M x4 = some (r, M2) → Z p l e { frames := 1, cells := 0, slots := 0, locals := 25 } s m args below meth c 1 G 5 (MQ below (QC 1 G (some (.int r)) M2) args s 0 0 (AU 1 G)) 56 [(0, .ref (gB G + 0)), (1, .int x1), (4, .int x4)] [] M) : b_X12_sheet_56 k56 x1 M x4 = some (r, M2) → Z p l e { frames := 1, cells := 0, slots := 0, locals := 25 } s m args below meth c 1 G 5 (MQ below (QC 1 G (some (.int r)) M2) args s 0 0 (AU 1 G)) 56 [(0, .ref (gB G + 0)), (1, .int x1), (4, .int x4)] [] M := by
  intro h
  unfold b_X12_sheet_56 at h
  refine z_iload 2 C d_X12_sheet_56 rfl ?_
  refine z_bipush (v := (40 : Int32)) C d_X12_sheet_58 (by decide) ?_
  refine z_icmp_ge C d_X12_sheet_60 (fun q1 => ?_) (fun q1 => ?_)
  · have h := o_t q1 h
    refine z_iconst (v := (1 : Int32)) C d_X12_sheet_82 (by decide) ?_
    obtain ⟨rfl, rfl⟩ := o_pair h
    exact z_iret C hlk hr d_X12_sheet_83
  · have h := o_f q1 h
    refine z_aload_n 0 C d_X12_sheet_63 rfl rfl ?_
    refine z_get (k := 34) (v := .ref (gB G + 18)) C (eY_0 _ _) (by decide) rfl inX12 (by decide) wf_X12_69 rfl d_X12_sheet_64 ?_
    refine z_bipush (v := (40 : Int32)) C d_X12_sheet_67 (by decide) ?_
    refine z_iload_n 1 C d_X12_sheet_69 rfl rfl ?_
    refine z_imul C d_X12_sheet_70 ?_
    refine z_iload 2 C d_X12_sheet_71 rfl ?_
    refine z_iadd C d_X12_sheet_73 ?_
    refine z_iconst (v := (0 : Int32)) C d_X12_sheet_74 (by decide) ?_
    obtain ⟨q4, h⟩ := o_ck h
    obtain ⟨M2, e3, h⟩ := o_wr h
    refine z_ast (fun r q => eY_18 r q) C (by decide) q4 d_X12_sheet_75 ?_
    refine z_nM e3 ?_
    refine z_iinc (v := (1 : Int32)) (L' := [(4, .int (x4 + (1 : Int32))), (0, .ref (gB G + 0)), (1, .int x1)]) 2 C d_X12_sheet_76 rfl (by decide) (by decide) rfl ?_
    refine z_goto C d_X12_sheet_79 ?_
    exact z_sub [1, 2, 0] rfl (hk56 _ _  h)
theorem k_X12_sheet_56 {p : Program} {l : Launch} {e : Env} {s : State} {m : MethodId} {args : Array Value} {below : List Frame} {meth : Method} {c : Code} {G : GG} {x1 : Int32} {r : Int32} {M2 : Mm} (C : CX p s m args c prog_14_method_81_code 5 "SnowSentriesModel" 1 G) (hlk : meth.locks = false) (hr : meth.sig.returnType = (some .int)) : ∀ (n : Nat) (M : Mm) (x4 : Int32), f_X12_sheet_56 x1 n M x4 = some (r, M2) → Z p l e { frames := 1, cells := 0, slots := 0, locals := 25 } s m args below meth c 1 G 5 (MQ below (QC 1 G (some (.int r)) M2) args s 0 0 (AU 1 G)) 56 [(0, .ref (gB G + 0)), (1, .int x1), (4, .int x4)] [] M := by
  intro n
  induction n with
  | zero =>
    intro M x4  h
    exact absurd h (fun z => by cases z)
  | succ n ih =>
    intro M x4  h
    exact kb_X12_sheet_56 C hlk hr  (fun M x4 h => ih M x4 h) h
set_option maxRecDepth 4000 in
theorem k_X12_sheet_0 {p : Program} {l : Launch} {e : Env} {s : State} {m : MethodId} {args : Array Value} {below : List Frame} {meth : Method} {c : Code} {G : GG} {M : Mm} {x1 : Int32} {x2 : Int32} {x3 : Int32} {r : Int32} {M2 : Mm} (C : CX p s m args c prog_14_method_81_code 5 "SnowSentriesModel" 1 G) (hlk : meth.locks = false) (hr : meth.sig.returnType = (some .int)) : f_X12_sheet M x1 x2 x3 = some (r, M2) → Z p l e { frames := 1, cells := 0, slots := 0, locals := 25 } s m args below meth c 1 G 5 (MQ below (QC 1 G (some (.int r)) M2) args s 0 0 (AU 1 G)) 0 [(0, .ref (gB G + 0)), (1, .int x1), (2, .int x2), (3, .int x3)] [] M := by
  intro h
  unfold f_X12_sheet at h
  refine z_iload_n 1 C d_X12_sheet_0 rfl rfl ?_
  refine z_i2l C d_X12_sheet_1 ?_
  refine z_lconst (v := (0 : Int64)) C d_X12_sheet_2 (by decide) ?_
  refine z_ldc2 (v := (3 : Int64)) C wk_X12_204 d_X12_sheet_3 ?_
  obtain ⟨p2, e1, h⟩ := o_bd h
  refine z_S (S := []) (As := [.long x1.toInt64, .long (0 : Int64), .long (3 : Int64)]) C (c_X12_in l G (M := M) e1) wc_X12_in wm_X12_75 ws_X12_in wi_X12 hy_X12_in ⟨Nat.le_of_ble_eq_true rfl, Nat.le_of_ble_eq_true rfl⟩ rfl rfl (Nat.le_of_ble_eq_true rfl) d_X12_sheet_6 ?_
  refine z_if_eq C d_X12_sheet_9 (fun q3 => ?_) (fun q3 => ?_)
  · have h := o_t q3 h
    exact z_sub [] rfl (k_X12_sheet_30 C hlk hr h)
  · have h := o_f q3 h
    refine z_iload_n 2 C d_X12_sheet_12 rfl rfl ?_
    refine z_i2l C d_X12_sheet_13 ?_
    refine z_lconst (v := (0 : Int64)) C d_X12_sheet_14 (by decide) ?_
    refine z_ldc2 (v := (2 : Int64)) C wk_X12_188 d_X12_sheet_15 ?_
    obtain ⟨p5, e4, h⟩ := o_bd h
    refine z_S (S := []) (As := [.long x2.toInt64, .long (0 : Int64), .long (2 : Int64)]) C (c_X12_in l G (M := M) e4) wc_X12_in wm_X12_75 ws_X12_in wi_X12 hy_X12_in ⟨Nat.le_of_ble_eq_true rfl, Nat.le_of_ble_eq_true rfl⟩ rfl rfl (Nat.le_of_ble_eq_true rfl) d_X12_sheet_18 ?_
    refine z_if_eq C d_X12_sheet_21 (fun q6 => ?_) (fun q6 => ?_)
    · have h := o_t q6 h
      exact z_sub [] rfl (k_X12_sheet_30 C hlk hr h)
    · have h := o_f q6 h
      refine z_iload_n 3 C d_X12_sheet_24 rfl rfl ?_
      refine z_bipush (v := (40 : Int32)) C d_X12_sheet_25 (by decide) ?_
      refine z_icmp_le C d_X12_sheet_27 (fun q7 => ?_) (fun q7 => ?_)
      · have h := o_t q7 h
        refine z_iload_n 3 C d_X12_sheet_32 rfl rfl ?_
        refine z_if_ge C d_X12_sheet_33 (fun q8 => ?_) (fun q8 => ?_)
        · have h := o_t q8 h
          refine z_aload_n 0 C d_X12_sheet_39 rfl rfl ?_
          refine z_get (k := 32) (v := .ref (gB G + 16)) C (eY_0 _ _) (by decide) rfl inX12 (by decide) wf_X12_63 rfl d_X12_sheet_40 ?_
          refine z_iload_n 1 C d_X12_sheet_43 rfl rfl ?_
          refine z_iload_n 2 C d_X12_sheet_44 rfl rfl ?_
          obtain ⟨q11, h⟩ := o_ck h
          obtain ⟨M9, e10, h⟩ := o_wr h
          refine z_ast (fun r q => eY_16 r q) C (by decide) q11 d_X12_sheet_45 ?_
          refine z_nM e10 ?_
          refine z_aload_n 0 C d_X12_sheet_46 rfl rfl ?_
          refine z_get (k := 33) (v := .ref (gB G + 17)) C (eY_0 _ _) (by decide) rfl inX12 (by decide) wf_X12_66 rfl d_X12_sheet_47 ?_
          refine z_iload_n 1 C d_X12_sheet_50 rfl rfl ?_
          refine z_iload_n 3 C d_X12_sheet_51 rfl rfl ?_
          obtain ⟨M12, e13, h⟩ := o_wr h
          refine z_ast (fun r q => eY_17 r q) C (by decide) q11 d_X12_sheet_52 ?_
          refine z_nM e13 ?_
          refine z_iconst (v := (0 : Int32)) C d_X12_sheet_53 (by decide) ?_
          refine z_istore (L' := [(4, .int (0 : Int32)), (0, .ref (gB G + 0)), (1, .int x1), (2, .int x2), (3, .int x3)]) C d_X12_sheet_54 (by decide) rfl ?_
          exact z_sub [1, 2, 0] rfl (k_X12_sheet_56 C hlk hr _ _ _ h)
        · have h := o_f q8 h
          refine z_bipush (v := (-14 : Int32)) C d_X12_sheet_36 (by decide) ?_
          obtain ⟨rfl, rfl⟩ := o_pair h
          exact z_iret C hlk hr d_X12_sheet_38
      · have h := o_f q7 h
        exact z_sub [] rfl (k_X12_sheet_30 C hlk hr h)
theorem c_X12_sheet (l : Launch) (G : GG) {M : Mm} {x1 : Int32} {x2 : Int32} {x3 : Int32} {r : Int32} {M2 : Mm} (h : f_X12_sheet M x1 x2 x3 = some (r, M2)) : CT l 1 G y_X12_sheet prog_14_method_81_code 5 (some .int) 1 25 [.ref (gB G + 0), .int x1, .int x2, .int x3] M (some (.int r)) M2 :=
  CT.of (by decide +kernel) (Nat.le_of_ble_eq_true rfl) rfl (fun p e s m args below meth c C hlk hr => k_X12_sheet_0 C hlk hr h)
-- SnowSentriesModel.lay(III)I
set_option maxRecDepth 4000 in
theorem k_X12_lay_99 {p : Program} {l : Launch} {e : Env} {s : State} {m : MethodId} {args : Array Value} {below : List Frame} {meth : Method} {c : Code} {G : GG} {M : Mm} {s_1 : Int32} {s_2 : Int32} {r : Int32} {M2 : Mm} (C : CX p s m args c prog_14_method_82_code 4 "SnowSentriesModel" 1 G) (hlk : meth.locks = false) (hr : meth.sig.returnType = (some .int)) : f_X12_lay_99 M s_1 s_2 = some (r, M2) → Z p l e { frames := 1, cells := 0, slots := 0, locals := 25 } s m args below meth c 1 G 4 (MQ below (QC 1 G (some (.int r)) M2) args s 0 0 (AU 1 G)) 99 [] [.int s_2, .int s_1, .ref (gB G + 18)] M := by
  intro h
  unfold f_X12_lay_99 at h
  obtain ⟨q3, h⟩ := o_ck h
  obtain ⟨M1, e2, h⟩ := o_wr h
  refine z_ast (fun r q => eY_18 r q) C (by decide) q3 d_X12_lay_99 ?_
  refine z_nM e2 ?_
  refine z_iconst (v := (1 : Int32)) C d_X12_lay_100 (by decide) ?_
  obtain ⟨rfl, rfl⟩ := o_pair h
  exact z_iret C hlk hr d_X12_lay_101
set_option maxRecDepth 4000 in
theorem k_X12_lay_0 {p : Program} {l : Launch} {e : Env} {s : State} {m : MethodId} {args : Array Value} {below : List Frame} {meth : Method} {c : Code} {G : GG} {M : Mm} {x1 : Int32} {x2 : Int32} {x3 : Int32} {r : Int32} {M2 : Mm} (C : CX p s m args c prog_14_method_82_code 4 "SnowSentriesModel" 1 G) (hlk : meth.locks = false) (hr : meth.sig.returnType = (some .int)) : f_X12_lay M x1 x2 x3 = some (r, M2) → Z p l e { frames := 1, cells := 0, slots := 0, locals := 25 } s m args below meth c 1 G 4 (MQ below (QC 1 G (some (.int r)) M2) args s 0 0 (AU 1 G)) 0 [(0, .ref (gB G + 0)), (1, .int x1), (2, .int x2), (3, .int x3)] [] M := by
  intro h
  unfold f_X12_lay at h
  refine z_iload_n 1 C d_X12_lay_0 rfl rfl ?_
  refine z_i2l C d_X12_lay_1 ?_
  refine z_lconst (v := (0 : Int64)) C d_X12_lay_2 (by decide) ?_
  refine z_ldc2 (v := (3 : Int64)) C wk_X12_204 d_X12_lay_3 ?_
  obtain ⟨p2, e1, h⟩ := o_bd h
  refine z_S (S := []) (As := [.long x1.toInt64, .long (0 : Int64), .long (3 : Int64)]) C (c_X12_in l G (M := M) e1) wc_X12_in wm_X12_75 ws_X12_in wi_X12 hy_X12_in ⟨Nat.le_of_ble_eq_true rfl, Nat.le_of_ble_eq_true rfl⟩ rfl rfl (Nat.le_of_ble_eq_true rfl) d_X12_lay_6 ?_
  refine z_if_ne C d_X12_lay_9 (fun q3 => ?_) (fun q3 => ?_)
  · have h := o_f q3 h
    refine z_aload_n 0 C d_X12_lay_14 rfl rfl ?_
    refine z_get (k := 32) (v := .ref (gB G + 16)) C (eY_0 _ _) (by decide) rfl inX12 (by decide) wf_X12_63 rfl d_X12_lay_15 ?_
    refine z_iload_n 1 C d_X12_lay_18 rfl rfl ?_
    obtain ⟨q4, h⟩ := o_ck h
    refine z_ald (eY_16 _ _) C (by decide) q4 d_X12_lay_19 ?_
    refine z_bipush (v := (-4 : Int32)) C d_X12_lay_20 (by decide) ?_
    refine z_icmp_ne C d_X12_lay_22 (fun q5 => ?_) (fun q5 => ?_)
    · have h := o_f q5 h
      refine z_iload_n 2 C d_X12_lay_28 rfl rfl ?_
      refine z_i2l C d_X12_lay_29 ?_
      refine z_lconst (v := (0 : Int64)) C d_X12_lay_30 (by decide) ?_
      refine z_aload_n 0 C d_X12_lay_31 rfl rfl ?_
      refine z_get (k := 33) (v := .ref (gB G + 17)) C (eY_0 _ _) (by decide) rfl inX12 (by decide) wf_X12_66 rfl d_X12_lay_32 ?_
      refine z_iload_n 1 C d_X12_lay_35 rfl rfl ?_
      refine z_ald (eY_17 _ _) C (by decide) q4 d_X12_lay_36 ?_
      refine z_iconst (v := (1 : Int32)) C d_X12_lay_37 (by decide) ?_
      refine z_isub C d_X12_lay_38 ?_
      refine z_i2l C d_X12_lay_39 ?_
      obtain ⟨p7, e6, h⟩ := o_bd h
      refine z_S (S := []) (As := [.long x2.toInt64, .long (0 : Int64), .long (((M.1 17 x1.toNatClampNeg) - (1 : Int32)).toInt64)]) C (c_X12_in l G (M := M) e6) wc_X12_in wm_X12_75 ws_X12_in wi_X12 hy_X12_in ⟨Nat.le_of_ble_eq_true rfl, Nat.le_of_ble_eq_true rfl⟩ rfl rfl (Nat.le_of_ble_eq_true rfl) d_X12_lay_40 ?_
      refine z_if_ne C d_X12_lay_43 (fun q8 => ?_) (fun q8 => ?_)
      · have h := o_f q8 h
        refine z_aload_n 0 C d_X12_lay_49 rfl rfl ?_
        refine z_get (k := 34) (v := .ref (gB G + 18)) C (eY_0 _ _) (by decide) rfl inX12 (by decide) wf_X12_69 rfl d_X12_lay_50 ?_
        refine z_bipush (v := (40 : Int32)) C d_X12_lay_53 (by decide) ?_
        refine z_iload_n 1 C d_X12_lay_55 rfl rfl ?_
        refine z_imul C d_X12_lay_56 ?_
        refine z_iload_n 2 C d_X12_lay_57 rfl rfl ?_
        refine z_iadd C d_X12_lay_58 ?_
        refine z_aload_n 0 C d_X12_lay_59 rfl rfl ?_
        refine z_get (k := 32) (v := .ref (gB G + 16)) C (eY_0 _ _) (by decide) rfl inX12 (by decide) wf_X12_63 rfl d_X12_lay_60 ?_
        refine z_iload_n 1 C d_X12_lay_63 rfl rfl ?_
        refine z_ald (eY_16 _ _) C (by decide) q4 d_X12_lay_64 ?_
        refine z_if_ne C d_X12_lay_65 (fun q9 => ?_) (fun q9 => ?_)
        · have h := o_f q9 h
          refine z_aload_n 0 C d_X12_lay_78 rfl rfl ?_
          refine z_get (k := 32) (v := .ref (gB G + 16)) C (eY_0 _ _) (by decide) rfl inX12 (by decide) wf_X12_63 rfl d_X12_lay_79 ?_
          refine z_iload_n 1 C d_X12_lay_82 rfl rfl ?_
          refine z_ald (eY_16 _ _) C (by decide) q4 d_X12_lay_83 ?_
          refine z_iconst (v := (1 : Int32)) C d_X12_lay_84 (by decide) ?_
          refine z_icmp_ne C d_X12_lay_85 (fun q10 => ?_) (fun q10 => ?_)
          · have h := o_f q10 h
            refine z_iload_n 3 C d_X12_lay_98 rfl rfl ?_
            exact z_sub [] rfl (k_X12_lay_99 C hlk hr h)
          · have h := o_t q10 h
            refine z_iload_n 3 C d_X12_lay_88 rfl rfl ?_
            refine z_bipush (v := (16 : Int32)) C d_X12_lay_89 (by decide) ?_
            refine z_ishl C d_X12_lay_91 ?_
            refine z_bipush (v := (16 : Int32)) C d_X12_lay_92 (by decide) ?_
            refine z_ishr C d_X12_lay_94 ?_
            refine z_goto C d_X12_lay_95 ?_
            exact z_sub [] rfl (k_X12_lay_99 C hlk hr h)
        · have h := o_t q9 h
          refine z_iload_n 3 C d_X12_lay_68 rfl rfl ?_
          refine z_bipush (v := (24 : Int32)) C d_X12_lay_69 (by decide) ?_
          refine z_ishl C d_X12_lay_71 ?_
          refine z_bipush (v := (24 : Int32)) C d_X12_lay_72 (by decide) ?_
          refine z_ishr C d_X12_lay_74 ?_
          refine z_goto C d_X12_lay_75 ?_
          exact z_sub [] rfl (k_X12_lay_99 C hlk hr h)
      · have h := o_t q8 h
        refine z_bipush (v := (-12 : Int32)) C d_X12_lay_46 (by decide) ?_
        obtain ⟨rfl, rfl⟩ := o_pair h
        exact z_iret C hlk hr d_X12_lay_48
    · have h := o_t q5 h
      refine z_bipush (v := (-11 : Int32)) C d_X12_lay_25 (by decide) ?_
      obtain ⟨rfl, rfl⟩ := o_pair h
      exact z_iret C hlk hr d_X12_lay_27
  · have h := o_t q3 h
    refine z_iconst (v := (-1 : Int32)) C d_X12_lay_12 (by decide) ?_
    obtain ⟨rfl, rfl⟩ := o_pair h
    exact z_iret C hlk hr d_X12_lay_13
theorem c_X12_lay (l : Launch) (G : GG) {M : Mm} {x1 : Int32} {x2 : Int32} {x3 : Int32} {r : Int32} {M2 : Mm} (h : f_X12_lay M x1 x2 x3 = some (r, M2)) : CT l 1 G y_X12_lay prog_14_method_82_code 4 (some .int) 1 25 [.ref (gB G + 0), .int x1, .int x2, .int x3] M (some (.int r)) M2 :=
  CT.of (by decide +kernel) (Nat.le_of_ble_eq_true rfl) rfl (fun p e s m args below meth c C hlk hr => k_X12_lay_0 C hlk hr h)
-- SnowSentriesModel.read(IIII)I
set_option maxRecDepth 4000 in
theorem k_X12_read_37 {p : Program} {l : Launch} {e : Env} {s : State} {m : MethodId} {args : Array Value} {below : List Frame} {meth : Method} {c : Code} {G : GG} {M : Mm} {r : Int32} {M2 : Mm} (C : CX p s m args c prog_14_method_83_code 8 "SnowSentriesModel" 1 G) (hlk : meth.locks = false) (hr : meth.sig.returnType = (some .int)) : f_X12_read_37 M = some (r, M2) → Z p l e { frames := 1, cells := 0, slots := 0, locals := 25 } s m args below meth c 1 G 8 (MQ below (QC 1 G (some (.int r)) M2) args s 0 0 (AU 1 G)) 37 [] [] M := by
  intro h
  unfold f_X12_read_37 at h
  refine z_iconst (v := (-1 : Int32)) C d_X12_read_37 (by decide) ?_
  obtain ⟨rfl, rfl⟩ := o_pair h
  exact z_iret C hlk hr d_X12_read_38
set_option maxRecDepth 4000 in
theorem k_X12_read_163 {p : Program} {l : Launch} {e : Env} {s : State} {m : MethodId} {args : Array Value} {below : List Frame} {meth : Method} {c : Code} {G : GG} {k45 : Int32 → Int32 → Option (Int32 × Mm)} {M : Mm} {x1 : Int32} {x2 : Int32} {x3 : Int32} {x4 : Int32} {x5 : Int32} {s_0 : Int32} {s_1 : Int32} {r : Int32} {M2 : Mm} (C : CX p s m args c prog_14_method_83_code 8 "SnowSentriesModel" 1 G) (hlk : meth.locks = false) (hr : meth.sig.returnType = (some .int)) (hk45 : ∀ (x5 : Int32) (x6 : Int32), k45 x5 x6 = some (r, M2) → Z p l e { frames := 1, cells := 0, slots := 0, locals := 25 } s m args below meth c 1 G 8 (MQ below (QC 1 G (some (.int r)) M2) args s 0 0 (AU 1 G)) 45 [(0, .ref (gB G + 0)), (1, .int x1), (2, .int x2), (3, .int x3), (4, .int x4), (5, .int x5), (6, .int x6)] [] M) : f_X12_read_163 k45 M x1 x2 x3 x4 x5 s_0 s_1 = some (r, M2) → Z p l e { frames := 1, cells := 0, slots := 0, locals := 25 } s m args below meth c 1 G 8 (MQ below (QC 1 G (some (.int r)) M2) args s 0 0 (AU 1 G)) 163 [(0, .ref (gB G + 0)), (1, .int x1), (2, .int x2), (3, .int x3), (4, .int x4), (5, .int x5)] [.int s_1, .int s_0] M := by
  intro h
  unfold f_X12_read_163 at h
  refine z_iadd C d_X12_read_163 ?_
  obtain ⟨v1, e2, h⟩ := o_nm h
  refine z_nI e2 ?_
  refine z_istore (L' := [(6, .int v1), (0, .ref (gB G + 0)), (1, .int x1), (2, .int x2), (3, .int x3), (4, .int x4), (5, .int x5)]) C d_X12_read_164 (by decide) rfl ?_
  refine z_goto C d_X12_read_166 ?_
  exact z_sub [1, 2, 3, 4, 5, 6, 0] rfl (hk45 _ _  h)
set_option maxRecDepth 4000 in
theorem k_X12_read_151 {p : Program} {l : Launch} {e : Env} {s : State} {m : MethodId} {args : Array Value} {below : List Frame} {meth : Method} {c : Code} {G : GG} {k45 : Int32 → Int32 → Option (Int32 × Mm)} {M : Mm} {x1 : Int32} {x2 : Int32} {x3 : Int32} {x4 : Int32} {x5 : Int32} {x6 : Int32} {r : Int32} {M2 : Mm} (C : CX p s m args c prog_14_method_83_code 8 "SnowSentriesModel" 1 G) (hlk : meth.locks = false) (hr : meth.sig.returnType = (some .int)) (hk45 : ∀ (x5 : Int32) (x6 : Int32), k45 x5 x6 = some (r, M2) → Z p l e { frames := 1, cells := 0, slots := 0, locals := 25 } s m args below meth c 1 G 8 (MQ below (QC 1 G (some (.int r)) M2) args s 0 0 (AU 1 G)) 45 [(0, .ref (gB G + 0)), (1, .int x1), (2, .int x2), (3, .int x3), (4, .int x4), (5, .int x5), (6, .int x6)] [] M) : f_X12_read_151 k45 M x1 x2 x3 x4 x5 x6 = some (r, M2) → Z p l e { frames := 1, cells := 0, slots := 0, locals := 25 } s m args below meth c 1 G 8 (MQ below (QC 1 G (some (.int r)) M2) args s 0 0 (AU 1 G)) 151 [(0, .ref (gB G + 0)), (1, .int x1), (2, .int x2), (3, .int x3), (4, .int x4), (5, .int x5), (6, .int x6)] [] M := by
  intro h
  unfold f_X12_read_151 at h
  refine z_iload 6 C d_X12_read_151 rfl ?_
  refine z_iload 5 C d_X12_read_153 rfl ?_
  refine z_if_ne C d_X12_read_155 (fun q1 => ?_) (fun q1 => ?_)
  · have h := o_f q1 h
    refine z_iconst (v := (0 : Int32)) C d_X12_read_162 (by decide) ?_
    exact z_sub [0, 1, 2, 3, 4, 5] rfl (k_X12_read_163 C hlk hr hk45 h)
  · have h := o_t q1 h
    refine z_iconst (v := (1 : Int32)) C d_X12_read_158 (by decide) ?_
    refine z_goto C d_X12_read_159 ?_
    exact z_sub [0, 1, 2, 3, 4, 5] rfl (k_X12_read_163 C hlk hr hk45 h)
set_option maxRecDepth 4000 in
theorem k_X12_read_113 {p : Program} {l : Launch} {e : Env} {s : State} {m : MethodId} {args : Array Value} {below : List Frame} {meth : Method} {c : Code} {G : GG} {k45 : Int32 → Int32 → Option (Int32 × Mm)} {M : Mm} {x1 : Int32} {x2 : Int32} {x3 : Int32} {x4 : Int32} {x6 : Int32} {s_0 : Int32} {r : Int32} {M2 : Mm} (C : CX p s m args c prog_14_method_83_code 8 "SnowSentriesModel" 1 G) (hlk : meth.locks = false) (hr : meth.sig.returnType = (some .int)) (hk45 : ∀ (x5 : Int32) (x6 : Int32), k45 x5 x6 = some (r, M2) → Z p l e { frames := 1, cells := 0, slots := 0, locals := 25 } s m args below meth c 1 G 8 (MQ below (QC 1 G (some (.int r)) M2) args s 0 0 (AU 1 G)) 45 [(0, .ref (gB G + 0)), (1, .int x1), (2, .int x2), (3, .int x3), (4, .int x4), (5, .int x5), (6, .int x6)] [] M) : f_X12_read_113 k45 M x1 x2 x3 x4 x6 s_0 = some (r, M2) → Z p l e { frames := 1, cells := 0, slots := 0, locals := 25 } s m args below meth c 1 G 8 (MQ below (QC 1 G (some (.int r)) M2) args s 0 0 (AU 1 G)) 113 [(0, .ref (gB G + 0)), (1, .int x1), (2, .int x2), (3, .int x3), (4, .int x4), (6, .int x6)] [.int s_0] M := by
  intro h
  unfold f_X12_read_113 at h
  refine z_istore (L' := [(5, .int s_0), (0, .ref (gB G + 0)), (1, .int x1), (2, .int x2), (3, .int x3), (4, .int x4), (6, .int x6)]) C d_X12_read_113 (by decide) rfl ?_
  refine z_iload 0 C d_X12_read_115 rfl ?_
  refine z_if_ne C d_X12_read_117 (fun q1 => ?_) (fun q1 => ?_)
  · have h := o_f q1 h
    exact z_sub [1, 2, 3, 4, 5, 0, 6] rfl (k_X12_read_151 C hlk hr hk45 h)
  · have h := o_t q1 h
    refine z_aload_n 1 C d_X12_read_120 rfl rfl ?_
    refine z_get (k := 34) (v := .ref (gB G + 18)) C (eY_0 _ _) (by decide) rfl inX12 (by decide) wf_X12_69 rfl d_X12_read_121 ?_
    refine z_bipush (v := (40 : Int32)) C d_X12_read_124 (by decide) ?_
    refine z_iload_n 2 C d_X12_read_126 rfl rfl ?_
    refine z_imul C d_X12_read_127 ?_
    refine z_iload_n 4 C d_X12_read_128 rfl rfl ?_
    refine z_iadd C d_X12_read_129 ?_
    refine z_iload 6 C d_X12_read_130 rfl ?_
    refine z_iadd C d_X12_read_132 ?_
    obtain ⟨q2, h⟩ := o_ck h
    refine z_ald (eY_18 _ _) C (by decide) q2 d_X12_read_133 ?_
    refine z_i2l C d_X12_read_134 ?_
    refine z_lconst (v := (0 : Int64)) C d_X12_read_135 (by decide) ?_
    refine z_ldc2 (v := (9 : Int64)) C wk_X12_221 d_X12_read_136 ?_
    obtain ⟨p4, e3, h⟩ := o_bd h
    refine z_S (S := []) (As := [.long ((M.1 18 ((((40 : Int32) * x1) + x3) + x6).toNatClampNeg).toInt64), .long (0 : Int64), .long (9 : Int64)]) C (c_X12_in l G (M := M) e3) wc_X12_in wm_X12_75 ws_X12_in wi_X12 hy_X12_in ⟨Nat.le_of_ble_eq_true rfl, Nat.le_of_ble_eq_true rfl⟩ rfl rfl (Nat.le_of_ble_eq_true rfl) d_X12_read_139 ?_
    refine z_if_ne C d_X12_read_142 (fun q5 => ?_) (fun q5 => ?_)
    · have h := o_f q5 h
      exact z_sub [1, 2, 3, 4, 5, 0, 6] rfl (k_X12_read_151 C hlk hr hk45 h)
    · have h := o_t q5 h
      refine z_bipush (v := (-20 : Int32)) C d_X12_read_145 (by decide) ?_
      refine z_iload 6 C d_X12_read_147 rfl ?_
      refine z_isub C d_X12_read_149 ?_
      obtain ⟨rfl, rfl⟩ := o_pair h
      exact z_iret C hlk hr d_X12_read_150
set_option maxRecDepth 4000 in
theorem k_X12_read_210 {p : Program} {l : Launch} {e : Env} {s : State} {m : MethodId} {args : Array Value} {below : List Frame} {meth : Method} {c : Code} {G : GG} {M : Mm} {x5 : Int32} {x6 : Int32} {r : Int32} {M2 : Mm} (C : CX p s m args c prog_14_method_83_code 8 "SnowSentriesModel" 1 G) (hlk : meth.locks = false) (hr : meth.sig.returnType = (some .int)) : f_X12_read_210 M x5 x6 = some (r, M2) → Z p l e { frames := 1, cells := 0, slots := 0, locals := 25 } s m args below meth c 1 G 8 (MQ below (QC 1 G (some (.int r)) M2) args s 0 0 (AU 1 G)) 210 [(0, .ref (gB G + 0)), (5, .int x5), (6, .int x6)] [] M := by
  intro h
  unfold f_X12_read_210 at h
  refine z_aload_n 0 C d_X12_read_210 rfl rfl ?_
  refine z_iload 1 C d_X12_read_211 rfl ?_
  obtain ⟨M1, e2, h⟩ := o_wr h
  refine z_pI (k := 35) (ty := .int) C (fun r q => eY_0 r q) (fun _ _ => rfl) (by decide) rfl inX12 tyX12 tyX12_ok nmX12 (by decide) wf_X12_289 rfl (by decide +kernel) rfl rfl (Nat.le_of_ble_eq_true rfl) d_X12_read_213 ?_
  refine z_nM e2 ?_
  refine z_iload 2 C d_X12_read_216 rfl ?_
  obtain ⟨rfl, rfl⟩ := o_pair h
  exact z_iret C hlk hr d_X12_read_218
set_option maxRecDepth 4000 in
theorem kb_X12_read_172 {p : Program} {l : Launch} {e : Env} {s : State} {m : MethodId} {args : Array Value} {below : List Frame} {meth : Method} {c : Code} {G : GG} {k172 : Mm → Int32 → Option (Int32 × Mm)} {x1 : Int32} {x3 : Int32} {x5 : Int32} {x6 : Int32} {M : Mm} {x7 : Int32} {r : Int32} {M2 : Mm} (C : CX p s m args c prog_14_method_83_code 8 "SnowSentriesModel" 1 G) (hlk : meth.locks = false) (hr : meth.sig.returnType = (some .int)) (hk172 : ∀ (M : Mm) (x7 : Int32), k172 M x7 = some (r, M2) → Z p l e { frames := 1, cells := 0, slots := 0, locals := 25 } s m args below meth c 1 G 8 (MQ below (QC 1 G (some (.int r)) M2) args s 0 0 (AU 1 G)) 172 [(0, .ref (gB G + 0)), (1, .int x1), (3, .int x3), (5, .int x5), (6, .int x6), (7, .int x7)] [] M) : b_X12_read_172 k172 x1 x3 x5 x6 M x7 = some (r, M2) → Z p l e { frames := 1, cells := 0, slots := 0, locals := 25 } s m args below meth c 1 G 8 (MQ below (QC 1 G (some (.int r)) M2) args s 0 0 (AU 1 G)) 172 [(0, .ref (gB G + 0)), (1, .int x1), (3, .int x3), (5, .int x5), (6, .int x6), (7, .int x7)] [] M := by
  intro h
  unfold b_X12_read_172 at h
  refine z_iload 5 C d_X12_read_172 rfl ?_
  refine z_iload 4 C d_X12_read_174 rfl ?_
  refine z_icmp_ge C d_X12_read_176 (fun q1 => ?_) (fun q1 => ?_)
  · have h := o_t q1 h
    exact z_sub [0, 3, 4] rfl (k_X12_read_210 C hlk hr h)
  · have h := o_f q1 h
    refine z_aload_n 0 C d_X12_read_179 rfl rfl ?_
    refine z_get (k := 0) (v := .ref (gB G + 1)) C (eY_0 _ _) (by decide) rfl inX12 (by decide) wf_X12_7 rfl d_X12_read_180 ?_
    refine z_sipush (v := (171 : Int32)) C d_X12_read_183 (by decide) ?_
    refine z_iload 5 C d_X12_read_186 rfl ?_
    refine z_iadd C d_X12_read_188 ?_
    refine z_aload_n 0 C d_X12_read_189 rfl rfl ?_
    refine z_get (k := 34) (v := .ref (gB G + 18)) C (eY_0 _ _) (by decide) rfl inX12 (by decide) wf_X12_69 rfl d_X12_read_190 ?_
    refine z_bipush (v := (40 : Int32)) C d_X12_read_193 (by decide) ?_
    refine z_iload_n 1 C d_X12_read_195 rfl rfl ?_
    refine z_imul C d_X12_read_196 ?_
    refine z_iload_n 2 C d_X12_read_197 rfl rfl ?_
    refine z_iadd C d_X12_read_198 ?_
    refine z_iload 5 C d_X12_read_199 rfl ?_
    refine z_iadd C d_X12_read_201 ?_
    obtain ⟨q2, h⟩ := o_ck h
    refine z_ald (eY_18 _ _) C (by decide) q2 d_X12_read_202 ?_
    obtain ⟨q5, h⟩ := o_ck h
    obtain ⟨M3, e4, h⟩ := o_wr h
    refine z_ast (fun r q => eY_1 r q) C (by decide) q5 d_X12_read_203 ?_
    refine z_nM e4 ?_
    refine z_iinc (v := (1 : Int32)) (L' := [(7, .int (x7 + (1 : Int32))), (0, .ref (gB G + 0)), (1, .int x1), (3, .int x3), (5, .int x5), (6, .int x6)]) 5 C d_X12_read_204 rfl (by decide) (by decide) rfl ?_
    refine z_goto C d_X12_read_207 ?_
    exact z_sub [1, 2, 3, 4, 5, 0] rfl (hk172 _ _  h)
theorem k_X12_read_172 {p : Program} {l : Launch} {e : Env} {s : State} {m : MethodId} {args : Array Value} {below : List Frame} {meth : Method} {c : Code} {G : GG} {x1 : Int32} {x3 : Int32} {x5 : Int32} {x6 : Int32} {r : Int32} {M2 : Mm} (C : CX p s m args c prog_14_method_83_code 8 "SnowSentriesModel" 1 G) (hlk : meth.locks = false) (hr : meth.sig.returnType = (some .int)) : ∀ (n : Nat) (M : Mm) (x7 : Int32), f_X12_read_172 x1 x3 x5 x6 n M x7 = some (r, M2) → Z p l e { frames := 1, cells := 0, slots := 0, locals := 25 } s m args below meth c 1 G 8 (MQ below (QC 1 G (some (.int r)) M2) args s 0 0 (AU 1 G)) 172 [(0, .ref (gB G + 0)), (1, .int x1), (3, .int x3), (5, .int x5), (6, .int x6), (7, .int x7)] [] M := by
  intro n
  induction n with
  | zero =>
    intro M x7  h
    exact absurd h (fun z => by cases z)
  | succ n ih =>
    intro M x7  h
    exact kb_X12_read_172 C hlk hr  (fun M x7 h => ih M x7 h) h
set_option maxRecDepth 4000 in
theorem k_X12_read_169 {p : Program} {l : Launch} {e : Env} {s : State} {m : MethodId} {args : Array Value} {below : List Frame} {meth : Method} {c : Code} {G : GG} {M : Mm} {x1 : Int32} {x3 : Int32} {x5 : Int32} {x6 : Int32} {r : Int32} {M2 : Mm} (C : CX p s m args c prog_14_method_83_code 8 "SnowSentriesModel" 1 G) (hlk : meth.locks = false) (hr : meth.sig.returnType = (some .int)) : f_X12_read_169 M x1 x3 x5 x6 = some (r, M2) → Z p l e { frames := 1, cells := 0, slots := 0, locals := 25 } s m args below meth c 1 G 8 (MQ below (QC 1 G (some (.int r)) M2) args s 0 0 (AU 1 G)) 169 [(0, .ref (gB G + 0)), (1, .int x1), (3, .int x3), (5, .int x5), (6, .int x6)] [] M := by
  intro h
  unfold f_X12_read_169 at h
  refine z_iconst (v := (0 : Int32)) C d_X12_read_169 (by decide) ?_
  refine z_istore (L' := [(7, .int (0 : Int32)), (0, .ref (gB G + 0)), (1, .int x1), (3, .int x3), (5, .int x5), (6, .int x6)]) C d_X12_read_170 (by decide) rfl ?_
  exact z_sub [1, 2, 3, 4, 5, 0] rfl (k_X12_read_172 C hlk hr _ _ _ h)
set_option maxRecDepth 4000 in
theorem kb_X12_read_45 {p : Program} {l : Launch} {e : Env} {s : State} {m : MethodId} {args : Array Value} {below : List Frame} {meth : Method} {c : Code} {G : GG} {k45 : Int32 → Int32 → Option (Int32 × Mm)} {M : Mm} {x1 : Int32} {x2 : Int32} {x3 : Int32} {x4 : Int32} {x5 : Int32} {x6 : Int32} {r : Int32} {M2 : Mm} (C : CX p s m args c prog_14_method_83_code 8 "SnowSentriesModel" 1 G) (hlk : meth.locks = false) (hr : meth.sig.returnType = (some .int)) (hk45 : ∀ (x5 : Int32) (x6 : Int32), k45 x5 x6 = some (r, M2) → Z p l e { frames := 1, cells := 0, slots := 0, locals := 25 } s m args below meth c 1 G 8 (MQ below (QC 1 G (some (.int r)) M2) args s 0 0 (AU 1 G)) 45 [(0, .ref (gB G + 0)), (1, .int x1), (2, .int x2), (3, .int x3), (4, .int x4), (5, .int x5), (6, .int x6)] [] M) : b_X12_read_45 k45 M x1 x2 x3 x4 x5 x6 = some (r, M2) → Z p l e { frames := 1, cells := 0, slots := 0, locals := 25 } s m args below meth c 1 G 8 (MQ below (QC 1 G (some (.int r)) M2) args s 0 0 (AU 1 G)) 45 [(0, .ref (gB G + 0)), (1, .int x1), (2, .int x2), (3, .int x3), (4, .int x4), (5, .int x5), (6, .int x6)] [] M := by
  intro h
  unfold b_X12_read_45 at h
  refine z_iload 6 C d_X12_read_45 rfl ?_
  refine z_iload 4 C d_X12_read_47 rfl ?_
  refine z_icmp_ge C d_X12_read_49 (fun q1 => ?_) (fun q1 => ?_)
  · have h := o_t q1 h
    exact z_sub [0, 1, 3, 5, 6] rfl (k_X12_read_169 C hlk hr h)
  · have h := o_f q1 h
    refine z_iload 5 C d_X12_read_52 rfl ?_
    refine z_if_ne C d_X12_read_54 (fun q2 => ?_) (fun q2 => ?_)
    · have h := o_f q2 h
      exact z_sub [0, 1, 3, 5, 6] rfl (k_X12_read_169 C hlk hr h)
    · have h := o_t q2 h
      refine z_aload_n 0 C d_X12_read_57 rfl rfl ?_
      refine z_get (k := 32) (v := .ref (gB G + 16)) C (eY_0 _ _) (by decide) rfl inX12 (by decide) wf_X12_63 rfl d_X12_read_58 ?_
      refine z_iload_n 1 C d_X12_read_61 rfl rfl ?_
      obtain ⟨q3, h⟩ := o_ck h
      refine z_ald (eY_16 _ _) C (by decide) q3 d_X12_read_62 ?_
      refine z_bipush (v := (-4 : Int32)) C d_X12_read_63 (by decide) ?_
      refine z_icmp_ne C d_X12_read_65 (fun q4 => ?_) (fun q4 => ?_)
      · have h := o_f q4 h
        refine z_aload_n 0 C d_X12_read_72 rfl rfl ?_
        refine z_get (k := 32) (v := .ref (gB G + 16)) C (eY_0 _ _) (by decide) rfl inX12 (by decide) wf_X12_63 rfl d_X12_read_73 ?_
        refine z_iload_n 1 C d_X12_read_76 rfl rfl ?_
        refine z_ald (eY_16 _ _) C (by decide) q3 d_X12_read_77 ?_
        refine z_iload_n 2 C d_X12_read_78 rfl rfl ?_
        refine z_icmp_eq C d_X12_read_79 (fun q5 => ?_) (fun q5 => ?_)
        · have h := o_t q5 h
          refine z_iload_n 3 C d_X12_read_86 rfl rfl ?_
          refine z_i2l C d_X12_read_87 ?_
          refine z_iload 6 C d_X12_read_88 rfl ?_
          refine z_i2l C d_X12_read_90 ?_
          refine z_ladd C d_X12_read_91 ?_
          refine z_lconst (v := (0 : Int64)) C d_X12_read_92 (by decide) ?_
          refine z_aload_n 0 C d_X12_read_93 rfl rfl ?_
          refine z_get (k := 33) (v := .ref (gB G + 17)) C (eY_0 _ _) (by decide) rfl inX12 (by decide) wf_X12_66 rfl d_X12_read_94 ?_
          refine z_iload_n 1 C d_X12_read_97 rfl rfl ?_
          refine z_ald (eY_17 _ _) C (by decide) q3 d_X12_read_98 ?_
          refine z_iconst (v := (1 : Int32)) C d_X12_read_99 (by decide) ?_
          refine z_isub C d_X12_read_100 ?_
          refine z_i2l C d_X12_read_101 ?_
          obtain ⟨p7, e6, h⟩ := o_bd h
          refine z_S (S := []) (As := [.long (x3.toInt64 + x6.toInt64), .long (0 : Int64), .long (((M.1 17 x1.toNatClampNeg) - (1 : Int32)).toInt64)]) C (c_X12_in l G (M := M) e6) wc_X12_in wm_X12_75 ws_X12_in wi_X12 hy_X12_in ⟨Nat.le_of_ble_eq_true rfl, Nat.le_of_ble_eq_true rfl⟩ rfl rfl (Nat.le_of_ble_eq_true rfl) d_X12_read_102 ?_
          refine z_if_ne C d_X12_read_105 (fun q8 => ?_) (fun q8 => ?_)
          · have h := o_f q8 h
            refine z_iconst (v := (0 : Int32)) C d_X12_read_112 (by decide) ?_
            exact z_sub [0, 1, 2, 3, 4, 6] rfl (k_X12_read_113 C hlk hr hk45 h)
          · have h := o_t q8 h
            refine z_iconst (v := (2 : Int32)) C d_X12_read_108 (by decide) ?_
            refine z_goto C d_X12_read_109 ?_
            exact z_sub [0, 1, 2, 3, 4, 6] rfl (k_X12_read_113 C hlk hr hk45 h)
        · have h := o_f q5 h
          refine z_iconst (v := (3 : Int32)) C d_X12_read_82 (by decide) ?_
          refine z_goto C d_X12_read_83 ?_
          exact z_sub [0, 1, 2, 3, 4, 6] rfl (k_X12_read_113 C hlk hr hk45 h)
      · have h := o_t q4 h
        refine z_iconst (v := (1 : Int32)) C d_X12_read_68 (by decide) ?_
        refine z_goto C d_X12_read_69 ?_
        exact z_sub [0, 1, 2, 3, 4, 6] rfl (k_X12_read_113 C hlk hr hk45 h)
theorem k_X12_read_45 {p : Program} {l : Launch} {e : Env} {s : State} {m : MethodId} {args : Array Value} {below : List Frame} {meth : Method} {c : Code} {G : GG} {M : Mm} {x1 : Int32} {x2 : Int32} {x3 : Int32} {x4 : Int32} {r : Int32} {M2 : Mm} (C : CX p s m args c prog_14_method_83_code 8 "SnowSentriesModel" 1 G) (hlk : meth.locks = false) (hr : meth.sig.returnType = (some .int)) : ∀ (n : Nat) (x5 : Int32) (x6 : Int32), f_X12_read_45 M x1 x2 x3 x4 n x5 x6 = some (r, M2) → Z p l e { frames := 1, cells := 0, slots := 0, locals := 25 } s m args below meth c 1 G 8 (MQ below (QC 1 G (some (.int r)) M2) args s 0 0 (AU 1 G)) 45 [(0, .ref (gB G + 0)), (1, .int x1), (2, .int x2), (3, .int x3), (4, .int x4), (5, .int x5), (6, .int x6)] [] M := by
  intro n
  induction n with
  | zero =>
    intro x5 x6  h
    exact absurd h (fun z => by cases z)
  | succ n ih =>
    intro x5 x6  h
    exact kb_X12_read_45 C hlk hr  (fun x5 x6 h => ih x5 x6 h) h
set_option maxRecDepth 4000 in
theorem k_X12_read_0 {p : Program} {l : Launch} {e : Env} {s : State} {m : MethodId} {args : Array Value} {below : List Frame} {meth : Method} {c : Code} {G : GG} {M : Mm} {x1 : Int32} {x2 : Int32} {x3 : Int32} {x4 : Int32} {r : Int32} {M2 : Mm} (C : CX p s m args c prog_14_method_83_code 8 "SnowSentriesModel" 1 G) (hlk : meth.locks = false) (hr : meth.sig.returnType = (some .int)) : f_X12_read M x1 x2 x3 x4 = some (r, M2) → Z p l e { frames := 1, cells := 0, slots := 0, locals := 25 } s m args below meth c 1 G 8 (MQ below (QC 1 G (some (.int r)) M2) args s 0 0 (AU 1 G)) 0 [(0, .ref (gB G + 0)), (1, .int x1), (2, .int x2), (3, .int x3), (4, .int x4)] [] M := by
  intro h
  unfold f_X12_read at h
  refine z_iload_n 1 C d_X12_read_0 rfl rfl ?_
  refine z_i2l C d_X12_read_1 ?_
  refine z_lconst (v := (0 : Int64)) C d_X12_read_2 (by decide) ?_
  refine z_ldc2 (v := (3 : Int64)) C wk_X12_204 d_X12_read_3 ?_
  obtain ⟨p2, e1, h⟩ := o_bd h
  refine z_S (S := []) (As := [.long x1.toInt64, .long (0 : Int64), .long (3 : Int64)]) C (c_X12_in l G (M := M) e1) wc_X12_in wm_X12_75 ws_X12_in wi_X12 hy_X12_in ⟨Nat.le_of_ble_eq_true rfl, Nat.le_of_ble_eq_true rfl⟩ rfl rfl (Nat.le_of_ble_eq_true rfl) d_X12_read_6 ?_
  refine z_if_eq C d_X12_read_9 (fun q3 => ?_) (fun q3 => ?_)
  · have h := o_t q3 h
    exact z_sub [] rfl (k_X12_read_37 C hlk hr h)
  · have h := o_f q3 h
    refine z_iload_n 2 C d_X12_read_12 rfl rfl ?_
    refine z_i2l C d_X12_read_13 ?_
    refine z_lconst (v := (0 : Int64)) C d_X12_read_14 (by decide) ?_
    refine z_ldc2 (v := (2 : Int64)) C wk_X12_188 d_X12_read_15 ?_
    obtain ⟨p5, e4, h⟩ := o_bd h
    refine z_S (S := []) (As := [.long x2.toInt64, .long (0 : Int64), .long (2 : Int64)]) C (c_X12_in l G (M := M) e4) wc_X12_in wm_X12_75 ws_X12_in wi_X12 hy_X12_in ⟨Nat.le_of_ble_eq_true rfl, Nat.le_of_ble_eq_true rfl⟩ rfl rfl (Nat.le_of_ble_eq_true rfl) d_X12_read_18 ?_
    refine z_if_eq C d_X12_read_21 (fun q6 => ?_) (fun q6 => ?_)
    · have h := o_t q6 h
      exact z_sub [] rfl (k_X12_read_37 C hlk hr h)
    · have h := o_f q6 h
      refine z_iload 4 C d_X12_read_24 rfl ?_
      refine z_i2l C d_X12_read_26 ?_
      refine z_lconst (v := (0 : Int64)) C d_X12_read_27 (by decide) ?_
      refine z_ldc2 (v := (12 : Int64)) C wk_X12_243 d_X12_read_28 ?_
      obtain ⟨p8, e7, h⟩ := o_bd h
      refine z_S (S := []) (As := [.long x4.toInt64, .long (0 : Int64), .long (12 : Int64)]) C (c_X12_in l G (M := M) e7) wc_X12_in wm_X12_75 ws_X12_in wi_X12 hy_X12_in ⟨Nat.le_of_ble_eq_true rfl, Nat.le_of_ble_eq_true rfl⟩ rfl rfl (Nat.le_of_ble_eq_true rfl) d_X12_read_31 ?_
      refine z_if_ne C d_X12_read_34 (fun q9 => ?_) (fun q9 => ?_)
      · have h := o_f q9 h
        refine z_iconst (v := (0 : Int32)) C d_X12_read_39 (by decide) ?_
        refine z_istore (L' := [(5, .int (0 : Int32)), (0, .ref (gB G + 0)), (1, .int x1), (2, .int x2), (3, .int x3), (4, .int x4)]) C d_X12_read_40 (by decide) rfl ?_
        refine z_iconst (v := (0 : Int32)) C d_X12_read_42 (by decide) ?_
        refine z_istore (L' := [(6, .int (0 : Int32)), (5, .int (0 : Int32)), (0, .ref (gB G + 0)), (1, .int x1), (2, .int x2), (3, .int x3), (4, .int x4)]) C d_X12_read_43 (by decide) rfl ?_
        exact z_sub [2, 3, 4, 5, 6, 1, 0] rfl (k_X12_read_45 C hlk hr _ _ _ h)
      · have h := o_t q9 h
        exact z_sub [] rfl (k_X12_read_37 C hlk hr h)
theorem c_X12_read (l : Launch) (G : GG) {M : Mm} {x1 : Int32} {x2 : Int32} {x3 : Int32} {x4 : Int32} {r : Int32} {M2 : Mm} (h : f_X12_read M x1 x2 x3 x4 = some (r, M2)) : CT l 1 G y_X12_read prog_14_method_83_code 8 (some .int) 1 25 [.ref (gB G + 0), .int x1, .int x2, .int x3, .int x4] M (some (.int r)) M2 :=
  CT.of (by decide +kernel) (Nat.le_of_ble_eq_true rfl) rfl (fun p e s m args below meth c C hlk hr => k_X12_read_0 C hlk hr h)
-- SnowSentriesModel.torn()I
set_option maxRecDepth 4000 in
theorem k_X12_torn_0 {p : Program} {l : Launch} {e : Env} {s : State} {m : MethodId} {args : Array Value} {below : List Frame} {meth : Method} {c : Code} {G : GG} {M : Mm} {r : Int32} (C : CX p s m args c prog_14_method_84_code 1 "SnowSentriesModel" 1 G) (hlk : meth.locks = false) (hr : meth.sig.returnType = (some .int)) : f_X12_torn M = some r → Z p l e { frames := 0, cells := 0, slots := 0, locals := 0 } s m args below meth c 1 G 1 (MQ below (QC 1 G (some (.int r)) M) args s 0 0 (AU 1 G)) 0 [(0, .ref (gB G + 0))] [] M := by
  intro h
  unfold f_X12_torn at h
  refine z_aload_n 0 C d_X12_torn_0 rfl rfl ?_
  refine z_get (k := 35) (v := .int (M.1 0 35)) C (eY_0 _ _) (by decide) rfl inX12 (by decide) wf_X12_289 rfl d_X12_torn_1 ?_
  obtain rfl := o_some h
  exact z_iret C hlk hr d_X12_torn_4
theorem c_X12_torn (l : Launch) (G : GG) {M : Mm} {r : Int32} (h : f_X12_torn M = some r) : CT l 1 G y_X12_torn prog_14_method_84_code 1 (some .int) 0 0 [.ref (gB G + 0)] M (some (.int r)) M :=
  CT.of (by decide +kernel) (Nat.le_of_ble_eq_true rfl) rfl (fun p e s m args below meth c C hlk hr => k_X12_torn_0 C hlk hr h)
-- SnowSentriesModel.count(I)I
set_option maxRecDepth 4000 in
theorem k_X12_count_121 {p : Program} {l : Launch} {e : Env} {s : State} {m : MethodId} {args : Array Value} {below : List Frame} {meth : Method} {c : Code} {G : GG} {M : Mm} {s_0 : Int32} {s_1 : Int32} {r : Int32} (C : CX p s m args c prog_14_method_85_code 4 "SnowSentriesModel" 1 G) (hlk : meth.locks = false) (hr : meth.sig.returnType = (some .int)) : f_X12_count_121 M s_0 s_1 = some r → Z p l e { frames := 0, cells := 0, slots := 0, locals := 0 } s m args below meth c 1 G 4 (MQ below (QC 1 G (some (.int r)) M) args s 0 0 (AU 1 G)) 121 [] [.int s_1, .int s_0] M := by
  intro h
  unfold f_X12_count_121 at h
  refine z_iadd C d_X12_count_121 ?_
  obtain rfl := o_some h
  exact z_iret C hlk hr d_X12_count_122
set_option maxRecDepth 4000 in
theorem k_X12_count_107 {p : Program} {l : Launch} {e : Env} {s : State} {m : MethodId} {args : Array Value} {below : List Frame} {meth : Method} {c : Code} {G : GG} {M : Mm} {s_0 : Int32} {r : Int32} (C : CX p s m args c prog_14_method_85_code 4 "SnowSentriesModel" 1 G) (hlk : meth.locks = false) (hr : meth.sig.returnType = (some .int)) : f_X12_count_107 M s_0 = some r → Z p l e { frames := 0, cells := 0, slots := 0, locals := 0 } s m args below meth c 1 G 4 (MQ below (QC 1 G (some (.int r)) M) args s 0 0 (AU 1 G)) 107 [(0, .ref (gB G + 0))] [.int s_0] M := by
  intro h
  unfold f_X12_count_107 at h
  refine z_aload_n 0 C d_X12_count_107 rfl rfl ?_
  refine z_get (k := 31) (v := .ref (gB G + 15)) C (eY_0 _ _) (by decide) rfl inX12 (by decide) wf_X12_59 rfl d_X12_count_108 ?_
  refine z_iconst (v := (1 : Int32)) C d_X12_count_111 (by decide) ?_
  refine z_zld (eY_15 _ _) C (by decide) (show inn (1 : Int32) 2 from by decide) d_X12_count_112 ?_
  refine z_if_eq C d_X12_count_113 (fun q1 => ?_) (fun q1 => ?_)
  · have h := o_t q1 h
    refine z_iconst (v := (0 : Int32)) C d_X12_count_120 (by decide) ?_
    exact z_sub [] rfl (k_X12_count_121 C hlk hr h)
  · have h := o_f q1 h
    refine z_iconst (v := (1 : Int32)) C d_X12_count_116 (by decide) ?_
    refine z_goto C d_X12_count_117 ?_
    exact z_sub [] rfl (k_X12_count_121 C hlk hr h)
set_option maxRecDepth 4000 in
theorem k_X12_count_150 {p : Program} {l : Launch} {e : Env} {s : State} {m : MethodId} {args : Array Value} {below : List Frame} {meth : Method} {c : Code} {G : GG} {M : Mm} {s_0 : Int32} {r : Int32} (C : CX p s m args c prog_14_method_85_code 4 "SnowSentriesModel" 1 G) (hlk : meth.locks = false) (hr : meth.sig.returnType = (some .int)) : f_X12_count_150 M s_0 = some r → Z p l e { frames := 0, cells := 0, slots := 0, locals := 0 } s m args below meth c 1 G 4 (MQ below (QC 1 G (some (.int r)) M) args s 0 0 (AU 1 G)) 150 [] [.int s_0] M := by
  intro h
  unfold f_X12_count_150 at h
  obtain rfl := o_some h
  exact z_iret C hlk hr d_X12_count_150
set_option maxRecDepth 4000 in
theorem k_X12_count_28 {p : Program} {l : Launch} {e : Env} {s : State} {m : MethodId} {args : Array Value} {below : List Frame} {meth : Method} {c : Code} {G : GG} {M : Mm} {x1 : Int32} {x2 : Int32} {r : Int32} (C : CX p s m args c prog_14_method_85_code 4 "SnowSentriesModel" 1 G) (hlk : meth.locks = false) (hr : meth.sig.returnType = (some .int)) : f_X12_count_28 M x1 x2 = some r → Z p l e { frames := 0, cells := 0, slots := 0, locals := 0 } s m args below meth c 1 G 4 (MQ below (QC 1 G (some (.int r)) M) args s 0 0 (AU 1 G)) 28 [(0, .ref (gB G + 0)), (1, .int x1), (2, .int x2)] [] M := by
  intro h
  unfold f_X12_count_28 at h
  refine z_iload_n 1 C d_X12_count_28 rfl rfl ?_
  rcases Decidable.em (x1 = (0 : Int32)) with q1 | q1
  · have h := o_t q1 h
    refine z_tsw (tgt := 72) C d_X12_count_29 (Or.inr ⟨43, by rw [q1]; decide, by rw [q1]; decide, by rw [q1]; decide, by decide⟩) ?_
    refine z_iload_n 2 C d_X12_count_72 rfl rfl ?_
    obtain rfl := o_some h
    exact z_iret C hlk hr d_X12_count_73
  · have h := o_f q1 h
    rcases Decidable.em (x1 = (1 : Int32)) with q2 | q2
    · have h := o_t q2 h
      refine z_tsw (tgt := 74) C d_X12_count_29 (Or.inr ⟨45, by rw [q2]; decide, by rw [q2]; decide, by rw [q2]; decide, by decide⟩) ?_
      refine z_aload_n 0 C d_X12_count_74 rfl rfl ?_
      refine z_get (k := 0) (v := .ref (gB G + 1)) C (eY_0 _ _) (by decide) rfl inX12 (by decide) wf_X12_7 rfl d_X12_count_75 ?_
      refine z_sipush (v := (207 : Int32)) C d_X12_count_78 (by decide) ?_
      refine z_ald (eY_1 _ _) C (by decide) (show inn (207 : Int32) 840 from by decide) d_X12_count_81 ?_
      obtain rfl := o_some h
      exact z_iret C hlk hr d_X12_count_82
    · have h := o_f q2 h
      rcases Decidable.em (x1 = (2 : Int32)) with q3 | q3
      · have h := o_t q3 h
        refine z_tsw (tgt := 83) C d_X12_count_29 (Or.inr ⟨54, by rw [q3]; decide, by rw [q3]; decide, by rw [q3]; decide, by decide⟩) ?_
        refine z_aload_n 0 C d_X12_count_83 rfl rfl ?_
        refine z_get (k := 5) (v := .int (M.1 0 5)) C (eY_0 _ _) (by decide) rfl inX12 (by decide) wf_X12_170 rfl d_X12_count_84 ?_
        obtain rfl := o_some h
        exact z_iret C hlk hr d_X12_count_87
      · have h := o_f q3 h
        rcases Decidable.em (x1 = (3 : Int32)) with q4 | q4
        · have h := o_t q4 h
          refine z_tsw (tgt := 88) C d_X12_count_29 (Or.inr ⟨59, by rw [q4]; decide, by rw [q4]; decide, by rw [q4]; decide, by decide⟩) ?_
          refine z_aload_n 0 C d_X12_count_88 rfl rfl ?_
          refine z_get (k := 30) (v := .int (M.1 0 30)) C (eY_0 _ _) (by decide) rfl inX12 (by decide) wf_X12_173 rfl d_X12_count_89 ?_
          obtain rfl := o_some h
          exact z_iret C hlk hr d_X12_count_92
        · have h := o_f q4 h
          rcases Decidable.em (x1 = (4 : Int32)) with q5 | q5
          · have h := o_t q5 h
            refine z_tsw (tgt := 93) C d_X12_count_29 (Or.inr ⟨64, by rw [q5]; decide, by rw [q5]; decide, by rw [q5]; decide, by decide⟩) ?_
            refine z_aload_n 0 C d_X12_count_93 rfl rfl ?_
            refine z_get (k := 31) (v := .ref (gB G + 15)) C (eY_0 _ _) (by decide) rfl inX12 (by decide) wf_X12_59 rfl d_X12_count_94 ?_
            refine z_iconst (v := (0 : Int32)) C d_X12_count_97 (by decide) ?_
            refine z_zld (eY_15 _ _) C (by decide) (show inn (0 : Int32) 2 from by decide) d_X12_count_98 ?_
            refine z_if_eq C d_X12_count_99 (fun q6 => ?_) (fun q6 => ?_)
            · have h := o_t q6 h
              refine z_iconst (v := (0 : Int32)) C d_X12_count_106 (by decide) ?_
              exact z_sub [0] rfl (k_X12_count_107 C hlk hr h)
            · have h := o_f q6 h
              refine z_iconst (v := (1 : Int32)) C d_X12_count_102 (by decide) ?_
              refine z_goto C d_X12_count_103 ?_
              exact z_sub [0] rfl (k_X12_count_107 C hlk hr h)
          · have h := o_f q5 h
            rcases Decidable.em (x1 = (5 : Int32)) with q7 | q7
            · have h := o_t q7 h
              refine z_tsw (tgt := 123) C d_X12_count_29 (Or.inr ⟨94, by rw [q7]; decide, by rw [q7]; decide, by rw [q7]; decide, by decide⟩) ?_
              refine z_aload_n 0 C d_X12_count_123 rfl rfl ?_
              refine z_get (k := 17) (v := .int (M.1 0 17)) C (eY_0 _ _) (by decide) rfl inX12 (by decide) wf_X12_72 rfl d_X12_count_124 ?_
              obtain rfl := o_some h
              exact z_iret C hlk hr d_X12_count_127
            · have h := o_f q7 h
              rcases Decidable.em (x1 = (6 : Int32)) with q8 | q8
              · have h := o_t q8 h
                refine z_tsw (tgt := 128) C d_X12_count_29 (Or.inr ⟨99, by rw [q8]; decide, by rw [q8]; decide, by rw [q8]; decide, by decide⟩) ?_
                refine z_aload_n 0 C d_X12_count_128 rfl rfl ?_
                refine z_get (k := 32) (v := .ref (gB G + 16)) C (eY_0 _ _) (by decide) rfl inX12 (by decide) wf_X12_63 rfl d_X12_count_129 ?_
                refine z_iconst (v := (0 : Int32)) C d_X12_count_132 (by decide) ?_
                refine z_ald (eY_16 _ _) C (by decide) (show inn (0 : Int32) 4 from by decide) d_X12_count_133 ?_
                refine z_bipush (v := (-4 : Int32)) C d_X12_count_134 (by decide) ?_
                refine z_icmp_ne C d_X12_count_136 (fun q9 => ?_) (fun q9 => ?_)
                · have h := o_f q9 h
                  refine z_aload_n 0 C d_X12_count_144 rfl rfl ?_
                  refine z_get (k := 33) (v := .ref (gB G + 17)) C (eY_0 _ _) (by decide) rfl inX12 (by decide) wf_X12_66 rfl d_X12_count_145 ?_
                  refine z_iconst (v := (0 : Int32)) C d_X12_count_148 (by decide) ?_
                  refine z_ald (eY_17 _ _) C (by decide) (show inn (0 : Int32) 4 from by decide) d_X12_count_149 ?_
                  exact z_sub [] rfl (k_X12_count_150 C hlk hr h)
                · have h := o_t q9 h
                  refine z_bipush (v := (-4 : Int32)) C d_X12_count_139 (by decide) ?_
                  refine z_goto C d_X12_count_141 ?_
                  exact z_sub [] rfl (k_X12_count_150 C hlk hr h)
              · have h := o_f q8 h
                have nq1 := lv_neT (a := 0) q1 (by decide)
                have nq2 := lv_neT (a := 1) q2 (by decide)
                have nq3 := lv_neT (a := 2) q3 (by decide)
                have nq4 := lv_neT (a := 3) q4 (by decide)
                have nq5 := lv_neT (a := 4) q5 (by decide)
                have nq7 := lv_neT (a := 5) q7 (by decide)
                have nq8 := lv_neT (a := 6) q8 (by decide)
                refine z_tsw (tgt := 151) C d_X12_count_29 (Or.inl ⟨by omega, by decide⟩) ?_
                refine z_iconst (v := (-1 : Int32)) C d_X12_count_151 (by decide) ?_
                obtain rfl := o_some h
                exact z_iret C hlk hr d_X12_count_152
set_option maxRecDepth 4000 in
theorem kb_X12_count_4 {p : Program} {l : Launch} {e : Env} {s : State} {m : MethodId} {args : Array Value} {below : List Frame} {meth : Method} {c : Code} {G : GG} {k4 : Int32 → Int32 → Option Int32} {M : Mm} {x1 : Int32} {x2 : Int32} {x3 : Int32} {r : Int32} (C : CX p s m args c prog_14_method_85_code 4 "SnowSentriesModel" 1 G) (hlk : meth.locks = false) (hr : meth.sig.returnType = (some .int)) (hk4 : ∀ (x2 : Int32) (x3 : Int32), k4 x2 x3 = some r → Z p l e { frames := 0, cells := 0, slots := 0, locals := 0 } s m args below meth c 1 G 4 (MQ below (QC 1 G (some (.int r)) M) args s 0 0 (AU 1 G)) 4 [(0, .ref (gB G + 0)), (1, .int x1), (2, .int x2), (3, .int x3)] [] M) : b_X12_count_4 k4 M x1 x2 x3 = some r → Z p l e { frames := 0, cells := 0, slots := 0, locals := 0 } s m args below meth c 1 G 4 (MQ below (QC 1 G (some (.int r)) M) args s 0 0 (AU 1 G)) 4 [(0, .ref (gB G + 0)), (1, .int x1), (2, .int x2), (3, .int x3)] [] M := by
  intro h
  unfold b_X12_count_4 at h
  refine z_iload_n 3 C d_X12_count_4 rfl rfl ?_
  refine z_bipush (v := (20 : Int32)) C d_X12_count_5 (by decide) ?_
  refine z_icmp_ge C d_X12_count_7 (fun q1 => ?_) (fun q1 => ?_)
  · have h := o_t q1 h
    exact z_sub [0, 1, 2] rfl (k_X12_count_28 C hlk hr h)
  · have h := o_f q1 h
    refine z_iload_n 2 C d_X12_count_10 rfl rfl ?_
    refine z_aload_n 0 C d_X12_count_11 rfl rfl ?_
    refine z_get (k := 0) (v := .ref (gB G + 1)) C (eY_0 _ _) (by decide) rfl inX12 (by decide) wf_X12_7 rfl d_X12_count_12 ?_
    refine z_bipush (v := (7 : Int32)) C d_X12_count_15 (by decide) ?_
    refine z_iload_n 3 C d_X12_count_17 rfl rfl ?_
    refine z_imul C d_X12_count_18 ?_
    obtain ⟨q2, h⟩ := o_ck h
    refine z_ald (eY_1 _ _) C (by decide) q2 d_X12_count_19 ?_
    refine z_iadd C d_X12_count_20 ?_
    obtain ⟨v3, e4, h⟩ := o_nm h
    refine z_nI e4 ?_
    refine z_istore_n (L' := [(2, .int v3), (0, .ref (gB G + 0)), (1, .int x1), (3, .int x3)]) C d_X12_count_21 rfl (by decide) rfl ?_
    refine z_iinc (v := (1 : Int32)) (L' := [(3, .int (x3 + (1 : Int32))), (2, .int v3), (0, .ref (gB G + 0)), (1, .int x1)]) 3 C d_X12_count_22 rfl (by decide) (by decide) rfl ?_
    refine z_goto C d_X12_count_25 ?_
    exact z_sub [2, 3, 1, 0] rfl (hk4 _ _  h)
theorem k_X12_count_4 {p : Program} {l : Launch} {e : Env} {s : State} {m : MethodId} {args : Array Value} {below : List Frame} {meth : Method} {c : Code} {G : GG} {M : Mm} {x1 : Int32} {r : Int32} (C : CX p s m args c prog_14_method_85_code 4 "SnowSentriesModel" 1 G) (hlk : meth.locks = false) (hr : meth.sig.returnType = (some .int)) : ∀ (n : Nat) (x2 : Int32) (x3 : Int32), f_X12_count_4 M x1 n x2 x3 = some r → Z p l e { frames := 0, cells := 0, slots := 0, locals := 0 } s m args below meth c 1 G 4 (MQ below (QC 1 G (some (.int r)) M) args s 0 0 (AU 1 G)) 4 [(0, .ref (gB G + 0)), (1, .int x1), (2, .int x2), (3, .int x3)] [] M := by
  intro n
  induction n with
  | zero =>
    intro x2 x3  h
    exact absurd h (fun z => by cases z)
  | succ n ih =>
    intro x2 x3  h
    exact kb_X12_count_4 C hlk hr  (fun x2 x3 h => ih x2 x3 h) h
set_option maxRecDepth 4000 in
theorem k_X12_count_0 {p : Program} {l : Launch} {e : Env} {s : State} {m : MethodId} {args : Array Value} {below : List Frame} {meth : Method} {c : Code} {G : GG} {M : Mm} {x1 : Int32} {r : Int32} (C : CX p s m args c prog_14_method_85_code 4 "SnowSentriesModel" 1 G) (hlk : meth.locks = false) (hr : meth.sig.returnType = (some .int)) : f_X12_count M x1 = some r → Z p l e { frames := 0, cells := 0, slots := 0, locals := 0 } s m args below meth c 1 G 4 (MQ below (QC 1 G (some (.int r)) M) args s 0 0 (AU 1 G)) 0 [(0, .ref (gB G + 0)), (1, .int x1)] [] M := by
  intro h
  unfold f_X12_count at h
  refine z_iconst (v := (0 : Int32)) C d_X12_count_0 (by decide) ?_
  refine z_istore_n (L' := [(2, .int (0 : Int32)), (0, .ref (gB G + 0)), (1, .int x1)]) C d_X12_count_1 rfl (by decide) rfl ?_
  refine z_iconst (v := (0 : Int32)) C d_X12_count_2 (by decide) ?_
  refine z_istore_n (L' := [(3, .int (0 : Int32)), (2, .int (0 : Int32)), (0, .ref (gB G + 0)), (1, .int x1)]) C d_X12_count_3 rfl (by decide) rfl ?_
  exact z_sub [2, 3, 1, 0] rfl (k_X12_count_4 C hlk hr _ _ _ h)
theorem c_X12_count (l : Launch) (G : GG) {M : Mm} {x1 : Int32} {r : Int32} (h : f_X12_count M x1 = some r) : CT l 1 G y_X12_count prog_14_method_85_code 4 (some .int) 0 0 [.ref (gB G + 0), .int x1] M (some (.int r)) M :=
  CT.of (by decide +kernel) (Nat.le_of_ble_eq_true rfl) rfl (fun p e s m args below meth c C hlk hr => k_X12_count_0 C hlk hr h)
