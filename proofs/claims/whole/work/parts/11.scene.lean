def y_X7_manOf : MethodName := ⟨"SnowSentries$Scene", "manOf", "(II)LSnowSentries$Man;"⟩
def y_X7_wipe : MethodName := ⟨"SnowSentries$Scene", "wipe", "()V"⟩
def y_X7_meltOn : MethodName := ⟨"SnowSentries$Scene", "meltOn", "(II)V"⟩
def y_X7_freezeOn : MethodName := ⟨"SnowSentries$Scene", "freezeOn", "(II)V"⟩
def y_X7_become : MethodName := ⟨"SnowSentries$Scene", "become", "(LSnowSentries$Scene;)V"⟩
def y_X7_heatOn : MethodName := ⟨"SnowSentries$Scene", "heatOn", "(II)I"⟩
def y_X7_menInAll : MethodName := ⟨"SnowSentries$Scene", "menInAll", "()I"⟩
def y_X7_snowInAll : MethodName := ⟨"SnowSentries$Scene", "snowInAll", "()I"⟩
theorem wf_X7_11 : Cond.fieldLink "SnowSentries$Scene" 11 "SnowSentries$Scene" "men" "[LSnowSentries$Man;" ∈ TB := it_1 (List.mem_of_getElem? (i := 168) rfl) rfl
theorem wf_X7_17 : Cond.fieldLink "SnowSentries$Scene" 17 "SnowSentries$Scene" "snow" "[I" ∈ TB := it_1 (List.mem_of_getElem? (i := 169) rfl) rfl
theorem wm_X7_46 : Cond.methodLink "SnowSentries$Scene" 46 y_J7_fill_53178 ∈ TB := it_2 (List.mem_of_getElem? (i := 131) rfl) rfl
theorem wf_X7_21 : Cond.fieldLink "SnowSentries$Scene" 21 "SnowSentries$Scene" "water" "[I" ∈ TB := it_1 (List.mem_of_getElem? (i := 173) rfl) rfl
theorem wf_X7_24 : Cond.fieldLink "SnowSentries$Scene" 24 "SnowSentries$Scene" "lines" "[I" ∈ TB := it_1 (List.mem_of_getElem? (i := 175) rfl) rfl
theorem wf_X7_27 : Cond.fieldLink "SnowSentries$Scene" 27 "SnowSentries$Scene" "sun" "[I" ∈ TB := it_1 (List.mem_of_getElem? (i := 178) rfl) rfl
theorem wf_X7_33 : Cond.fieldLink "SnowSentries$Scene" 33 "SnowSentries$Scene" "fires" "LSnowSentries$Braziers;" ∈ TB := it_1 (List.mem_of_getElem? (i := 183) rfl) rfl
theorem wf_X7_52 : Cond.fieldLink "SnowSentries$Scene" 52 "SnowSentries$Braziers" "size" "I" ∈ TB := it_1 (List.mem_of_getElem? (i := 92) rfl) rfl
theorem wf_X7_42 : Cond.fieldLink "SnowSentries$Scene" 42 "SnowSentries$Man" "there" "Z" ∈ TB := it_1 (List.mem_of_getElem? (i := 120) rfl) rfl
theorem wf_X7_38 : Cond.fieldLink "SnowSentries$Scene" 38 "SnowSentries$Scene" "hour" "I" ∈ TB := it_1 (List.mem_of_getElem? (i := 163) rfl) rfl
theorem wm_X7_83 : Cond.methodLink "SnowSentries$Scene" 83 y_X6_lossBy ∈ TB := it_4 (List.mem_of_getElem? (i := 60) rfl) rfl
theorem wc_X6_lossBy : Cond.code y_X6_lossBy prog_8_method_4_code 3 (some .int) ∈ TB := it_4 (List.mem_of_getElem? (i := 63) rfl) rfl
theorem ws_X6_lossBy : Cond.instanceMethod y_X6_lossBy ∈ TB := it_4 (List.mem_of_getElem? (i := 61) rfl) rfl
theorem wi_X6 : Cond.initialized "SnowSentries$Man" ∈ TB := it_1 (List.mem_of_getElem? (i := 5) rfl) rfl
theorem hy_X6_lossBy : (y_X6_lossBy).cls ≠ "java/lang/invoke/MethodHandle" ∧ (y_X6_lossBy).cls ≠ "java/lang/invoke/VarHandle" ∧ (parseMethodDescriptor (y_X6_lossBy).desc).map (fun d => d.parameters.length) = some 2 := by decide +kernel
theorem wl_X6_lossBy : Cond.selects "SnowSentries$Man" y_X6_lossBy y_X6_lossBy ∈ TB := it_4 (List.mem_of_getElem? (i := 62) rfl) rfl
theorem wm_X7_86 : Cond.methodLink "SnowSentries$Scene" 86 y_X6_melt ∈ TB := it_4 (List.mem_of_getElem? (i := 67) rfl) rfl
theorem wc_X6_melt : Cond.code y_X6_melt prog_8_method_5_code 5 (some .int) ∈ TB := it_4 (List.mem_of_getElem? (i := 70) rfl) rfl
theorem ws_X6_melt : Cond.instanceMethod y_X6_melt ∈ TB := it_4 (List.mem_of_getElem? (i := 68) rfl) rfl
theorem hy_X6_melt : (y_X6_melt).cls ≠ "java/lang/invoke/MethodHandle" ∧ (y_X6_melt).cls ≠ "java/lang/invoke/VarHandle" ∧ (parseMethodDescriptor (y_X6_melt).desc).map (fun d => d.parameters.length) = some 1 := by decide +kernel
theorem wl_X6_melt : Cond.selects "SnowSentries$Man" y_X6_melt y_X6_melt ∈ TB := it_4 (List.mem_of_getElem? (i := 69) rfl) rfl
theorem wf_X7_90 : Cond.fieldLink "SnowSentries$Scene" 90 "SnowSentries$Man" "kind" "I" ∈ TB := it_1 (List.mem_of_getElem? (i := 125) rfl) rfl
theorem wf_X7_80 : Cond.fieldLink "SnowSentries$Scene" 80 "SnowSentries$Man" "head" "I" ∈ TB := it_1 (List.mem_of_getElem? (i := 137) rfl) rfl
theorem wm_X7_72 : Cond.methodLink "SnowSentries$Scene" 72 y_X6_snowOf ∈ TB := it_4 (List.mem_of_getElem? (i := 71) rfl) rfl
theorem wc_X6_snowOf : Cond.code y_X6_snowOf prog_8_method_3_code 1 (some .int) ∈ TB := it_4 (List.mem_of_getElem? (i := 74) rfl) rfl
theorem ws_X6_snowOf : Cond.instanceMethod y_X6_snowOf ∈ TB := it_4 (List.mem_of_getElem? (i := 72) rfl) rfl
theorem hy_X6_snowOf : (y_X6_snowOf).cls ≠ "java/lang/invoke/MethodHandle" ∧ (y_X6_snowOf).cls ≠ "java/lang/invoke/VarHandle" ∧ (parseMethodDescriptor (y_X6_snowOf).desc).map (fun d => d.parameters.length) = some 0 := by decide +kernel
theorem wl_X6_snowOf : Cond.selects "SnowSentries$Man" y_X6_snowOf y_X6_snowOf ∈ TB := it_4 (List.mem_of_getElem? (i := 73) rfl) rfl
theorem wm_X7_93 : Cond.methodLink "SnowSentries$Scene" 93 Lib.Math.min.name ∈ TB := it_4 (List.mem_of_getElem? (i := 75) rfl) rfl
theorem wm_X7_76 : Cond.methodLink "SnowSentries$Scene" 76 y_X7_manOf ∈ TB := it_4 (List.mem_of_getElem? (i := 59) rfl) rfl
theorem wc_X7_manOf : Cond.code y_X7_manOf prog_9_method_4_code 3 (some (.object "SnowSentries$Man")) ∈ TB := it_3 (List.mem_of_getElem? (i := 128) rfl) rfl
theorem ws_X7_manOf : Cond.instanceMethod y_X7_manOf ∈ TB := it_3 (List.mem_of_getElem? (i := 126) rfl) rfl
theorem wi_X7 : Cond.initialized "SnowSentries$Scene" ∈ TB := it_1 (List.mem_of_getElem? (i := 3) rfl) rfl
theorem hy_X7_manOf : (y_X7_manOf).cls ≠ "java/lang/invoke/MethodHandle" ∧ (y_X7_manOf).cls ≠ "java/lang/invoke/VarHandle" ∧ (parseMethodDescriptor (y_X7_manOf).desc).map (fun d => d.parameters.length) = some 2 := by decide +kernel
theorem wl_X7_manOf : Cond.selects "SnowSentries$Scene" y_X7_manOf y_X7_manOf ∈ TB := it_3 (List.mem_of_getElem? (i := 127) rfl) rfl
theorem wm_X7_68 : Cond.methodLink "SnowSentries$Scene" 68 y_X0_warmthOn ∈ TB := it_4 (List.mem_of_getElem? (i := 37) rfl) rfl
theorem wc_X0_warmthOn : Cond.code y_X0_warmthOn prog_2_method_6_code 5 (some .int) ∈ TB := it_4 (List.mem_of_getElem? (i := 40) rfl) rfl
theorem ws_X0_warmthOn : Cond.instanceMethod y_X0_warmthOn ∈ TB := it_4 (List.mem_of_getElem? (i := 38) rfl) rfl
theorem hy_X0_warmthOn : (y_X0_warmthOn).cls ≠ "java/lang/invoke/MethodHandle" ∧ (y_X0_warmthOn).cls ≠ "java/lang/invoke/VarHandle" ∧ (parseMethodDescriptor (y_X0_warmthOn).desc).map (fun d => d.parameters.length) = some 2 := by decide +kernel
theorem wl_X0_warmthOn : Cond.selects "SnowSentries$Braziers" y_X0_warmthOn y_X0_warmthOn ∈ TB := it_4 (List.mem_of_getElem? (i := 39) rfl) rfl
theorem wm_X7_59 : Cond.methodLink "SnowSentries$Scene" 59 arraycopyName ∈ TB := it_4 (List.mem_of_getElem? (i := 119) rfl) rfl
theorem wm_X7_65 : Cond.methodLink "SnowSentries$Scene" 65 y_X0_become ∈ TB := it_4 (List.mem_of_getElem? (i := 122) rfl) rfl
theorem wc_X0_become : Cond.code y_X0_become prog_2_method_5_code 2 none ∈ TB := it_4 (List.mem_of_getElem? (i := 125) rfl) rfl
theorem ws_X0_become : Cond.instanceMethod y_X0_become ∈ TB := it_4 (List.mem_of_getElem? (i := 123) rfl) rfl
theorem hy_X0_become : (y_X0_become).cls ≠ "java/lang/invoke/MethodHandle" ∧ (y_X0_become).cls ≠ "java/lang/invoke/VarHandle" ∧ (parseMethodDescriptor (y_X0_become).desc).map (fun d => d.parameters.length) = some 1 := by decide +kernel
theorem wl_X0_become : Cond.selects "SnowSentries$Braziers" y_X0_become y_X0_become ∈ TB := it_4 (List.mem_of_getElem? (i := 124) rfl) rfl
theorem wm_X7_55 : Cond.methodLink "SnowSentries$Scene" 55 y_X6_become ∈ TB := it_4 (List.mem_of_getElem? (i := 115) rfl) rfl
theorem wc_X6_become : Cond.code y_X6_become prog_8_method_2_code 2 none ∈ TB := it_4 (List.mem_of_getElem? (i := 118) rfl) rfl
theorem ws_X6_become : Cond.instanceMethod y_X6_become ∈ TB := it_4 (List.mem_of_getElem? (i := 116) rfl) rfl
theorem hy_X6_become : (y_X6_become).cls ≠ "java/lang/invoke/MethodHandle" ∧ (y_X6_become).cls ≠ "java/lang/invoke/VarHandle" ∧ (parseMethodDescriptor (y_X6_become).desc).map (fun d => d.parameters.length) = some 1 := by decide +kernel
theorem wl_X6_become : Cond.selects "SnowSentries$Man" y_X6_become y_X6_become ∈ TB := it_4 (List.mem_of_getElem? (i := 117) rfl) rfl
theorem d_X7_manOf_0 : DD prog_9_method_4_code 0 (.aload_n 0) 1 1 := ⟨by decide +kernel, rfl⟩
theorem d_X7_manOf_1 : DD prog_9_method_4_code 1 (.getfield 11) 3 4 := ⟨by decide +kernel, rfl⟩
theorem d_X7_manOf_4 : DD prog_9_method_4_code 4 (.iload_n 1) 1 5 := ⟨by decide +kernel, rfl⟩
theorem d_X7_manOf_5 : DD prog_9_method_4_code 5 (.bipush 10) 2 7 := ⟨by decide +kernel, rfl⟩
theorem d_X7_manOf_7 : DD prog_9_method_4_code 7 (.imul) 1 8 := ⟨by decide +kernel, rfl⟩
theorem d_X7_manOf_8 : DD prog_9_method_4_code 8 (.iload_n 2) 1 9 := ⟨by decide +kernel, rfl⟩
theorem d_X7_manOf_9 : DD prog_9_method_4_code 9 (.iadd) 1 10 := ⟨by decide +kernel, rfl⟩
theorem d_X7_manOf_10 : DD prog_9_method_4_code 10 (.aaload) 1 11 := ⟨by decide +kernel, rfl⟩
theorem d_X7_manOf_11 : DD prog_9_method_4_code 11 (.areturn) 1 12 := ⟨by decide +kernel, rfl⟩
theorem d_X7_wipe_0 : DD prog_9_method_2_code 0 (.aload_n 0) 1 1 := ⟨by decide +kernel, rfl⟩
theorem d_X7_wipe_1 : DD prog_9_method_2_code 1 (.iconst 0) 1 2 := ⟨by decide +kernel, rfl⟩
theorem d_X7_wipe_2 : DD prog_9_method_2_code 2 (.putfield 38) 3 5 := ⟨by decide +kernel, rfl⟩
theorem d_X7_wipe_5 : DD prog_9_method_2_code 5 (.iconst 0) 1 6 := ⟨by decide +kernel, rfl⟩
theorem d_X7_wipe_6 : DD prog_9_method_2_code 6 (.istore_n 1) 1 7 := ⟨by decide +kernel, rfl⟩
theorem d_X7_wipe_7 : DD prog_9_method_2_code 7 (.iload_n 1) 1 8 := ⟨by decide +kernel, rfl⟩
theorem d_X7_wipe_8 : DD prog_9_method_2_code 8 (.bipush 20) 2 10 := ⟨by decide +kernel, rfl⟩
theorem d_X7_wipe_10 : DJ prog_9_method_2_code 10 (fun o => .if_icmp .ge o) 29 3 13 := ⟨by decide +kernel, rfl⟩
theorem d_X7_wipe_13 : DD prog_9_method_2_code 13 (.aload_n 0) 1 14 := ⟨by decide +kernel, rfl⟩
theorem d_X7_wipe_14 : DD prog_9_method_2_code 14 (.getfield 11) 3 17 := ⟨by decide +kernel, rfl⟩
theorem d_X7_wipe_17 : DD prog_9_method_2_code 17 (.iload_n 1) 1 18 := ⟨by decide +kernel, rfl⟩
theorem d_X7_wipe_18 : DD prog_9_method_2_code 18 (.aaload) 1 19 := ⟨by decide +kernel, rfl⟩
theorem d_X7_wipe_19 : DD prog_9_method_2_code 19 (.iconst 0) 1 20 := ⟨by decide +kernel, rfl⟩
theorem d_X7_wipe_20 : DD prog_9_method_2_code 20 (.putfield 42) 3 23 := ⟨by decide +kernel, rfl⟩
theorem d_X7_wipe_23 : DD prog_9_method_2_code 23 (.iinc 1 1) 3 26 := ⟨by decide +kernel, rfl⟩
theorem d_X7_wipe_26 : DJ prog_9_method_2_code 26 (fun o => .goto o) 7 3 29 := ⟨by decide +kernel, rfl⟩
theorem d_X7_wipe_29 : DD prog_9_method_2_code 29 (.aload_n 0) 1 30 := ⟨by decide +kernel, rfl⟩
theorem d_X7_wipe_30 : DD prog_9_method_2_code 30 (.getfield 17) 3 33 := ⟨by decide +kernel, rfl⟩
theorem d_X7_wipe_33 : DD prog_9_method_2_code 33 (.iconst 0) 1 34 := ⟨by decide +kernel, rfl⟩
theorem d_X7_wipe_34 : DD prog_9_method_2_code 34 (.invokestatic 46) 3 37 := ⟨by decide +kernel, rfl⟩
theorem d_X7_wipe_37 : DD prog_9_method_2_code 37 (.aload_n 0) 1 38 := ⟨by decide +kernel, rfl⟩
theorem d_X7_wipe_38 : DD prog_9_method_2_code 38 (.getfield 21) 3 41 := ⟨by decide +kernel, rfl⟩
theorem d_X7_wipe_41 : DD prog_9_method_2_code 41 (.iconst 0) 1 42 := ⟨by decide +kernel, rfl⟩
theorem d_X7_wipe_42 : DD prog_9_method_2_code 42 (.invokestatic 46) 3 45 := ⟨by decide +kernel, rfl⟩
theorem d_X7_wipe_45 : DD prog_9_method_2_code 45 (.aload_n 0) 1 46 := ⟨by decide +kernel, rfl⟩
theorem d_X7_wipe_46 : DD prog_9_method_2_code 46 (.getfield 24) 3 49 := ⟨by decide +kernel, rfl⟩
theorem d_X7_wipe_49 : DD prog_9_method_2_code 49 (.iconst 0) 1 50 := ⟨by decide +kernel, rfl⟩
theorem d_X7_wipe_50 : DD prog_9_method_2_code 50 (.invokestatic 46) 3 53 := ⟨by decide +kernel, rfl⟩
theorem d_X7_wipe_53 : DD prog_9_method_2_code 53 (.aload_n 0) 1 54 := ⟨by decide +kernel, rfl⟩
theorem d_X7_wipe_54 : DD prog_9_method_2_code 54 (.getfield 27) 3 57 := ⟨by decide +kernel, rfl⟩
theorem d_X7_wipe_57 : DD prog_9_method_2_code 57 (.iconst 0) 1 58 := ⟨by decide +kernel, rfl⟩
theorem d_X7_wipe_58 : DD prog_9_method_2_code 58 (.invokestatic 46) 3 61 := ⟨by decide +kernel, rfl⟩
theorem d_X7_wipe_61 : DD prog_9_method_2_code 61 (.aload_n 0) 1 62 := ⟨by decide +kernel, rfl⟩
theorem d_X7_wipe_62 : DD prog_9_method_2_code 62 (.getfield 33) 3 65 := ⟨by decide +kernel, rfl⟩
theorem d_X7_wipe_65 : DD prog_9_method_2_code 65 (.iconst 0) 1 66 := ⟨by decide +kernel, rfl⟩
theorem d_X7_wipe_66 : DD prog_9_method_2_code 66 (.putfield 52) 3 69 := ⟨by decide +kernel, rfl⟩
theorem d_X7_wipe_69 : DD prog_9_method_2_code 69 (.return_) 1 70 := ⟨by decide +kernel, rfl⟩
theorem d_X7_meltOn_0 : DD prog_9_method_8_code 0 (.aload_n 0) 1 1 := ⟨by decide +kernel, rfl⟩
theorem d_X7_meltOn_1 : DD prog_9_method_8_code 1 (.getfield 33) 3 4 := ⟨by decide +kernel, rfl⟩
theorem d_X7_meltOn_4 : DD prog_9_method_8_code 4 (.iload_n 1) 1 5 := ⟨by decide +kernel, rfl⟩
theorem d_X7_meltOn_5 : DD prog_9_method_8_code 5 (.iload_n 2) 1 6 := ⟨by decide +kernel, rfl⟩
theorem d_X7_meltOn_6 : DD prog_9_method_8_code 6 (.invokevirtual 68) 3 9 := ⟨by decide +kernel, rfl⟩
theorem d_X7_meltOn_9 : DD prog_9_method_8_code 9 (.istore_n 3) 1 10 := ⟨by decide +kernel, rfl⟩
theorem d_X7_meltOn_10 : DD prog_9_method_8_code 10 (.iconst 0) 1 11 := ⟨by decide +kernel, rfl⟩
theorem d_X7_meltOn_11 : DD prog_9_method_8_code 11 (.istore 4) 2 13 := ⟨by decide +kernel, rfl⟩
theorem d_X7_meltOn_13 : DD prog_9_method_8_code 13 (.iconst 0) 1 14 := ⟨by decide +kernel, rfl⟩
theorem d_X7_meltOn_14 : DD prog_9_method_8_code 14 (.istore 5) 2 16 := ⟨by decide +kernel, rfl⟩
theorem d_X7_meltOn_16 : DD prog_9_method_8_code 16 (.iload 5) 2 18 := ⟨by decide +kernel, rfl⟩
theorem d_X7_meltOn_18 : DD prog_9_method_8_code 18 (.iconst 2) 1 19 := ⟨by decide +kernel, rfl⟩
theorem d_X7_meltOn_19 : DJ prog_9_method_8_code 19 (fun o => .if_icmp .ge o) 124 3 22 := ⟨by decide +kernel, rfl⟩
theorem d_X7_meltOn_22 : DD prog_9_method_8_code 22 (.aload_n 0) 1 23 := ⟨by decide +kernel, rfl⟩
theorem d_X7_meltOn_23 : DD prog_9_method_8_code 23 (.iload 5) 2 25 := ⟨by decide +kernel, rfl⟩
theorem d_X7_meltOn_25 : DD prog_9_method_8_code 25 (.iload_n 1) 1 26 := ⟨by decide +kernel, rfl⟩
theorem d_X7_meltOn_26 : DD prog_9_method_8_code 26 (.invokevirtual 76) 3 29 := ⟨by decide +kernel, rfl⟩
theorem d_X7_meltOn_29 : DD prog_9_method_8_code 29 (.astore 6) 2 31 := ⟨by decide +kernel, rfl⟩
theorem d_X7_meltOn_31 : DD prog_9_method_8_code 31 (.aload 6) 2 33 := ⟨by decide +kernel, rfl⟩
theorem d_X7_meltOn_33 : DD prog_9_method_8_code 33 (.getfield 42) 3 36 := ⟨by decide +kernel, rfl⟩
theorem d_X7_meltOn_36 : DJ prog_9_method_8_code 36 (fun o => .ifCond .eq o) 118 3 39 := ⟨by decide +kernel, rfl⟩
theorem d_X7_meltOn_39 : DD prog_9_method_8_code 39 (.aload 6) 2 41 := ⟨by decide +kernel, rfl⟩
theorem d_X7_meltOn_41 : DD prog_9_method_8_code 41 (.getfield 80) 3 44 := ⟨by decide +kernel, rfl⟩
theorem d_X7_meltOn_44 : DJ prog_9_method_8_code 44 (fun o => .ifCond .le o) 51 3 47 := ⟨by decide +kernel, rfl⟩
theorem d_X7_meltOn_47 : DD prog_9_method_8_code 47 (.iconst 1) 1 48 := ⟨by decide +kernel, rfl⟩
theorem d_X7_meltOn_48 : DJ prog_9_method_8_code 48 (fun o => .goto o) 52 3 51 := ⟨by decide +kernel, rfl⟩
theorem d_X7_meltOn_51 : DD prog_9_method_8_code 51 (.iconst 0) 1 52 := ⟨by decide +kernel, rfl⟩
theorem d_X7_meltOn_52 : DD prog_9_method_8_code 52 (.istore 7) 2 54 := ⟨by decide +kernel, rfl⟩
theorem d_X7_meltOn_54 : DD prog_9_method_8_code 54 (.aload_n 0) 1 55 := ⟨by decide +kernel, rfl⟩
theorem d_X7_meltOn_55 : DD prog_9_method_8_code 55 (.getfield 21) 3 58 := ⟨by decide +kernel, rfl⟩
theorem d_X7_meltOn_58 : DD prog_9_method_8_code 58 (.iload_n 1) 1 59 := ⟨by decide +kernel, rfl⟩
theorem d_X7_meltOn_59 : DD prog_9_method_8_code 59 (.dup2) 1 60 := ⟨by decide +kernel, rfl⟩
theorem d_X7_meltOn_60 : DD prog_9_method_8_code 60 (.iaload) 1 61 := ⟨by decide +kernel, rfl⟩
theorem d_X7_meltOn_61 : DD prog_9_method_8_code 61 (.aload 6) 2 63 := ⟨by decide +kernel, rfl⟩
theorem d_X7_meltOn_63 : DD prog_9_method_8_code 63 (.aload 6) 2 65 := ⟨by decide +kernel, rfl⟩
theorem d_X7_meltOn_65 : DD prog_9_method_8_code 65 (.iload_n 3) 1 66 := ⟨by decide +kernel, rfl⟩
theorem d_X7_meltOn_66 : DD prog_9_method_8_code 66 (.aload_n 0) 1 67 := ⟨by decide +kernel, rfl⟩
theorem d_X7_meltOn_67 : DD prog_9_method_8_code 67 (.getfield 27) 3 70 := ⟨by decide +kernel, rfl⟩
theorem d_X7_meltOn_70 : DD prog_9_method_8_code 70 (.iload_n 2) 1 71 := ⟨by decide +kernel, rfl⟩
theorem d_X7_meltOn_71 : DD prog_9_method_8_code 71 (.iaload) 1 72 := ⟨by decide +kernel, rfl⟩
theorem d_X7_meltOn_72 : DD prog_9_method_8_code 72 (.invokevirtual 83) 3 75 := ⟨by decide +kernel, rfl⟩
theorem d_X7_meltOn_75 : DD prog_9_method_8_code 75 (.invokevirtual 86) 3 78 := ⟨by decide +kernel, rfl⟩
theorem d_X7_meltOn_78 : DD prog_9_method_8_code 78 (.iadd) 1 79 := ⟨by decide +kernel, rfl⟩
theorem d_X7_meltOn_79 : DD prog_9_method_8_code 79 (.iastore) 1 80 := ⟨by decide +kernel, rfl⟩
theorem d_X7_meltOn_80 : DD prog_9_method_8_code 80 (.aload 6) 2 82 := ⟨by decide +kernel, rfl⟩
theorem d_X7_meltOn_82 : DD prog_9_method_8_code 82 (.getfield 90) 3 85 := ⟨by decide +kernel, rfl⟩
theorem d_X7_meltOn_85 : DD prog_9_method_8_code 85 (.iconst 4) 1 86 := ⟨by decide +kernel, rfl⟩
theorem d_X7_meltOn_86 : DJ prog_9_method_8_code 86 (fun o => .if_icmp .ne o) 118 3 89 := ⟨by decide +kernel, rfl⟩
theorem d_X7_meltOn_89 : DD prog_9_method_8_code 89 (.iload 7) 2 91 := ⟨by decide +kernel, rfl⟩
theorem d_X7_meltOn_91 : DJ prog_9_method_8_code 91 (fun o => .ifCond .eq o) 118 3 94 := ⟨by decide +kernel, rfl⟩
theorem d_X7_meltOn_94 : DD prog_9_method_8_code 94 (.aload 6) 2 96 := ⟨by decide +kernel, rfl⟩
theorem d_X7_meltOn_96 : DD prog_9_method_8_code 96 (.getfield 80) 3 99 := ⟨by decide +kernel, rfl⟩
theorem d_X7_meltOn_99 : DJ prog_9_method_8_code 99 (fun o => .ifCond .ne o) 118 3 102 := ⟨by decide +kernel, rfl⟩
theorem d_X7_meltOn_102 : DD prog_9_method_8_code 102 (.iload 4) 2 104 := ⟨by decide +kernel, rfl⟩
theorem d_X7_meltOn_104 : DD prog_9_method_8_code 104 (.aload 6) 2 106 := ⟨by decide +kernel, rfl⟩
theorem d_X7_meltOn_106 : DD prog_9_method_8_code 106 (.invokevirtual 72) 3 109 := ⟨by decide +kernel, rfl⟩
theorem d_X7_meltOn_109 : DD prog_9_method_8_code 109 (.iadd) 1 110 := ⟨by decide +kernel, rfl⟩
theorem d_X7_meltOn_110 : DD prog_9_method_8_code 110 (.istore 4) 2 112 := ⟨by decide +kernel, rfl⟩
theorem d_X7_meltOn_112 : DD prog_9_method_8_code 112 (.aload 6) 2 114 := ⟨by decide +kernel, rfl⟩
theorem d_X7_meltOn_114 : DD prog_9_method_8_code 114 (.iconst 0) 1 115 := ⟨by decide +kernel, rfl⟩
theorem d_X7_meltOn_115 : DD prog_9_method_8_code 115 (.putfield 42) 3 118 := ⟨by decide +kernel, rfl⟩
theorem d_X7_meltOn_118 : DD prog_9_method_8_code 118 (.iinc 5 1) 3 121 := ⟨by decide +kernel, rfl⟩
theorem d_X7_meltOn_121 : DJ prog_9_method_8_code 121 (fun o => .goto o) 16 3 124 := ⟨by decide +kernel, rfl⟩
theorem d_X7_meltOn_124 : DD prog_9_method_8_code 124 (.aload_n 0) 1 125 := ⟨by decide +kernel, rfl⟩
theorem d_X7_meltOn_125 : DD prog_9_method_8_code 125 (.getfield 17) 3 128 := ⟨by decide +kernel, rfl⟩
theorem d_X7_meltOn_128 : DD prog_9_method_8_code 128 (.iload_n 1) 1 129 := ⟨by decide +kernel, rfl⟩
theorem d_X7_meltOn_129 : DD prog_9_method_8_code 129 (.iaload) 1 130 := ⟨by decide +kernel, rfl⟩
theorem d_X7_meltOn_130 : DD prog_9_method_8_code 130 (.iload_n 3) 1 131 := ⟨by decide +kernel, rfl⟩
theorem d_X7_meltOn_131 : DD prog_9_method_8_code 131 (.aload_n 0) 1 132 := ⟨by decide +kernel, rfl⟩
theorem d_X7_meltOn_132 : DD prog_9_method_8_code 132 (.getfield 27) 3 135 := ⟨by decide +kernel, rfl⟩
theorem d_X7_meltOn_135 : DD prog_9_method_8_code 135 (.iload_n 2) 1 136 := ⟨by decide +kernel, rfl⟩
theorem d_X7_meltOn_136 : DD prog_9_method_8_code 136 (.iaload) 1 137 := ⟨by decide +kernel, rfl⟩
theorem d_X7_meltOn_137 : DD prog_9_method_8_code 137 (.iadd) 1 138 := ⟨by decide +kernel, rfl⟩
theorem d_X7_meltOn_138 : DD prog_9_method_8_code 138 (.invokestatic 93) 3 141 := ⟨by decide +kernel, rfl⟩
theorem d_X7_meltOn_141 : DD prog_9_method_8_code 141 (.istore 5) 2 143 := ⟨by decide +kernel, rfl⟩
theorem d_X7_meltOn_143 : DD prog_9_method_8_code 143 (.aload_n 0) 1 144 := ⟨by decide +kernel, rfl⟩
theorem d_X7_meltOn_144 : DD prog_9_method_8_code 144 (.getfield 21) 3 147 := ⟨by decide +kernel, rfl⟩
theorem d_X7_meltOn_147 : DD prog_9_method_8_code 147 (.iload_n 1) 1 148 := ⟨by decide +kernel, rfl⟩
theorem d_X7_meltOn_148 : DD prog_9_method_8_code 148 (.dup2) 1 149 := ⟨by decide +kernel, rfl⟩
theorem d_X7_meltOn_149 : DD prog_9_method_8_code 149 (.iaload) 1 150 := ⟨by decide +kernel, rfl⟩
theorem d_X7_meltOn_150 : DD prog_9_method_8_code 150 (.iload 5) 2 152 := ⟨by decide +kernel, rfl⟩
theorem d_X7_meltOn_152 : DD prog_9_method_8_code 152 (.iadd) 1 153 := ⟨by decide +kernel, rfl⟩
theorem d_X7_meltOn_153 : DD prog_9_method_8_code 153 (.iastore) 1 154 := ⟨by decide +kernel, rfl⟩
theorem d_X7_meltOn_154 : DD prog_9_method_8_code 154 (.aload_n 0) 1 155 := ⟨by decide +kernel, rfl⟩
theorem d_X7_meltOn_155 : DD prog_9_method_8_code 155 (.getfield 17) 3 158 := ⟨by decide +kernel, rfl⟩
theorem d_X7_meltOn_158 : DD prog_9_method_8_code 158 (.iload_n 1) 1 159 := ⟨by decide +kernel, rfl⟩
theorem d_X7_meltOn_159 : DD prog_9_method_8_code 159 (.dup2) 1 160 := ⟨by decide +kernel, rfl⟩
theorem d_X7_meltOn_160 : DD prog_9_method_8_code 160 (.iaload) 1 161 := ⟨by decide +kernel, rfl⟩
theorem d_X7_meltOn_161 : DD prog_9_method_8_code 161 (.iload 4) 2 163 := ⟨by decide +kernel, rfl⟩
theorem d_X7_meltOn_163 : DD prog_9_method_8_code 163 (.iload 5) 2 165 := ⟨by decide +kernel, rfl⟩
theorem d_X7_meltOn_165 : DD prog_9_method_8_code 165 (.isub) 1 166 := ⟨by decide +kernel, rfl⟩
theorem d_X7_meltOn_166 : DD prog_9_method_8_code 166 (.iadd) 1 167 := ⟨by decide +kernel, rfl⟩
theorem d_X7_meltOn_167 : DD prog_9_method_8_code 167 (.iastore) 1 168 := ⟨by decide +kernel, rfl⟩
theorem d_X7_meltOn_168 : DD prog_9_method_8_code 168 (.return_) 1 169 := ⟨by decide +kernel, rfl⟩
theorem d_X7_freezeOn_0 : DD prog_9_method_9_code 0 (.aload_n 0) 1 1 := ⟨by decide +kernel, rfl⟩
theorem d_X7_freezeOn_1 : DD prog_9_method_9_code 1 (.getfield 21) 3 4 := ⟨by decide +kernel, rfl⟩
theorem d_X7_freezeOn_4 : DD prog_9_method_9_code 4 (.iload_n 1) 1 5 := ⟨by decide +kernel, rfl⟩
theorem d_X7_freezeOn_5 : DD prog_9_method_9_code 5 (.iaload) 1 6 := ⟨by decide +kernel, rfl⟩
theorem d_X7_freezeOn_6 : DD prog_9_method_9_code 6 (.iload_n 2) 1 7 := ⟨by decide +kernel, rfl⟩
theorem d_X7_freezeOn_7 : DD prog_9_method_9_code 7 (.invokestatic 93) 3 10 := ⟨by decide +kernel, rfl⟩
theorem d_X7_freezeOn_10 : DD prog_9_method_9_code 10 (.istore_n 3) 1 11 := ⟨by decide +kernel, rfl⟩
theorem d_X7_freezeOn_11 : DD prog_9_method_9_code 11 (.aload_n 0) 1 12 := ⟨by decide +kernel, rfl⟩
theorem d_X7_freezeOn_12 : DD prog_9_method_9_code 12 (.getfield 21) 3 15 := ⟨by decide +kernel, rfl⟩
theorem d_X7_freezeOn_15 : DD prog_9_method_9_code 15 (.iload_n 1) 1 16 := ⟨by decide +kernel, rfl⟩
theorem d_X7_freezeOn_16 : DD prog_9_method_9_code 16 (.dup2) 1 17 := ⟨by decide +kernel, rfl⟩
theorem d_X7_freezeOn_17 : DD prog_9_method_9_code 17 (.iaload) 1 18 := ⟨by decide +kernel, rfl⟩
theorem d_X7_freezeOn_18 : DD prog_9_method_9_code 18 (.iload_n 3) 1 19 := ⟨by decide +kernel, rfl⟩
theorem d_X7_freezeOn_19 : DD prog_9_method_9_code 19 (.isub) 1 20 := ⟨by decide +kernel, rfl⟩
theorem d_X7_freezeOn_20 : DD prog_9_method_9_code 20 (.iastore) 1 21 := ⟨by decide +kernel, rfl⟩
theorem d_X7_freezeOn_21 : DD prog_9_method_9_code 21 (.aload_n 0) 1 22 := ⟨by decide +kernel, rfl⟩
theorem d_X7_freezeOn_22 : DD prog_9_method_9_code 22 (.getfield 17) 3 25 := ⟨by decide +kernel, rfl⟩
theorem d_X7_freezeOn_25 : DD prog_9_method_9_code 25 (.iload_n 1) 1 26 := ⟨by decide +kernel, rfl⟩
theorem d_X7_freezeOn_26 : DD prog_9_method_9_code 26 (.dup2) 1 27 := ⟨by decide +kernel, rfl⟩
theorem d_X7_freezeOn_27 : DD prog_9_method_9_code 27 (.iaload) 1 28 := ⟨by decide +kernel, rfl⟩
theorem d_X7_freezeOn_28 : DD prog_9_method_9_code 28 (.iload_n 3) 1 29 := ⟨by decide +kernel, rfl⟩
theorem d_X7_freezeOn_29 : DD prog_9_method_9_code 29 (.iadd) 1 30 := ⟨by decide +kernel, rfl⟩
theorem d_X7_freezeOn_30 : DD prog_9_method_9_code 30 (.iastore) 1 31 := ⟨by decide +kernel, rfl⟩
theorem d_X7_freezeOn_31 : DD prog_9_method_9_code 31 (.return_) 1 32 := ⟨by decide +kernel, rfl⟩
theorem d_X7_become_0 : DD prog_9_method_3_code 0 (.aload_n 0) 1 1 := ⟨by decide +kernel, rfl⟩
theorem d_X7_become_1 : DD prog_9_method_3_code 1 (.aload_n 1) 1 2 := ⟨by decide +kernel, rfl⟩
theorem d_X7_become_2 : DD prog_9_method_3_code 2 (.getfield 38) 3 5 := ⟨by decide +kernel, rfl⟩
theorem d_X7_become_5 : DD prog_9_method_3_code 5 (.putfield 38) 3 8 := ⟨by decide +kernel, rfl⟩
theorem d_X7_become_8 : DD prog_9_method_3_code 8 (.iconst 0) 1 9 := ⟨by decide +kernel, rfl⟩
theorem d_X7_become_9 : DD prog_9_method_3_code 9 (.istore_n 2) 1 10 := ⟨by decide +kernel, rfl⟩
theorem d_X7_become_10 : DD prog_9_method_3_code 10 (.iload_n 2) 1 11 := ⟨by decide +kernel, rfl⟩
theorem d_X7_become_11 : DD prog_9_method_3_code 11 (.bipush 20) 2 13 := ⟨by decide +kernel, rfl⟩
theorem d_X7_become_13 : DJ prog_9_method_3_code 13 (fun o => .if_icmp .ge o) 37 3 16 := ⟨by decide +kernel, rfl⟩
theorem d_X7_become_16 : DD prog_9_method_3_code 16 (.aload_n 0) 1 17 := ⟨by decide +kernel, rfl⟩
theorem d_X7_become_17 : DD prog_9_method_3_code 17 (.getfield 11) 3 20 := ⟨by decide +kernel, rfl⟩
theorem d_X7_become_20 : DD prog_9_method_3_code 20 (.iload_n 2) 1 21 := ⟨by decide +kernel, rfl⟩
theorem d_X7_become_21 : DD prog_9_method_3_code 21 (.aaload) 1 22 := ⟨by decide +kernel, rfl⟩
theorem d_X7_become_22 : DD prog_9_method_3_code 22 (.aload_n 1) 1 23 := ⟨by decide +kernel, rfl⟩
theorem d_X7_become_23 : DD prog_9_method_3_code 23 (.getfield 11) 3 26 := ⟨by decide +kernel, rfl⟩
theorem d_X7_become_26 : DD prog_9_method_3_code 26 (.iload_n 2) 1 27 := ⟨by decide +kernel, rfl⟩
theorem d_X7_become_27 : DD prog_9_method_3_code 27 (.aaload) 1 28 := ⟨by decide +kernel, rfl⟩
theorem d_X7_become_28 : DD prog_9_method_3_code 28 (.invokevirtual 55) 3 31 := ⟨by decide +kernel, rfl⟩
theorem d_X7_become_31 : DD prog_9_method_3_code 31 (.iinc 2 1) 3 34 := ⟨by decide +kernel, rfl⟩
theorem d_X7_become_34 : DJ prog_9_method_3_code 34 (fun o => .goto o) 10 3 37 := ⟨by decide +kernel, rfl⟩
theorem d_X7_become_37 : DD prog_9_method_3_code 37 (.aload_n 1) 1 38 := ⟨by decide +kernel, rfl⟩
theorem d_X7_become_38 : DD prog_9_method_3_code 38 (.getfield 17) 3 41 := ⟨by decide +kernel, rfl⟩
theorem d_X7_become_41 : DD prog_9_method_3_code 41 (.iconst 0) 1 42 := ⟨by decide +kernel, rfl⟩
theorem d_X7_become_42 : DD prog_9_method_3_code 42 (.aload_n 0) 1 43 := ⟨by decide +kernel, rfl⟩
theorem d_X7_become_43 : DD prog_9_method_3_code 43 (.getfield 17) 3 46 := ⟨by decide +kernel, rfl⟩
theorem d_X7_become_46 : DD prog_9_method_3_code 46 (.iconst 0) 1 47 := ⟨by decide +kernel, rfl⟩
theorem d_X7_become_47 : DD prog_9_method_3_code 47 (.bipush 10) 2 49 := ⟨by decide +kernel, rfl⟩
theorem d_X7_become_49 : DD prog_9_method_3_code 49 (.invokestatic 59) 3 52 := ⟨by decide +kernel, rfl⟩
theorem d_X7_become_52 : DD prog_9_method_3_code 52 (.aload_n 1) 1 53 := ⟨by decide +kernel, rfl⟩
theorem d_X7_become_53 : DD prog_9_method_3_code 53 (.getfield 21) 3 56 := ⟨by decide +kernel, rfl⟩
theorem d_X7_become_56 : DD prog_9_method_3_code 56 (.iconst 0) 1 57 := ⟨by decide +kernel, rfl⟩
theorem d_X7_become_57 : DD prog_9_method_3_code 57 (.aload_n 0) 1 58 := ⟨by decide +kernel, rfl⟩
theorem d_X7_become_58 : DD prog_9_method_3_code 58 (.getfield 21) 3 61 := ⟨by decide +kernel, rfl⟩
theorem d_X7_become_61 : DD prog_9_method_3_code 61 (.iconst 0) 1 62 := ⟨by decide +kernel, rfl⟩
theorem d_X7_become_62 : DD prog_9_method_3_code 62 (.bipush 10) 2 64 := ⟨by decide +kernel, rfl⟩
theorem d_X7_become_64 : DD prog_9_method_3_code 64 (.invokestatic 59) 3 67 := ⟨by decide +kernel, rfl⟩
theorem d_X7_become_67 : DD prog_9_method_3_code 67 (.aload_n 1) 1 68 := ⟨by decide +kernel, rfl⟩
theorem d_X7_become_68 : DD prog_9_method_3_code 68 (.getfield 24) 3 71 := ⟨by decide +kernel, rfl⟩
theorem d_X7_become_71 : DD prog_9_method_3_code 71 (.iconst 0) 1 72 := ⟨by decide +kernel, rfl⟩
theorem d_X7_become_72 : DD prog_9_method_3_code 72 (.aload_n 0) 1 73 := ⟨by decide +kernel, rfl⟩
theorem d_X7_become_73 : DD prog_9_method_3_code 73 (.getfield 24) 3 76 := ⟨by decide +kernel, rfl⟩
theorem d_X7_become_76 : DD prog_9_method_3_code 76 (.iconst 0) 1 77 := ⟨by decide +kernel, rfl⟩
theorem d_X7_become_77 : DD prog_9_method_3_code 77 (.bipush 10) 2 79 := ⟨by decide +kernel, rfl⟩
theorem d_X7_become_79 : DD prog_9_method_3_code 79 (.invokestatic 59) 3 82 := ⟨by decide +kernel, rfl⟩
theorem d_X7_become_82 : DD prog_9_method_3_code 82 (.aload_n 1) 1 83 := ⟨by decide +kernel, rfl⟩
theorem d_X7_become_83 : DD prog_9_method_3_code 83 (.getfield 27) 3 86 := ⟨by decide +kernel, rfl⟩
theorem d_X7_become_86 : DD prog_9_method_3_code 86 (.iconst 0) 1 87 := ⟨by decide +kernel, rfl⟩
theorem d_X7_become_87 : DD prog_9_method_3_code 87 (.aload_n 0) 1 88 := ⟨by decide +kernel, rfl⟩
theorem d_X7_become_88 : DD prog_9_method_3_code 88 (.getfield 27) 3 91 := ⟨by decide +kernel, rfl⟩
theorem d_X7_become_91 : DD prog_9_method_3_code 91 (.iconst 0) 1 92 := ⟨by decide +kernel, rfl⟩
theorem d_X7_become_92 : DD prog_9_method_3_code 92 (.bipush 12) 2 94 := ⟨by decide +kernel, rfl⟩
theorem d_X7_become_94 : DD prog_9_method_3_code 94 (.invokestatic 59) 3 97 := ⟨by decide +kernel, rfl⟩
theorem d_X7_become_97 : DD prog_9_method_3_code 97 (.aload_n 0) 1 98 := ⟨by decide +kernel, rfl⟩
theorem d_X7_become_98 : DD prog_9_method_3_code 98 (.getfield 33) 3 101 := ⟨by decide +kernel, rfl⟩
theorem d_X7_become_101 : DD prog_9_method_3_code 101 (.aload_n 1) 1 102 := ⟨by decide +kernel, rfl⟩
theorem d_X7_become_102 : DD prog_9_method_3_code 102 (.getfield 33) 3 105 := ⟨by decide +kernel, rfl⟩
theorem d_X7_become_105 : DD prog_9_method_3_code 105 (.invokevirtual 65) 3 108 := ⟨by decide +kernel, rfl⟩
theorem d_X7_become_108 : DD prog_9_method_3_code 108 (.return_) 1 109 := ⟨by decide +kernel, rfl⟩
theorem d_X7_heatOn_0 : DD prog_9_method_5_code 0 (.aload_n 0) 1 1 := ⟨by decide +kernel, rfl⟩
theorem d_X7_heatOn_1 : DD prog_9_method_5_code 1 (.getfield 27) 3 4 := ⟨by decide +kernel, rfl⟩
theorem d_X7_heatOn_4 : DD prog_9_method_5_code 4 (.iload_n 2) 1 5 := ⟨by decide +kernel, rfl⟩
theorem d_X7_heatOn_5 : DD prog_9_method_5_code 5 (.iaload) 1 6 := ⟨by decide +kernel, rfl⟩
theorem d_X7_heatOn_6 : DD prog_9_method_5_code 6 (.aload_n 0) 1 7 := ⟨by decide +kernel, rfl⟩
theorem d_X7_heatOn_7 : DD prog_9_method_5_code 7 (.getfield 33) 3 10 := ⟨by decide +kernel, rfl⟩
theorem d_X7_heatOn_10 : DD prog_9_method_5_code 10 (.iload_n 1) 1 11 := ⟨by decide +kernel, rfl⟩
theorem d_X7_heatOn_11 : DD prog_9_method_5_code 11 (.iload_n 2) 1 12 := ⟨by decide +kernel, rfl⟩
theorem d_X7_heatOn_12 : DD prog_9_method_5_code 12 (.invokevirtual 68) 3 15 := ⟨by decide +kernel, rfl⟩
theorem d_X7_heatOn_15 : DD prog_9_method_5_code 15 (.iadd) 1 16 := ⟨by decide +kernel, rfl⟩
theorem d_X7_heatOn_16 : DD prog_9_method_5_code 16 (.ireturn) 1 17 := ⟨by decide +kernel, rfl⟩
theorem d_X7_menInAll_0 : DD prog_9_method_6_code 0 (.iconst 0) 1 1 := ⟨by decide +kernel, rfl⟩
theorem d_X7_menInAll_1 : DD prog_9_method_6_code 1 (.istore_n 1) 1 2 := ⟨by decide +kernel, rfl⟩
theorem d_X7_menInAll_2 : DD prog_9_method_6_code 2 (.iconst 0) 1 3 := ⟨by decide +kernel, rfl⟩
theorem d_X7_menInAll_3 : DD prog_9_method_6_code 3 (.istore_n 2) 1 4 := ⟨by decide +kernel, rfl⟩
theorem d_X7_menInAll_4 : DD prog_9_method_6_code 4 (.iload_n 2) 1 5 := ⟨by decide +kernel, rfl⟩
theorem d_X7_menInAll_5 : DD prog_9_method_6_code 5 (.bipush 20) 2 7 := ⟨by decide +kernel, rfl⟩
theorem d_X7_menInAll_7 : DJ prog_9_method_6_code 7 (fun o => .if_icmp .ge o) 31 3 10 := ⟨by decide +kernel, rfl⟩
theorem d_X7_menInAll_10 : DD prog_9_method_6_code 10 (.aload_n 0) 1 11 := ⟨by decide +kernel, rfl⟩
theorem d_X7_menInAll_11 : DD prog_9_method_6_code 11 (.getfield 11) 3 14 := ⟨by decide +kernel, rfl⟩
theorem d_X7_menInAll_14 : DD prog_9_method_6_code 14 (.iload_n 2) 1 15 := ⟨by decide +kernel, rfl⟩
theorem d_X7_menInAll_15 : DD prog_9_method_6_code 15 (.aaload) 1 16 := ⟨by decide +kernel, rfl⟩
theorem d_X7_menInAll_16 : DD prog_9_method_6_code 16 (.getfield 42) 3 19 := ⟨by decide +kernel, rfl⟩
theorem d_X7_menInAll_19 : DJ prog_9_method_6_code 19 (fun o => .ifCond .eq o) 25 3 22 := ⟨by decide +kernel, rfl⟩
theorem d_X7_menInAll_22 : DD prog_9_method_6_code 22 (.iinc 1 1) 3 25 := ⟨by decide +kernel, rfl⟩
theorem d_X7_menInAll_25 : DD prog_9_method_6_code 25 (.iinc 2 1) 3 28 := ⟨by decide +kernel, rfl⟩
theorem d_X7_menInAll_28 : DJ prog_9_method_6_code 28 (fun o => .goto o) 4 3 31 := ⟨by decide +kernel, rfl⟩
theorem d_X7_menInAll_31 : DD prog_9_method_6_code 31 (.iload_n 1) 1 32 := ⟨by decide +kernel, rfl⟩
theorem d_X7_menInAll_32 : DD prog_9_method_6_code 32 (.ireturn) 1 33 := ⟨by decide +kernel, rfl⟩
theorem d_X7_snowInAll_0 : DD prog_9_method_7_code 0 (.iconst 0) 1 1 := ⟨by decide +kernel, rfl⟩
theorem d_X7_snowInAll_1 : DD prog_9_method_7_code 1 (.istore_n 1) 1 2 := ⟨by decide +kernel, rfl⟩
theorem d_X7_snowInAll_2 : DD prog_9_method_7_code 2 (.iconst 0) 1 3 := ⟨by decide +kernel, rfl⟩
theorem d_X7_snowInAll_3 : DD prog_9_method_7_code 3 (.istore_n 2) 1 4 := ⟨by decide +kernel, rfl⟩
theorem d_X7_snowInAll_4 : DD prog_9_method_7_code 4 (.iload_n 2) 1 5 := ⟨by decide +kernel, rfl⟩
theorem d_X7_snowInAll_5 : DD prog_9_method_7_code 5 (.bipush 20) 2 7 := ⟨by decide +kernel, rfl⟩
theorem d_X7_snowInAll_7 : DJ prog_9_method_7_code 7 (fun o => .if_icmp .ge o) 28 3 10 := ⟨by decide +kernel, rfl⟩
theorem d_X7_snowInAll_10 : DD prog_9_method_7_code 10 (.iload_n 1) 1 11 := ⟨by decide +kernel, rfl⟩
theorem d_X7_snowInAll_11 : DD prog_9_method_7_code 11 (.aload_n 0) 1 12 := ⟨by decide +kernel, rfl⟩
theorem d_X7_snowInAll_12 : DD prog_9_method_7_code 12 (.getfield 11) 3 15 := ⟨by decide +kernel, rfl⟩
theorem d_X7_snowInAll_15 : DD prog_9_method_7_code 15 (.iload_n 2) 1 16 := ⟨by decide +kernel, rfl⟩
theorem d_X7_snowInAll_16 : DD prog_9_method_7_code 16 (.aaload) 1 17 := ⟨by decide +kernel, rfl⟩
theorem d_X7_snowInAll_17 : DD prog_9_method_7_code 17 (.invokevirtual 72) 3 20 := ⟨by decide +kernel, rfl⟩
theorem d_X7_snowInAll_20 : DD prog_9_method_7_code 20 (.iadd) 1 21 := ⟨by decide +kernel, rfl⟩
theorem d_X7_snowInAll_21 : DD prog_9_method_7_code 21 (.istore_n 1) 1 22 := ⟨by decide +kernel, rfl⟩
theorem d_X7_snowInAll_22 : DD prog_9_method_7_code 22 (.iinc 2 1) 3 25 := ⟨by decide +kernel, rfl⟩
theorem d_X7_snowInAll_25 : DJ prog_9_method_7_code 25 (fun o => .goto o) 4 3 28 := ⟨by decide +kernel, rfl⟩
theorem d_X7_snowInAll_28 : DD prog_9_method_7_code 28 (.iconst 0) 1 29 := ⟨by decide +kernel, rfl⟩
theorem d_X7_snowInAll_29 : DD prog_9_method_7_code 29 (.istore_n 2) 1 30 := ⟨by decide +kernel, rfl⟩
theorem d_X7_snowInAll_30 : DD prog_9_method_7_code 30 (.iload_n 2) 1 31 := ⟨by decide +kernel, rfl⟩
theorem d_X7_snowInAll_31 : DD prog_9_method_7_code 31 (.bipush 10) 2 33 := ⟨by decide +kernel, rfl⟩
theorem d_X7_snowInAll_33 : DJ prog_9_method_7_code 33 (fun o => .if_icmp .ge o) 58 3 36 := ⟨by decide +kernel, rfl⟩
theorem d_X7_snowInAll_36 : DD prog_9_method_7_code 36 (.iload_n 1) 1 37 := ⟨by decide +kernel, rfl⟩
theorem d_X7_snowInAll_37 : DD prog_9_method_7_code 37 (.aload_n 0) 1 38 := ⟨by decide +kernel, rfl⟩
theorem d_X7_snowInAll_38 : DD prog_9_method_7_code 38 (.getfield 17) 3 41 := ⟨by decide +kernel, rfl⟩
theorem d_X7_snowInAll_41 : DD prog_9_method_7_code 41 (.iload_n 2) 1 42 := ⟨by decide +kernel, rfl⟩
theorem d_X7_snowInAll_42 : DD prog_9_method_7_code 42 (.iaload) 1 43 := ⟨by decide +kernel, rfl⟩
theorem d_X7_snowInAll_43 : DD prog_9_method_7_code 43 (.aload_n 0) 1 44 := ⟨by decide +kernel, rfl⟩
theorem d_X7_snowInAll_44 : DD prog_9_method_7_code 44 (.getfield 21) 3 47 := ⟨by decide +kernel, rfl⟩
theorem d_X7_snowInAll_47 : DD prog_9_method_7_code 47 (.iload_n 2) 1 48 := ⟨by decide +kernel, rfl⟩
theorem d_X7_snowInAll_48 : DD prog_9_method_7_code 48 (.iaload) 1 49 := ⟨by decide +kernel, rfl⟩
theorem d_X7_snowInAll_49 : DD prog_9_method_7_code 49 (.iadd) 1 50 := ⟨by decide +kernel, rfl⟩
theorem d_X7_snowInAll_50 : DD prog_9_method_7_code 50 (.iadd) 1 51 := ⟨by decide +kernel, rfl⟩
theorem d_X7_snowInAll_51 : DD prog_9_method_7_code 51 (.istore_n 1) 1 52 := ⟨by decide +kernel, rfl⟩
theorem d_X7_snowInAll_52 : DD prog_9_method_7_code 52 (.iinc 2 1) 3 55 := ⟨by decide +kernel, rfl⟩
theorem d_X7_snowInAll_55 : DJ prog_9_method_7_code 55 (fun o => .goto o) 30 3 58 := ⟨by decide +kernel, rfl⟩
theorem d_X7_snowInAll_58 : DD prog_9_method_7_code 58 (.iload_n 1) 1 59 := ⟨by decide +kernel, rfl⟩
theorem d_X7_snowInAll_59 : DD prog_9_method_7_code 59 (.ireturn) 1 60 := ⟨by decide +kernel, rfl⟩
def f_X7_manOf (M : Mm) (a0 : Nat) (x1 : Int32) (x2 : Int32) : Option Nat :=
ck (inn ((x1 * (10 : Int32)) + x2) 20) <|
some ((a0 + 1) + 10 + ((x1 * (10 : Int32)) + x2).toNatClampNeg)
def f_X7_wipe_29 (M : Mm) (a0 : Nat) : Option Mm :=
wr (fillI M (a0 + 2) 10 (0 : Int32)) fun M1 =>
wr (fillI M1 (a0 + 3) 10 (0 : Int32)) fun M3 =>
wr (fillI M3 (a0 + 4) 10 (0 : Int32)) fun M5 =>
wr (fillI M5 (a0 + 5) 12 (0 : Int32)) fun M7 =>
wr (wI M7 (a0 + 6) 0 (0 : Int32)) fun M9 =>
some M9
def b_X7_wipe_7 (k7 : Mm → Int32 → Option Mm) (a0 : Nat) (M : Mm) (x1 : Int32) : Option Mm :=
if (20 : Int32) ≤ x1 then
(f_X7_wipe_29 M a0)
else
(ck (inn x1 20) <|
wr (wI M ((a0 + 1) + 10 + x1.toNatClampNeg) 0 (0 : Int32)) fun M3 =>
k7 M3 (x1 + (1 : Int32)))
def f_X7_wipe_7 (a0 : Nat) : Nat → Mm → Int32 → Option Mm
  | 0, _, _ => none
  | n + 1, M, x1 => b_X7_wipe_7 (fun M x1 => f_X7_wipe_7 a0 n M x1) a0 M x1
def f_X7_wipe (M : Mm) (a0 : Nat) : Option Mm :=
wr (wI M a0 0 (0 : Int32)) fun M1 =>
f_X7_wipe_7 a0 FU M1 (0 : Int32)
def f_X7_meltOn_118 (k16 : Mm → Int32 → Int32 → Option Mm) (M : Mm) (a0 : Nat) (x1 : Int32) (x2 : Int32) (x3 : Int32) (x4 : Int32) (x5 : Int32) : Option Mm :=
k16 M x4 (x5 + (1 : Int32))
def f_X7_meltOn_52 (k16 : Mm → Int32 → Int32 → Option Mm) (M : Mm) (a0 : Nat) (x1 : Int32) (x2 : Int32) (x3 : Int32) (x4 : Int32) (x5 : Int32) (a6 : Nat) (s_0 : Int32) : Option Mm :=
ck (inn x1 10) <|
ck (inn x2 12) <|
bd (f_X6_lossBy M a6 x3 (M.1 (a0 + 5) x2.toNatClampNeg)) fun p4 =>
bd (f_X6_melt M a6 p4) fun p6 =>
wr (wI p6.2 (a0 + 3) x1.toNatClampNeg ((M.1 (a0 + 3) x1.toNatClampNeg) + p6.1)) fun M7 =>
if (M7.1 a6 1) = (4 : Int32) then
(if s_0 = 0 then
(f_X7_meltOn_118 k16 M7 a0 x1 x2 x3 x4 x5)
else
(if (M7.1 a6 4) = 0 then
(bd (f_X6_snowOf M7 a6) fun p13 =>
nm ((x4 + p13)) fun v14 =>
wr (wI M7 a6 0 (0 : Int32)) fun M16 =>
f_X7_meltOn_118 k16 M16 a0 x1 x2 x3 v14 x5)
else
(f_X7_meltOn_118 k16 M7 a0 x1 x2 x3 x4 x5)))
else
(f_X7_meltOn_118 k16 M7 a0 x1 x2 x3 x4 x5)
def f_X7_meltOn_124 (M : Mm) (a0 : Nat) (x1 : Int32) (x2 : Int32) (x3 : Int32) (x4 : Int32) : Option Mm :=
ck (inn x1 10) <|
ck (inn x2 12) <|
nm ((iMin (M.1 (a0 + 2) x1.toNatClampNeg) (x3 + (M.1 (a0 + 5) x2.toNatClampNeg)))) fun v3 =>
wr (wI M (a0 + 3) x1.toNatClampNeg ((M.1 (a0 + 3) x1.toNatClampNeg) + v3)) fun M5 =>
wr (wI M5 (a0 + 2) x1.toNatClampNeg ((M5.1 (a0 + 2) x1.toNatClampNeg) + (x4 - v3))) fun M7 =>
some M7
def b_X7_meltOn_16 (k16 : Mm → Int32 → Int32 → Option Mm) (a0 : Nat) (x1 : Int32) (x2 : Int32) (x3 : Int32) (M : Mm) (x4 : Int32) (x5 : Int32) : Option Mm :=
if (2 : Int32) ≤ x5 then
(f_X7_meltOn_124 M a0 x1 x2 x3 x4)
else
(bd (f_X7_manOf M a0 x5 x1) fun p3 =>
if (M.1 p3 0) = 0 then
(f_X7_meltOn_118 k16 M a0 x1 x2 x3 x4 x5)
else
(if (M.1 p3 4) ≤ 0 then
(f_X7_meltOn_52 k16 M a0 x1 x2 x3 x4 x5 p3 (0 : Int32))
else
(f_X7_meltOn_52 k16 M a0 x1 x2 x3 x4 x5 p3 (1 : Int32))))
def f_X7_meltOn_16 (a0 : Nat) (x1 : Int32) (x2 : Int32) (x3 : Int32) : Nat → Mm → Int32 → Int32 → Option Mm
  | 0, _, _, _ => none
  | n + 1, M, x4, x5 => b_X7_meltOn_16 (fun M x4 x5 => f_X7_meltOn_16 a0 x1 x2 x3 n M x4 x5) a0 x1 x2 x3 M x4 x5
def f_X7_meltOn (M : Mm) (a0 : Nat) (x1 : Int32) (x2 : Int32) : Option Mm :=
bd (f_X0_warmthOn M (a0 + 6) x1 x2) fun p2 =>
f_X7_meltOn_16 a0 x1 x2 p2 FU M (0 : Int32) (0 : Int32)
def f_X7_freezeOn (M : Mm) (a0 : Nat) (x1 : Int32) (x2 : Int32) : Option Mm :=
ck (inn x1 10) <|
nm ((iMin (M.1 (a0 + 3) x1.toNatClampNeg) x2)) fun v2 =>
wr (wI M (a0 + 3) x1.toNatClampNeg ((M.1 (a0 + 3) x1.toNatClampNeg) - v2)) fun M4 =>
wr (wI M4 (a0 + 2) x1.toNatClampNeg ((M4.1 (a0 + 2) x1.toNatClampNeg) + v2)) fun M6 =>
some M6
def f_X7_become_37 (M : Mm) (a0 : Nat) (a1 : Nat) : Option Mm :=
wr (wR M (a0 + 2) (va_cpy (M.1 (a1 + 2)) (M.1 (a0 + 2)) 0 0 10)) fun M1 =>
wr (wR M1 (a0 + 3) (va_cpy (M1.1 (a1 + 3)) (M1.1 (a0 + 3)) 0 0 10)) fun M3 =>
wr (wR M3 (a0 + 4) (va_cpy (M3.1 (a1 + 4)) (M3.1 (a0 + 4)) 0 0 10)) fun M5 =>
wr (wR M5 (a0 + 5) (va_cpy (M5.1 (a1 + 5)) (M5.1 (a0 + 5)) 0 0 12)) fun M7 =>
bd (f_X0_become M7 (a0 + 6) (a1 + 6)) fun p10 =>
some p10
def b_X7_become_10 (k10 : Mm → Int32 → Option Mm) (a0 : Nat) (a1 : Nat) (M : Mm) (x2 : Int32) : Option Mm :=
if (20 : Int32) ≤ x2 then
(f_X7_become_37 M a0 a1)
else
(ck (inn x2 20) <|
bd (f_X6_become M ((a0 + 1) + 10 + x2.toNatClampNeg) ((a1 + 1) + 10 + x2.toNatClampNeg)) fun p4 =>
k10 p4 (x2 + (1 : Int32)))
def f_X7_become_10 (a0 : Nat) (a1 : Nat) : Nat → Mm → Int32 → Option Mm
  | 0, _, _ => none
  | n + 1, M, x2 => b_X7_become_10 (fun M x2 => f_X7_become_10 a0 a1 n M x2) a0 a1 M x2
def f_X7_become (M : Mm) (a0 : Nat) (a1 : Nat) : Option Mm :=
wr (wI M a0 0 (M.1 a1 0)) fun M1 =>
f_X7_become_10 a0 a1 FU M1 (0 : Int32)
def f_X7_heatOn (M : Mm) (a0 : Nat) (x1 : Int32) (x2 : Int32) : Option Int32 :=
ck (inn x2 12) <|
bd (f_X0_warmthOn M (a0 + 6) x1 x2) fun p3 =>
some ((M.1 (a0 + 5) x2.toNatClampNeg) + p3)
def f_X7_menInAll_25 (k4 : Int32 → Int32 → Option Int32) (M : Mm) (a0 : Nat) (x1 : Int32) (x2 : Int32) : Option Int32 :=
k4 x1 (x2 + (1 : Int32))
def b_X7_menInAll_4 (k4 : Int32 → Int32 → Option Int32) (M : Mm) (a0 : Nat) (x1 : Int32) (x2 : Int32) : Option Int32 :=
if (20 : Int32) ≤ x2 then
(some x1)
else
(ck (inn x2 20) <|
if (M.1 ((a0 + 1) + 10 + x2.toNatClampNeg) 0) = 0 then
(f_X7_menInAll_25 k4 M a0 x1 x2)
else
(f_X7_menInAll_25 k4 M a0 (x1 + (1 : Int32)) x2))
def f_X7_menInAll_4 (M : Mm) (a0 : Nat) : Nat → Int32 → Int32 → Option Int32
  | 0, _, _ => none
  | n + 1, x1, x2 => b_X7_menInAll_4 (fun x1 x2 => f_X7_menInAll_4 M a0 n x1 x2) M a0 x1 x2
def f_X7_menInAll (M : Mm) (a0 : Nat) : Option Int32 :=
f_X7_menInAll_4 M a0 FU (0 : Int32) (0 : Int32)
def b_X7_snowInAll_30 (k30 : Int32 → Int32 → Option Int32) (M : Mm) (a0 : Nat) (x1 : Int32) (x2 : Int32) : Option Int32 :=
if (10 : Int32) ≤ x2 then
(some x1)
else
(ck (inn x2 10) <|
nm ((x1 + ((M.1 (a0 + 2) x2.toNatClampNeg) + (M.1 (a0 + 3) x2.toNatClampNeg)))) fun v3 =>
k30 v3 (x2 + (1 : Int32)))
def f_X7_snowInAll_30 (M : Mm) (a0 : Nat) : Nat → Int32 → Int32 → Option Int32
  | 0, _, _ => none
  | n + 1, x1, x2 => b_X7_snowInAll_30 (fun x1 x2 => f_X7_snowInAll_30 M a0 n x1 x2) M a0 x1 x2
def f_X7_snowInAll_28 (M : Mm) (a0 : Nat) (x1 : Int32) : Option Int32 :=
f_X7_snowInAll_30 M a0 FU x1 (0 : Int32)
def b_X7_snowInAll_4 (k4 : Int32 → Int32 → Option Int32) (M : Mm) (a0 : Nat) (x1 : Int32) (x2 : Int32) : Option Int32 :=
if (20 : Int32) ≤ x2 then
(f_X7_snowInAll_28 M a0 x1)
else
(ck (inn x2 20) <|
bd (f_X6_snowOf M ((a0 + 1) + 10 + x2.toNatClampNeg)) fun p4 =>
nm ((x1 + p4)) fun v5 =>
k4 v5 (x2 + (1 : Int32)))
def f_X7_snowInAll_4 (M : Mm) (a0 : Nat) : Nat → Int32 → Int32 → Option Int32
  | 0, _, _ => none
  | n + 1, x1, x2 => b_X7_snowInAll_4 (fun x1 x2 => f_X7_snowInAll_4 M a0 n x1 x2) M a0 x1 x2
def f_X7_snowInAll (M : Mm) (a0 : Nat) : Option Int32 :=
f_X7_snowInAll_4 M a0 FU (0 : Int32) (0 : Int32)
-- SnowSentries$Scene.manOf(II)LSnowSentries$Man;
set_option maxRecDepth 4000 in
theorem k_X7_manOf_0 {p : Program} {l : Launch} {e : Env} {s : State} {m : MethodId} {args : Array Value} {below : List Frame} {meth : Method} {c : Code} {G : GG} {M : Mm} {a0 : Nat} {x1 : Int32} {x2 : Int32} {r : Nat} (C : CX p s m args c prog_9_method_4_code 3 "SnowSentries$Scene" 0 G) (hlk : meth.locks = false) (hr : meth.sig.returnType = (some (.object "SnowSentries$Man"))) (ha0 : kU 0 a0 = 7) : f_X7_manOf M a0 x1 x2 = some r → Z p l e { frames := 0, cells := 0, slots := 0, locals := 0 } s m args below meth c 0 G 3 (MQ below (QC 0 G (some (.ref (gB G + r))) M) args s 0 0 (AU 0 G)) 0 [(0, .ref (gB G + a0)), (1, .int x1), (2, .int x2)] [] M := by
  intro h
  unfold f_X7_manOf at h
  refine z_aload_n 0 C d_X7_manOf_0 rfl rfl ?_
  refine z_get (k := 1) (v := .ref (gB G + (a0 + 1))) C ((E_7 ha0 G) _ _) (kU_in ha0 (by decide)) rfl inX7 (by decide) wf_X7_11 rfl d_X7_manOf_1 ?_
  refine z_iload_n 1 C d_X7_manOf_4 rfl rfl ?_
  refine z_bipush (v := (10 : Int32)) C d_X7_manOf_5 (by decide) ?_
  refine z_imul C d_X7_manOf_7 ?_
  refine z_iload_n 2 C d_X7_manOf_8 rfl rfl ?_
  refine z_iadd C d_X7_manOf_9 ?_
  obtain ⟨q1, h⟩ := o_ck h
  refine z_rld (t := 4) (b := ((a0 + 1) + 10 + ((x1 * (10 : Int32)) + x2).toNatClampNeg)) ((E_28 (k_7_1 ha0) G) _ _) C (kU_in (k_7_1 ha0) (by decide)) rfl rfl q1 (if_pos (inn_lt q1)) d_X7_manOf_10 ?_
  obtain rfl := o_some h
  exact z_aret C hlk hr d_X7_manOf_11
theorem c_X7_manOf (l : Launch) (G : GG) {M : Mm} {a0 : Nat} {x1 : Int32} {x2 : Int32} {r : Nat} (ha0 : kU 0 a0 = 7) (h : f_X7_manOf M a0 x1 x2 = some r) : CT l 0 G y_X7_manOf prog_9_method_4_code 3 (some (.object "SnowSentries$Man")) 0 0 [.ref (gB G + a0), .int x1, .int x2] M (some (.ref (gB G + r))) M :=
  CT.of (by decide +kernel) (Nat.le_of_ble_eq_true rfl) rfl (fun p e s m args below meth c C hlk hr => k_X7_manOf_0 C hlk hr ha0 h)
theorem kr_X7_manOf {M : Mm} {a0 : Nat} {x1 x2 : Int32} {r : Nat} (h0 : kU 0 a0 = 7) (h : f_X7_manOf M a0 x1 x2 = some r) : kU 0 r = 6 := by
  unfold f_X7_manOf at h
  obtain ⟨q, h⟩ := o_ck h
  cases h
  exact k_28 (k_7_1 h0) (inn_lt q)
-- SnowSentries$Scene.wipe()V
set_option maxRecDepth 4000 in
theorem k_X7_wipe_29 {p : Program} {l : Launch} {e : Env} {s : State} {m : MethodId} {args : Array Value} {below : List Frame} {meth : Method} {c : Code} {G : GG} {u : Nat} {M : Mm} {a0 : Nat} {M2 : Mm} (C : CX p s m args c prog_9_method_2_code 2 "SnowSentries$Scene" u G) (hlk : meth.locks = false) (hr : meth.sig.returnType = none) (ha0 : kU u a0 = 7) : f_X7_wipe_29 M a0 = some M2 → Z p l e { frames := 1, cells := 0, slots := 0, locals := 23 } s m args below meth c u G 2 (MQ below (QC u G none M2) args s 0 0 (AU u G)) 29 [(0, .ref (gB G + a0))] [] M := by
  intro h
  unfold f_X7_wipe_29 at h
  refine z_aload_n 0 C d_X7_wipe_29 rfl rfl ?_
  refine z_get (k := 2) (v := .ref (gB G + (a0 + 2))) C ((E_7 ha0 G) _ _) (kU_in ha0 (by decide)) rfl inX7 (by decide) wf_X7_17 rfl d_X7_wipe_30 ?_
  refine z_iconst (v := (0 : Int32)) C d_X7_wipe_33 (by decide) ?_
  obtain ⟨M1, e2, h⟩ := o_wr h
  refine z_S (S := []) (As := [.ref (gB G + (a0 + 2)), .int (0 : Int32)]) C (c_J7_fill_53178 l G (n := 10) (fun r q => (E_21 (k_7_2 ha0) G) r q) (kU_in (k_7_2 ha0) (by decide)) (by decide)) wc_J7_fill_53178 wm_X7_46 ws_J7_fill_53178 wi_J7 hy_J7_fill_53178 ⟨Nat.le_of_ble_eq_true rfl, Nat.le_of_ble_eq_true rfl⟩ rfl rfl (Nat.le_of_ble_eq_true rfl) d_X7_wipe_34 ?_
  refine z_nM e2 ?_
  refine z_aload_n 0 C d_X7_wipe_37 rfl rfl ?_
  refine z_get (k := 3) (v := .ref (gB G + (a0 + 3))) C ((E_7 ha0 G) _ _) (kU_in ha0 (by decide)) rfl inX7 (by decide) wf_X7_21 rfl d_X7_wipe_38 ?_
  refine z_iconst (v := (0 : Int32)) C d_X7_wipe_41 (by decide) ?_
  obtain ⟨M3, e4, h⟩ := o_wr h
  refine z_S (S := []) (As := [.ref (gB G + (a0 + 3)), .int (0 : Int32)]) C (c_J7_fill_53178 l G (n := 10) (fun r q => (E_21 (k_7_3 ha0) G) r q) (kU_in (k_7_3 ha0) (by decide)) (by decide)) wc_J7_fill_53178 wm_X7_46 ws_J7_fill_53178 wi_J7 hy_J7_fill_53178 ⟨Nat.le_of_ble_eq_true rfl, Nat.le_of_ble_eq_true rfl⟩ rfl rfl (Nat.le_of_ble_eq_true rfl) d_X7_wipe_42 ?_
  refine z_nM e4 ?_
  refine z_aload_n 0 C d_X7_wipe_45 rfl rfl ?_
  refine z_get (k := 4) (v := .ref (gB G + (a0 + 4))) C ((E_7 ha0 G) _ _) (kU_in ha0 (by decide)) rfl inX7 (by decide) wf_X7_24 rfl d_X7_wipe_46 ?_
  refine z_iconst (v := (0 : Int32)) C d_X7_wipe_49 (by decide) ?_
  obtain ⟨M5, e6, h⟩ := o_wr h
  refine z_S (S := []) (As := [.ref (gB G + (a0 + 4)), .int (0 : Int32)]) C (c_J7_fill_53178 l G (n := 10) (fun r q => (E_21 (k_7_4 ha0) G) r q) (kU_in (k_7_4 ha0) (by decide)) (by decide)) wc_J7_fill_53178 wm_X7_46 ws_J7_fill_53178 wi_J7 hy_J7_fill_53178 ⟨Nat.le_of_ble_eq_true rfl, Nat.le_of_ble_eq_true rfl⟩ rfl rfl (Nat.le_of_ble_eq_true rfl) d_X7_wipe_50 ?_
  refine z_nM e6 ?_
  refine z_aload_n 0 C d_X7_wipe_53 rfl rfl ?_
  refine z_get (k := 5) (v := .ref (gB G + (a0 + 5))) C ((E_7 ha0 G) _ _) (kU_in ha0 (by decide)) rfl inX7 (by decide) wf_X7_27 rfl d_X7_wipe_54 ?_
  refine z_iconst (v := (0 : Int32)) C d_X7_wipe_57 (by decide) ?_
  obtain ⟨M7, e8, h⟩ := o_wr h
  refine z_S (S := []) (As := [.ref (gB G + (a0 + 5)), .int (0 : Int32)]) C (c_J7_fill_53178 l G (n := 12) (fun r q => (E_22 (k_7_5 ha0) G) r q) (kU_in (k_7_5 ha0) (by decide)) (by decide)) wc_J7_fill_53178 wm_X7_46 ws_J7_fill_53178 wi_J7 hy_J7_fill_53178 ⟨Nat.le_of_ble_eq_true rfl, Nat.le_of_ble_eq_true rfl⟩ rfl rfl (Nat.le_of_ble_eq_true rfl) d_X7_wipe_58 ?_
  refine z_nM e8 ?_
  refine z_aload_n 0 C d_X7_wipe_61 rfl rfl ?_
  refine z_get (k := 6) (v := .ref (gB G + (a0 + 6))) C ((E_7 ha0 G) _ _) (kU_in ha0 (by decide)) rfl inX7 (by decide) wf_X7_33 rfl d_X7_wipe_62 ?_
  refine z_iconst (v := (0 : Int32)) C d_X7_wipe_65 (by decide) ?_
  obtain ⟨M9, e10, h⟩ := o_wr h
  refine z_pI (k := 0) (ty := .int) C (fun r q => (E_0 (k_7_6 ha0) G) r q) (fun _ _ => rfl) (kU_in (k_7_6 ha0) (by decide)) rfl inX0 tyX0 tyX0_ok nmX0 (by decide) wf_X7_52 rfl (by decide +kernel) rfl rfl (Nat.le_of_ble_eq_true rfl) d_X7_wipe_66 ?_
  refine z_nM e10 ?_
  obtain rfl := o_some h
  exact z_vret C hlk hr d_X7_wipe_69
set_option maxRecDepth 4000 in
theorem kb_X7_wipe_7 {p : Program} {l : Launch} {e : Env} {s : State} {m : MethodId} {args : Array Value} {below : List Frame} {meth : Method} {c : Code} {G : GG} {u : Nat} {k7 : Mm → Int32 → Option Mm} {a0 : Nat} {M : Mm} {x1 : Int32} {M2 : Mm} (C : CX p s m args c prog_9_method_2_code 2 "SnowSentries$Scene" u G) (hlk : meth.locks = false) (hr : meth.sig.returnType = none) (ha0 : kU u a0 = 7) (hk7 : ∀ (M : Mm) (x1 : Int32), k7 M x1 = some M2 → Z p l e { frames := 1, cells := 0, slots := 0, locals := 23 } s m args below meth c u G 2 (MQ below (QC u G none M2) args s 0 0 (AU u G)) 7 [(0, .ref (gB G + a0)), (1, .int x1)] [] M) : b_X7_wipe_7 k7 a0 M x1 = some M2 → Z p l e { frames := 1, cells := 0, slots := 0, locals := 23 } s m args below meth c u G 2 (MQ below (QC u G none M2) args s 0 0 (AU u G)) 7 [(0, .ref (gB G + a0)), (1, .int x1)] [] M := by
  intro h
  unfold b_X7_wipe_7 at h
  refine z_iload_n 1 C d_X7_wipe_7 rfl rfl ?_
  refine z_bipush (v := (20 : Int32)) C d_X7_wipe_8 (by decide) ?_
  refine z_icmp_ge C d_X7_wipe_10 (fun q1 => ?_) (fun q1 => ?_)
  · have h := o_t q1 h
    exact z_sub [0] rfl (k_X7_wipe_29 C hlk hr ha0 h)
  · have h := o_f q1 h
    refine z_aload_n 0 C d_X7_wipe_13 rfl rfl ?_
    refine z_get (k := 1) (v := .ref (gB G + (a0 + 1))) C ((E_7 ha0 G) _ _) (kU_in ha0 (by decide)) rfl inX7 (by decide) wf_X7_11 rfl d_X7_wipe_14 ?_
    refine z_iload_n 1 C d_X7_wipe_17 rfl rfl ?_
    obtain ⟨q2, h⟩ := o_ck h
    refine z_rld (t := 4) (b := ((a0 + 1) + 10 + x1.toNatClampNeg)) ((E_28 (k_7_1 ha0) G) _ _) C (kU_in (k_7_1 ha0) (by decide)) rfl rfl q2 (if_pos (inn_lt q2)) d_X7_wipe_18 ?_
    refine z_iconst (v := (0 : Int32)) C d_X7_wipe_19 (by decide) ?_
    obtain ⟨M3, e4, h⟩ := o_wr h
    refine z_pI (k := 0) (ty := .boolean) C (fun r q => (E_6 (k_28 (k_7_1 ha0) (inn_lt q2)) G) r q) (fun _ _ => rfl) (kU_in (k_28 (k_7_1 ha0) (inn_lt q2)) (by decide)) rfl inX6 tyX6 tyX6_ok nmX6 (by decide) wf_X7_42 rfl (by decide +kernel) (by decide) (by decide) (Nat.le_of_ble_eq_true rfl) d_X7_wipe_20 ?_
    refine z_nM e4 ?_
    refine z_iinc (v := (1 : Int32)) (L' := [(1, .int (x1 + (1 : Int32))), (0, .ref (gB G + a0))]) 1 C d_X7_wipe_23 rfl (by decide) (by decide) rfl ?_
    refine z_goto C d_X7_wipe_26 ?_
    exact z_sub [1, 0] rfl (hk7 _ _  h)
theorem k_X7_wipe_7 {p : Program} {l : Launch} {e : Env} {s : State} {m : MethodId} {args : Array Value} {below : List Frame} {meth : Method} {c : Code} {G : GG} {u : Nat} {a0 : Nat} {M2 : Mm} (C : CX p s m args c prog_9_method_2_code 2 "SnowSentries$Scene" u G) (hlk : meth.locks = false) (hr : meth.sig.returnType = none) (ha0 : kU u a0 = 7) : ∀ (n : Nat) (M : Mm) (x1 : Int32), f_X7_wipe_7 a0 n M x1 = some M2 → Z p l e { frames := 1, cells := 0, slots := 0, locals := 23 } s m args below meth c u G 2 (MQ below (QC u G none M2) args s 0 0 (AU u G)) 7 [(0, .ref (gB G + a0)), (1, .int x1)] [] M := by
  intro n
  induction n with
  | zero =>
    intro M x1  h
    exact absurd h (fun z => by cases z)
  | succ n ih =>
    intro M x1  h
    exact kb_X7_wipe_7 C hlk hr ha0 (fun M x1 h => ih M x1 h) h
set_option maxRecDepth 4000 in
theorem k_X7_wipe_0 {p : Program} {l : Launch} {e : Env} {s : State} {m : MethodId} {args : Array Value} {below : List Frame} {meth : Method} {c : Code} {G : GG} {u : Nat} {M : Mm} {a0 : Nat} {M2 : Mm} (C : CX p s m args c prog_9_method_2_code 2 "SnowSentries$Scene" u G) (hlk : meth.locks = false) (hr : meth.sig.returnType = none) (ha0 : kU u a0 = 7) : f_X7_wipe M a0 = some M2 → Z p l e { frames := 1, cells := 0, slots := 0, locals := 23 } s m args below meth c u G 2 (MQ below (QC u G none M2) args s 0 0 (AU u G)) 0 [(0, .ref (gB G + a0))] [] M := by
  intro h
  unfold f_X7_wipe at h
  refine z_aload_n 0 C d_X7_wipe_0 rfl rfl ?_
  refine z_iconst (v := (0 : Int32)) C d_X7_wipe_1 (by decide) ?_
  obtain ⟨M1, e2, h⟩ := o_wr h
  refine z_pI (k := 0) (ty := .int) C (fun r q => (E_7 ha0 G) r q) (fun _ _ => rfl) (kU_in ha0 (by decide)) rfl inX7 tyX7 tyX7_ok nmX7 (by decide) wf_X7_38 rfl (by decide +kernel) rfl rfl (Nat.le_of_ble_eq_true rfl) d_X7_wipe_2 ?_
  refine z_nM e2 ?_
  refine z_iconst (v := (0 : Int32)) C d_X7_wipe_5 (by decide) ?_
  refine z_istore_n (L' := [(1, .int (0 : Int32)), (0, .ref (gB G + a0))]) C d_X7_wipe_6 rfl (by decide) rfl ?_
  exact z_sub [1, 0] rfl (k_X7_wipe_7 C hlk hr ha0 _ _ _ h)
theorem c_X7_wipe (l : Launch) (G : GG) {u : Nat} {M : Mm} {a0 : Nat} {M2 : Mm} (ha0 : kU u a0 = 7) (h : f_X7_wipe M a0 = some M2) : CT l u G y_X7_wipe prog_9_method_2_code 2 none 1 23 [.ref (gB G + a0)] M none M2 :=
  CT.of (by decide +kernel) (Nat.le_of_ble_eq_true rfl) rfl (fun p e s m args below meth c C hlk hr => k_X7_wipe_0 C hlk hr ha0 h)
-- SnowSentries$Scene.meltOn(II)V
set_option maxRecDepth 4000 in
theorem k_X7_meltOn_118 {p : Program} {l : Launch} {e : Env} {s : State} {m : MethodId} {args : Array Value} {below : List Frame} {meth : Method} {c : Code} {G : GG} {k16 : Mm → Int32 → Int32 → Option Mm} {M : Mm} {a0 : Nat} {x1 : Int32} {x2 : Int32} {x3 : Int32} {x4 : Int32} {x5 : Int32} {M2 : Mm} (C : CX p s m args c prog_9_method_8_code 8 "SnowSentries$Scene" 0 G) (hlk : meth.locks = false) (hr : meth.sig.returnType = none) (ha0 : kU 0 a0 = 7) (hk16 : ∀ (M : Mm) (x4 : Int32) (x5 : Int32), k16 M x4 x5 = some M2 → Z p l e { frames := 3, cells := 0, slots := 0, locals := 67 } s m args below meth c 0 G 8 (MQ below (QC 0 G none M2) args s 0 0 (AU 0 G)) 16 [(0, .ref (gB G + a0)), (1, .int x1), (2, .int x2), (3, .int x3), (4, .int x4), (5, .int x5)] [] M) : f_X7_meltOn_118 k16 M a0 x1 x2 x3 x4 x5 = some M2 → Z p l e { frames := 3, cells := 0, slots := 0, locals := 67 } s m args below meth c 0 G 8 (MQ below (QC 0 G none M2) args s 0 0 (AU 0 G)) 118 [(0, .ref (gB G + a0)), (1, .int x1), (2, .int x2), (3, .int x3), (4, .int x4), (5, .int x5)] [] M := by
  intro h
  unfold f_X7_meltOn_118 at h
  refine z_iinc (v := (1 : Int32)) (L' := [(5, .int (x5 + (1 : Int32))), (0, .ref (gB G + a0)), (1, .int x1), (2, .int x2), (3, .int x3), (4, .int x4)]) 5 C d_X7_meltOn_118 rfl (by decide) (by decide) rfl ?_
  refine z_goto C d_X7_meltOn_121 ?_
  exact z_sub [1, 2, 3, 4, 5, 0] rfl (hk16 _ _ _  h)
set_option maxRecDepth 4000 in
theorem k_X7_meltOn_52 {p : Program} {l : Launch} {e : Env} {s : State} {m : MethodId} {args : Array Value} {below : List Frame} {meth : Method} {c : Code} {G : GG} {k16 : Mm → Int32 → Int32 → Option Mm} {M : Mm} {a0 : Nat} {x1 : Int32} {x2 : Int32} {x3 : Int32} {x4 : Int32} {x5 : Int32} {a6 : Nat} {s_0 : Int32} {M2 : Mm} (C : CX p s m args c prog_9_method_8_code 8 "SnowSentries$Scene" 0 G) (hlk : meth.locks = false) (hr : meth.sig.returnType = none) (ha0 : kU 0 a0 = 7) (ha6 : kU 0 a6 = 6) (hk16 : ∀ (M : Mm) (x4 : Int32) (x5 : Int32), k16 M x4 x5 = some M2 → Z p l e { frames := 3, cells := 0, slots := 0, locals := 67 } s m args below meth c 0 G 8 (MQ below (QC 0 G none M2) args s 0 0 (AU 0 G)) 16 [(0, .ref (gB G + a0)), (1, .int x1), (2, .int x2), (3, .int x3), (4, .int x4), (5, .int x5)] [] M) : f_X7_meltOn_52 k16 M a0 x1 x2 x3 x4 x5 a6 s_0 = some M2 → Z p l e { frames := 3, cells := 0, slots := 0, locals := 67 } s m args below meth c 0 G 8 (MQ below (QC 0 G none M2) args s 0 0 (AU 0 G)) 52 [(0, .ref (gB G + a0)), (1, .int x1), (2, .int x2), (3, .int x3), (4, .int x4), (5, .int x5), (6, .ref (gB G + a6))] [.int s_0] M := by
  intro h
  unfold f_X7_meltOn_52 at h
  refine z_istore (L' := [(7, .int s_0), (0, .ref (gB G + a0)), (1, .int x1), (2, .int x2), (3, .int x3), (4, .int x4), (5, .int x5), (6, .ref (gB G + a6))]) C d_X7_meltOn_52 (by decide) rfl ?_
  refine z_aload_n 1 C d_X7_meltOn_54 rfl rfl ?_
  refine z_get (k := 3) (v := .ref (gB G + (a0 + 3))) C ((E_7 ha0 G) _ _) (kU_in ha0 (by decide)) rfl inX7 (by decide) wf_X7_21 rfl d_X7_meltOn_55 ?_
  refine z_iload_n 2 C d_X7_meltOn_58 rfl rfl ?_
  refine z_dup2 C d_X7_meltOn_59 rfl rfl ?_
  obtain ⟨q1, h⟩ := o_ck h
  refine z_ald ((E_21 (k_7_3 ha0) G) _ _) C (kU_in (k_7_3 ha0) (by decide)) q1 d_X7_meltOn_60 ?_
  refine z_aload 7 C d_X7_meltOn_61 rfl ?_
  refine z_aload 7 C d_X7_meltOn_63 rfl ?_
  refine z_iload_n 4 C d_X7_meltOn_65 rfl rfl ?_
  refine z_aload_n 1 C d_X7_meltOn_66 rfl rfl ?_
  refine z_get (k := 5) (v := .ref (gB G + (a0 + 5))) C ((E_7 ha0 G) _ _) (kU_in ha0 (by decide)) rfl inX7 (by decide) wf_X7_27 rfl d_X7_meltOn_67 ?_
  refine z_iload_n 3 C d_X7_meltOn_70 rfl rfl ?_
  obtain ⟨q2, h⟩ := o_ck h
  refine z_ald ((E_22 (k_7_5 ha0) G) _ _) C (kU_in (k_7_5 ha0) (by decide)) q2 d_X7_meltOn_71 ?_
  obtain ⟨p4, e3, h⟩ := o_bd h
  refine z_V (S := [.ref (gB G + a6), .int (M.1 (a0 + 3) x1.toNatClampNeg), .int x1, .ref (gB G + (a0 + 3))]) (As := [.int x3, .int (M.1 (a0 + 5) x2.toNatClampNeg)]) C (c_X6_lossBy l G ha6 e3) ((E_6 ha6 G) _ _) (kU_in ha6 (by decide)) rfl wc_X6_lossBy wm_X7_83 ws_X6_lossBy wl_X6_lossBy wi_X6 hy_X6_lossBy ⟨Nat.le_of_ble_eq_true rfl, Nat.le_of_ble_eq_true rfl⟩ rfl rfl (Nat.le_of_ble_eq_true rfl) d_X7_meltOn_72 ?_
  obtain ⟨p6, e5, h⟩ := o_bd h
  refine z_V (S := [.int (M.1 (a0 + 3) x1.toNatClampNeg), .int x1, .ref (gB G + (a0 + 3))]) (As := [.int p4]) C (c_X6_melt l G ha6 e5) ((E_6 ha6 G) _ _) (kU_in ha6 (by decide)) rfl wc_X6_melt wm_X7_86 ws_X6_melt wl_X6_melt wi_X6 hy_X6_melt ⟨Nat.le_of_ble_eq_true rfl, Nat.le_of_ble_eq_true rfl⟩ rfl rfl (Nat.le_of_ble_eq_true rfl) d_X7_meltOn_75 ?_
  refine z_iadd C d_X7_meltOn_78 ?_
  obtain ⟨M7, e8, h⟩ := o_wr h
  refine z_ast (fun r q => (E_21 (k_7_3 ha0) G) r q) C (kU_in (k_7_3 ha0) (by decide)) q1 d_X7_meltOn_79 ?_
  refine z_nM e8 ?_
  refine z_aload 7 C d_X7_meltOn_80 rfl ?_
  refine z_get (k := 1) (v := .int (M7.1 a6 1)) C ((E_6 ha6 G) _ _) (kU_in ha6 (by decide)) rfl inX6 (by decide) wf_X7_90 rfl d_X7_meltOn_82 ?_
  refine z_iconst (v := (4 : Int32)) C d_X7_meltOn_85 (by decide) ?_
  refine z_icmp_ne C d_X7_meltOn_86 (fun q9 => ?_) (fun q9 => ?_)
  · have h := o_f q9 h
    exact z_sub [1, 2, 3, 4, 5, 6] rfl (k_X7_meltOn_118 C hlk hr ha0 hk16 h)
  · have h := o_t q9 h
    refine z_iload 0 C d_X7_meltOn_89 rfl ?_
    refine z_if_eq C d_X7_meltOn_91 (fun q10 => ?_) (fun q10 => ?_)
    · have h := o_t q10 h
      exact z_sub [1, 2, 3, 4, 5, 6] rfl (k_X7_meltOn_118 C hlk hr ha0 hk16 h)
    · have h := o_f q10 h
      refine z_aload 7 C d_X7_meltOn_94 rfl ?_
      refine z_get (k := 4) (v := .int (M7.1 a6 4)) C ((E_6 ha6 G) _ _) (kU_in ha6 (by decide)) rfl inX6 (by decide) wf_X7_80 rfl d_X7_meltOn_96 ?_
      refine z_if_ne C d_X7_meltOn_99 (fun q11 => ?_) (fun q11 => ?_)
      · have h := o_f q11 h
        exact z_sub [1, 2, 3, 4, 5, 6] rfl (k_X7_meltOn_118 C hlk hr ha0 hk16 h)
      · have h := o_t q11 h
        refine z_iload 5 C d_X7_meltOn_102 rfl ?_
        refine z_aload 7 C d_X7_meltOn_104 rfl ?_
        obtain ⟨p13, e12, h⟩ := o_bd h
        refine z_V (S := [.int x4]) (As := []) C (c_X6_snowOf l G ha6 e12) ((E_6 ha6 G) _ _) (kU_in ha6 (by decide)) rfl wc_X6_snowOf wm_X7_72 ws_X6_snowOf wl_X6_snowOf wi_X6 hy_X6_snowOf ⟨Nat.le_of_ble_eq_true rfl, Nat.le_of_ble_eq_true rfl⟩ rfl rfl (Nat.le_of_ble_eq_true rfl) d_X7_meltOn_106 ?_
        refine z_iadd C d_X7_meltOn_109 ?_
        obtain ⟨v14, e15, h⟩ := o_nm h
        refine z_nI e15 ?_
        refine z_istore (L' := [(4, .int v14), (7, .int s_0), (0, .ref (gB G + a0)), (1, .int x1), (2, .int x2), (3, .int x3), (5, .int x5), (6, .ref (gB G + a6))]) C d_X7_meltOn_110 (by decide) rfl ?_
        refine z_aload 7 C d_X7_meltOn_112 rfl ?_
        refine z_iconst (v := (0 : Int32)) C d_X7_meltOn_114 (by decide) ?_
        obtain ⟨M16, e17, h⟩ := o_wr h
        refine z_pI (k := 0) (ty := .boolean) C (fun r q => (E_6 ha6 G) r q) (fun _ _ => rfl) (kU_in ha6 (by decide)) rfl inX6 tyX6 tyX6_ok nmX6 (by decide) wf_X7_42 rfl (by decide +kernel) (by decide) (by decide) (Nat.le_of_ble_eq_true rfl) d_X7_meltOn_115 ?_
        refine z_nM e17 ?_
        exact z_sub [2, 3, 4, 5, 0, 6] rfl (k_X7_meltOn_118 C hlk hr ha0 hk16 h)
set_option maxRecDepth 4000 in
theorem k_X7_meltOn_124 {p : Program} {l : Launch} {e : Env} {s : State} {m : MethodId} {args : Array Value} {below : List Frame} {meth : Method} {c : Code} {G : GG} {M : Mm} {a0 : Nat} {x1 : Int32} {x2 : Int32} {x3 : Int32} {x4 : Int32} {M2 : Mm} (C : CX p s m args c prog_9_method_8_code 8 "SnowSentries$Scene" 0 G) (hlk : meth.locks = false) (hr : meth.sig.returnType = none) (ha0 : kU 0 a0 = 7) : f_X7_meltOn_124 M a0 x1 x2 x3 x4 = some M2 → Z p l e { frames := 3, cells := 0, slots := 0, locals := 67 } s m args below meth c 0 G 8 (MQ below (QC 0 G none M2) args s 0 0 (AU 0 G)) 124 [(0, .ref (gB G + a0)), (1, .int x1), (2, .int x2), (3, .int x3), (4, .int x4)] [] M := by
  intro h
  unfold f_X7_meltOn_124 at h
  refine z_aload_n 0 C d_X7_meltOn_124 rfl rfl ?_
  refine z_get (k := 2) (v := .ref (gB G + (a0 + 2))) C ((E_7 ha0 G) _ _) (kU_in ha0 (by decide)) rfl inX7 (by decide) wf_X7_17 rfl d_X7_meltOn_125 ?_
  refine z_iload_n 1 C d_X7_meltOn_128 rfl rfl ?_
  obtain ⟨q1, h⟩ := o_ck h
  refine z_ald ((E_21 (k_7_2 ha0) G) _ _) C (kU_in (k_7_2 ha0) (by decide)) q1 d_X7_meltOn_129 ?_
  refine z_iload_n 3 C d_X7_meltOn_130 rfl rfl ?_
  refine z_aload_n 0 C d_X7_meltOn_131 rfl rfl ?_
  refine z_get (k := 5) (v := .ref (gB G + (a0 + 5))) C ((E_7 ha0 G) _ _) (kU_in ha0 (by decide)) rfl inX7 (by decide) wf_X7_27 rfl d_X7_meltOn_132 ?_
  refine z_iload_n 2 C d_X7_meltOn_135 rfl rfl ?_
  obtain ⟨q2, h⟩ := o_ck h
  refine z_ald ((E_22 (k_7_5 ha0) G) _ _) C (kU_in (k_7_5 ha0) (by decide)) q2 d_X7_meltOn_136 ?_
  refine z_iadd C d_X7_meltOn_137 ?_
  refine z_mmin C wm_X7_93 wMs_min wMi wMc_min (Nat.le_of_ble_eq_true rfl) (Nat.le_of_ble_eq_true rfl) d_X7_meltOn_138 ?_
  obtain ⟨v3, e4, h⟩ := o_nm h
  refine z_nI e4 ?_
  refine z_istore (L' := [(5, .int v3), (0, .ref (gB G + a0)), (1, .int x1), (2, .int x2), (3, .int x3), (4, .int x4)]) C d_X7_meltOn_141 (by decide) rfl ?_
  refine z_aload_n 1 C d_X7_meltOn_143 rfl rfl ?_
  refine z_get (k := 3) (v := .ref (gB G + (a0 + 3))) C ((E_7 ha0 G) _ _) (kU_in ha0 (by decide)) rfl inX7 (by decide) wf_X7_21 rfl d_X7_meltOn_144 ?_
  refine z_iload_n 2 C d_X7_meltOn_147 rfl rfl ?_
  refine z_dup2 C d_X7_meltOn_148 rfl rfl ?_
  refine z_ald ((E_21 (k_7_3 ha0) G) _ _) C (kU_in (k_7_3 ha0) (by decide)) q1 d_X7_meltOn_149 ?_
  refine z_iload 0 C d_X7_meltOn_150 rfl ?_
  refine z_iadd C d_X7_meltOn_152 ?_
  obtain ⟨M5, e6, h⟩ := o_wr h
  refine z_ast (fun r q => (E_21 (k_7_3 ha0) G) r q) C (kU_in (k_7_3 ha0) (by decide)) q1 d_X7_meltOn_153 ?_
  refine z_nM e6 ?_
  refine z_aload_n 1 C d_X7_meltOn_154 rfl rfl ?_
  refine z_get (k := 2) (v := .ref (gB G + (a0 + 2))) C ((E_7 ha0 G) _ _) (kU_in ha0 (by decide)) rfl inX7 (by decide) wf_X7_17 rfl d_X7_meltOn_155 ?_
  refine z_iload_n 2 C d_X7_meltOn_158 rfl rfl ?_
  refine z_dup2 C d_X7_meltOn_159 rfl rfl ?_
  refine z_ald ((E_21 (k_7_2 ha0) G) _ _) C (kU_in (k_7_2 ha0) (by decide)) q1 d_X7_meltOn_160 ?_
  refine z_iload 5 C d_X7_meltOn_161 rfl ?_
  refine z_iload 0 C d_X7_meltOn_163 rfl ?_
  refine z_isub C d_X7_meltOn_165 ?_
  refine z_iadd C d_X7_meltOn_166 ?_
  obtain ⟨M7, e8, h⟩ := o_wr h
  refine z_ast (fun r q => (E_21 (k_7_2 ha0) G) r q) C (kU_in (k_7_2 ha0) (by decide)) q1 d_X7_meltOn_167 ?_
  refine z_nM e8 ?_
  obtain rfl := o_some h
  exact z_vret C hlk hr d_X7_meltOn_168
set_option maxRecDepth 4000 in
theorem kb_X7_meltOn_16 {p : Program} {l : Launch} {e : Env} {s : State} {m : MethodId} {args : Array Value} {below : List Frame} {meth : Method} {c : Code} {G : GG} {k16 : Mm → Int32 → Int32 → Option Mm} {a0 : Nat} {x1 : Int32} {x2 : Int32} {x3 : Int32} {M : Mm} {x4 : Int32} {x5 : Int32} {M2 : Mm} (C : CX p s m args c prog_9_method_8_code 8 "SnowSentries$Scene" 0 G) (hlk : meth.locks = false) (hr : meth.sig.returnType = none) (ha0 : kU 0 a0 = 7) (hk16 : ∀ (M : Mm) (x4 : Int32) (x5 : Int32), k16 M x4 x5 = some M2 → Z p l e { frames := 3, cells := 0, slots := 0, locals := 67 } s m args below meth c 0 G 8 (MQ below (QC 0 G none M2) args s 0 0 (AU 0 G)) 16 [(0, .ref (gB G + a0)), (1, .int x1), (2, .int x2), (3, .int x3), (4, .int x4), (5, .int x5)] [] M) : b_X7_meltOn_16 k16 a0 x1 x2 x3 M x4 x5 = some M2 → Z p l e { frames := 3, cells := 0, slots := 0, locals := 67 } s m args below meth c 0 G 8 (MQ below (QC 0 G none M2) args s 0 0 (AU 0 G)) 16 [(0, .ref (gB G + a0)), (1, .int x1), (2, .int x2), (3, .int x3), (4, .int x4), (5, .int x5)] [] M := by
  intro h
  unfold b_X7_meltOn_16 at h
  refine z_iload 5 C d_X7_meltOn_16 rfl ?_
  refine z_iconst (v := (2 : Int32)) C d_X7_meltOn_18 (by decide) ?_
  refine z_icmp_ge C d_X7_meltOn_19 (fun q1 => ?_) (fun q1 => ?_)
  · have h := o_t q1 h
    exact z_sub [0, 1, 2, 3, 4] rfl (k_X7_meltOn_124 C hlk hr ha0 h)
  · have h := o_f q1 h
    refine z_aload_n 0 C d_X7_meltOn_22 rfl rfl ?_
    refine z_iload 5 C d_X7_meltOn_23 rfl ?_
    refine z_iload_n 1 C d_X7_meltOn_25 rfl rfl ?_
    obtain ⟨p3, e2, h⟩ := o_bd h
    refine z_V (S := []) (As := [.int x5, .int x1]) C (c_X7_manOf l G ha0 e2) ((E_7 ha0 G) _ _) (kU_in ha0 (by decide)) rfl wc_X7_manOf wm_X7_76 ws_X7_manOf wl_X7_manOf wi_X7 hy_X7_manOf ⟨Nat.le_of_ble_eq_true rfl, Nat.le_of_ble_eq_true rfl⟩ rfl rfl (Nat.le_of_ble_eq_true rfl) d_X7_meltOn_26 ?_
    refine z_astore (L' := [(6, .ref (gB G + p3)), (0, .ref (gB G + a0)), (1, .int x1), (2, .int x2), (3, .int x3), (4, .int x4), (5, .int x5)]) C d_X7_meltOn_29 (by decide) rfl ?_
    refine z_aload 0 C d_X7_meltOn_31 rfl ?_
    refine z_get (k := 0) (v := .int (M.1 p3 0)) C ((E_6 (kr_X7_manOf ha0 e2) G) _ _) (kU_in (kr_X7_manOf ha0 e2) (by decide)) rfl inX6 (by decide) wf_X7_42 rfl d_X7_meltOn_33 ?_
    refine z_if_eq C d_X7_meltOn_36 (fun q4 => ?_) (fun q4 => ?_)
    · have h := o_t q4 h
      exact z_sub [1, 2, 3, 4, 5, 6] rfl (k_X7_meltOn_118 C hlk hr ha0 hk16 h)
    · have h := o_f q4 h
      refine z_aload 0 C d_X7_meltOn_39 rfl ?_
      refine z_get (k := 4) (v := .int (M.1 p3 4)) C ((E_6 (kr_X7_manOf ha0 e2) G) _ _) (kU_in (kr_X7_manOf ha0 e2) (by decide)) rfl inX6 (by decide) wf_X7_80 rfl d_X7_meltOn_41 ?_
      refine z_if_le C d_X7_meltOn_44 (fun q5 => ?_) (fun q5 => ?_)
      · have h := o_t q5 h
        refine z_iconst (v := (0 : Int32)) C d_X7_meltOn_51 (by decide) ?_
        exact z_sub [1, 2, 3, 4, 5, 6, 0] rfl (k_X7_meltOn_52 C hlk hr ha0 (kr_X7_manOf ha0 e2) hk16 h)
      · have h := o_f q5 h
        refine z_iconst (v := (1 : Int32)) C d_X7_meltOn_47 (by decide) ?_
        refine z_goto C d_X7_meltOn_48 ?_
        exact z_sub [1, 2, 3, 4, 5, 6, 0] rfl (k_X7_meltOn_52 C hlk hr ha0 (kr_X7_manOf ha0 e2) hk16 h)
theorem k_X7_meltOn_16 {p : Program} {l : Launch} {e : Env} {s : State} {m : MethodId} {args : Array Value} {below : List Frame} {meth : Method} {c : Code} {G : GG} {a0 : Nat} {x1 : Int32} {x2 : Int32} {x3 : Int32} {M2 : Mm} (C : CX p s m args c prog_9_method_8_code 8 "SnowSentries$Scene" 0 G) (hlk : meth.locks = false) (hr : meth.sig.returnType = none) (ha0 : kU 0 a0 = 7) : ∀ (n : Nat) (M : Mm) (x4 : Int32) (x5 : Int32), f_X7_meltOn_16 a0 x1 x2 x3 n M x4 x5 = some M2 → Z p l e { frames := 3, cells := 0, slots := 0, locals := 67 } s m args below meth c 0 G 8 (MQ below (QC 0 G none M2) args s 0 0 (AU 0 G)) 16 [(0, .ref (gB G + a0)), (1, .int x1), (2, .int x2), (3, .int x3), (4, .int x4), (5, .int x5)] [] M := by
  intro n
  induction n with
  | zero =>
    intro M x4 x5  h
    exact absurd h (fun z => by cases z)
  | succ n ih =>
    intro M x4 x5  h
    exact kb_X7_meltOn_16 C hlk hr ha0 (fun M x4 x5 h => ih M x4 x5 h) h
set_option maxRecDepth 4000 in
theorem k_X7_meltOn_0 {p : Program} {l : Launch} {e : Env} {s : State} {m : MethodId} {args : Array Value} {below : List Frame} {meth : Method} {c : Code} {G : GG} {M : Mm} {a0 : Nat} {x1 : Int32} {x2 : Int32} {M2 : Mm} (C : CX p s m args c prog_9_method_8_code 8 "SnowSentries$Scene" 0 G) (hlk : meth.locks = false) (hr : meth.sig.returnType = none) (ha0 : kU 0 a0 = 7) : f_X7_meltOn M a0 x1 x2 = some M2 → Z p l e { frames := 3, cells := 0, slots := 0, locals := 67 } s m args below meth c 0 G 8 (MQ below (QC 0 G none M2) args s 0 0 (AU 0 G)) 0 [(0, .ref (gB G + a0)), (1, .int x1), (2, .int x2)] [] M := by
  intro h
  unfold f_X7_meltOn at h
  refine z_aload_n 0 C d_X7_meltOn_0 rfl rfl ?_
  refine z_get (k := 6) (v := .ref (gB G + (a0 + 6))) C ((E_7 ha0 G) _ _) (kU_in ha0 (by decide)) rfl inX7 (by decide) wf_X7_33 rfl d_X7_meltOn_1 ?_
  refine z_iload_n 1 C d_X7_meltOn_4 rfl rfl ?_
  refine z_iload_n 2 C d_X7_meltOn_5 rfl rfl ?_
  obtain ⟨p2, e1, h⟩ := o_bd h
  refine z_V (S := []) (As := [.int x1, .int x2]) C (c_X0_warmthOn l G (k_7_6 ha0) e1) ((E_0 (k_7_6 ha0) G) _ _) (kU_in (k_7_6 ha0) (by decide)) rfl wc_X0_warmthOn wm_X7_68 ws_X0_warmthOn wl_X0_warmthOn wi_X0 hy_X0_warmthOn ⟨Nat.le_of_ble_eq_true rfl, Nat.le_of_ble_eq_true rfl⟩ rfl rfl (Nat.le_of_ble_eq_true rfl) d_X7_meltOn_6 ?_
  refine z_istore_n (L' := [(3, .int p2), (0, .ref (gB G + a0)), (1, .int x1), (2, .int x2)]) C d_X7_meltOn_9 rfl (by decide) rfl ?_
  refine z_iconst (v := (0 : Int32)) C d_X7_meltOn_10 (by decide) ?_
  refine z_istore (L' := [(4, .int (0 : Int32)), (3, .int p2), (0, .ref (gB G + a0)), (1, .int x1), (2, .int x2)]) C d_X7_meltOn_11 (by decide) rfl ?_
  refine z_iconst (v := (0 : Int32)) C d_X7_meltOn_13 (by decide) ?_
  refine z_istore (L' := [(5, .int (0 : Int32)), (4, .int (0 : Int32)), (3, .int p2), (0, .ref (gB G + a0)), (1, .int x1), (2, .int x2)]) C d_X7_meltOn_14 (by decide) rfl ?_
  exact z_sub [3, 4, 5, 2, 1, 0] rfl (k_X7_meltOn_16 C hlk hr ha0 _ _ _ _ h)
theorem c_X7_meltOn (l : Launch) (G : GG) {M : Mm} {a0 : Nat} {x1 : Int32} {x2 : Int32} {M2 : Mm} (ha0 : kU 0 a0 = 7) (h : f_X7_meltOn M a0 x1 x2 = some M2) : CT l 0 G y_X7_meltOn prog_9_method_8_code 8 none 3 67 [.ref (gB G + a0), .int x1, .int x2] M none M2 :=
  CT.of (by decide +kernel) (Nat.le_of_ble_eq_true rfl) rfl (fun p e s m args below meth c C hlk hr => k_X7_meltOn_0 C hlk hr ha0 h)
-- SnowSentries$Scene.freezeOn(II)V
set_option maxRecDepth 4000 in
theorem k_X7_freezeOn_0 {p : Program} {l : Launch} {e : Env} {s : State} {m : MethodId} {args : Array Value} {below : List Frame} {meth : Method} {c : Code} {G : GG} {M : Mm} {a0 : Nat} {x1 : Int32} {x2 : Int32} {M2 : Mm} (C : CX p s m args c prog_9_method_9_code 4 "SnowSentries$Scene" 0 G) (hlk : meth.locks = false) (hr : meth.sig.returnType = none) (ha0 : kU 0 a0 = 7) : f_X7_freezeOn M a0 x1 x2 = some M2 → Z p l e { frames := 1, cells := 0, slots := 0, locals := 21 } s m args below meth c 0 G 4 (MQ below (QC 0 G none M2) args s 0 0 (AU 0 G)) 0 [(0, .ref (gB G + a0)), (1, .int x1), (2, .int x2)] [] M := by
  intro h
  unfold f_X7_freezeOn at h
  refine z_aload_n 0 C d_X7_freezeOn_0 rfl rfl ?_
  refine z_get (k := 3) (v := .ref (gB G + (a0 + 3))) C ((E_7 ha0 G) _ _) (kU_in ha0 (by decide)) rfl inX7 (by decide) wf_X7_21 rfl d_X7_freezeOn_1 ?_
  refine z_iload_n 1 C d_X7_freezeOn_4 rfl rfl ?_
  obtain ⟨q1, h⟩ := o_ck h
  refine z_ald ((E_21 (k_7_3 ha0) G) _ _) C (kU_in (k_7_3 ha0) (by decide)) q1 d_X7_freezeOn_5 ?_
  refine z_iload_n 2 C d_X7_freezeOn_6 rfl rfl ?_
  refine z_mmin C wm_X7_93 wMs_min wMi wMc_min (Nat.le_of_ble_eq_true rfl) (Nat.le_of_ble_eq_true rfl) d_X7_freezeOn_7 ?_
  obtain ⟨v2, e3, h⟩ := o_nm h
  refine z_nI e3 ?_
  refine z_istore_n (L' := [(3, .int v2), (0, .ref (gB G + a0)), (1, .int x1), (2, .int x2)]) C d_X7_freezeOn_10 rfl (by decide) rfl ?_
  refine z_aload_n 1 C d_X7_freezeOn_11 rfl rfl ?_
  refine z_get (k := 3) (v := .ref (gB G + (a0 + 3))) C ((E_7 ha0 G) _ _) (kU_in ha0 (by decide)) rfl inX7 (by decide) wf_X7_21 rfl d_X7_freezeOn_12 ?_
  refine z_iload_n 2 C d_X7_freezeOn_15 rfl rfl ?_
  refine z_dup2 C d_X7_freezeOn_16 rfl rfl ?_
  refine z_ald ((E_21 (k_7_3 ha0) G) _ _) C (kU_in (k_7_3 ha0) (by decide)) q1 d_X7_freezeOn_17 ?_
  refine z_iload_n 0 C d_X7_freezeOn_18 rfl rfl ?_
  refine z_isub C d_X7_freezeOn_19 ?_
  obtain ⟨M4, e5, h⟩ := o_wr h
  refine z_ast (fun r q => (E_21 (k_7_3 ha0) G) r q) C (kU_in (k_7_3 ha0) (by decide)) q1 d_X7_freezeOn_20 ?_
  refine z_nM e5 ?_
  refine z_aload_n 1 C d_X7_freezeOn_21 rfl rfl ?_
  refine z_get (k := 2) (v := .ref (gB G + (a0 + 2))) C ((E_7 ha0 G) _ _) (kU_in ha0 (by decide)) rfl inX7 (by decide) wf_X7_17 rfl d_X7_freezeOn_22 ?_
  refine z_iload_n 2 C d_X7_freezeOn_25 rfl rfl ?_
  refine z_dup2 C d_X7_freezeOn_26 rfl rfl ?_
  refine z_ald ((E_21 (k_7_2 ha0) G) _ _) C (kU_in (k_7_2 ha0) (by decide)) q1 d_X7_freezeOn_27 ?_
  refine z_iload_n 0 C d_X7_freezeOn_28 rfl rfl ?_
  refine z_iadd C d_X7_freezeOn_29 ?_
  obtain ⟨M6, e7, h⟩ := o_wr h
  refine z_ast (fun r q => (E_21 (k_7_2 ha0) G) r q) C (kU_in (k_7_2 ha0) (by decide)) q1 d_X7_freezeOn_30 ?_
  refine z_nM e7 ?_
  obtain rfl := o_some h
  exact z_vret C hlk hr d_X7_freezeOn_31
theorem c_X7_freezeOn (l : Launch) (G : GG) {M : Mm} {a0 : Nat} {x1 : Int32} {x2 : Int32} {M2 : Mm} (ha0 : kU 0 a0 = 7) (h : f_X7_freezeOn M a0 x1 x2 = some M2) : CT l 0 G y_X7_freezeOn prog_9_method_9_code 4 none 1 21 [.ref (gB G + a0), .int x1, .int x2] M none M2 :=
  CT.of (by decide +kernel) (Nat.le_of_ble_eq_true rfl) rfl (fun p e s m args below meth c C hlk hr => k_X7_freezeOn_0 C hlk hr ha0 h)
-- SnowSentries$Scene.become(LSnowSentries$Scene;)V
set_option maxRecDepth 4000 in
theorem k_X7_become_37 {p : Program} {l : Launch} {e : Env} {s : State} {m : MethodId} {args : Array Value} {below : List Frame} {meth : Method} {c : Code} {G : GG} {M : Mm} {a0 : Nat} {a1 : Nat} {M2 : Mm} (C : CX p s m args c prog_9_method_3_code 3 "SnowSentries$Scene" 0 G) (hlk : meth.locks = false) (hr : meth.sig.returnType = none) (ha0 : kU 0 a0 = 7) (ha1 : kU 0 a1 = 7) : f_X7_become_37 M a0 a1 = some M2 → Z p l e { frames := 2, cells := 0, slots := 0, locals := 81 } s m args below meth c 0 G 3 (MQ below (QC 0 G none M2) args s 0 0 (AU 0 G)) 37 [(0, .ref (gB G + a0)), (1, .ref (gB G + a1))] [] M := by
  intro h
  unfold f_X7_become_37 at h
  refine z_aload_n 1 C d_X7_become_37 rfl rfl ?_
  refine z_get (k := 2) (v := .ref (gB G + (a1 + 2))) C ((E_7 ha1 G) _ _) (kU_in ha1 (by decide)) rfl inX7 (by decide) wf_X7_17 rfl d_X7_become_38 ?_
  refine z_iconst (v := (0 : Int32)) C d_X7_become_41 (by decide) ?_
  refine z_aload_n 0 C d_X7_become_42 rfl rfl ?_
  refine z_get (k := 2) (v := .ref (gB G + (a0 + 2))) C ((E_7 ha0 G) _ _) (kU_in ha0 (by decide)) rfl inX7 (by decide) wf_X7_17 rfl d_X7_become_43 ?_
  refine z_iconst (v := (0 : Int32)) C d_X7_become_46 (by decide) ?_
  refine z_bipush (v := (10 : Int32)) C d_X7_become_47 (by decide) ?_
  obtain ⟨M1, e2, h⟩ := o_wr h
  refine z_copy (n := 10) (fun r q => (E_21 (k_7_2 ha1) G) r q) (fun r q => (E_21 (k_7_2 ha0) G) r q) C (kU_in (k_7_2 ha1) (by decide)) (kU_in (k_7_2 ha0) (by decide)) (by decide) (by decide) wm_X7_59 wAn wAs wAi (Nat.le_of_ble_eq_true rfl) (Nat.le_of_ble_eq_true rfl) d_X7_become_49 ?_
  refine z_nM e2 ?_
  refine z_aload_n 1 C d_X7_become_52 rfl rfl ?_
  refine z_get (k := 3) (v := .ref (gB G + (a1 + 3))) C ((E_7 ha1 G) _ _) (kU_in ha1 (by decide)) rfl inX7 (by decide) wf_X7_21 rfl d_X7_become_53 ?_
  refine z_iconst (v := (0 : Int32)) C d_X7_become_56 (by decide) ?_
  refine z_aload_n 0 C d_X7_become_57 rfl rfl ?_
  refine z_get (k := 3) (v := .ref (gB G + (a0 + 3))) C ((E_7 ha0 G) _ _) (kU_in ha0 (by decide)) rfl inX7 (by decide) wf_X7_21 rfl d_X7_become_58 ?_
  refine z_iconst (v := (0 : Int32)) C d_X7_become_61 (by decide) ?_
  refine z_bipush (v := (10 : Int32)) C d_X7_become_62 (by decide) ?_
  obtain ⟨M3, e4, h⟩ := o_wr h
  refine z_copy (n := 10) (fun r q => (E_21 (k_7_3 ha1) G) r q) (fun r q => (E_21 (k_7_3 ha0) G) r q) C (kU_in (k_7_3 ha1) (by decide)) (kU_in (k_7_3 ha0) (by decide)) (by decide) (by decide) wm_X7_59 wAn wAs wAi (Nat.le_of_ble_eq_true rfl) (Nat.le_of_ble_eq_true rfl) d_X7_become_64 ?_
  refine z_nM e4 ?_
  refine z_aload_n 1 C d_X7_become_67 rfl rfl ?_
  refine z_get (k := 4) (v := .ref (gB G + (a1 + 4))) C ((E_7 ha1 G) _ _) (kU_in ha1 (by decide)) rfl inX7 (by decide) wf_X7_24 rfl d_X7_become_68 ?_
  refine z_iconst (v := (0 : Int32)) C d_X7_become_71 (by decide) ?_
  refine z_aload_n 0 C d_X7_become_72 rfl rfl ?_
  refine z_get (k := 4) (v := .ref (gB G + (a0 + 4))) C ((E_7 ha0 G) _ _) (kU_in ha0 (by decide)) rfl inX7 (by decide) wf_X7_24 rfl d_X7_become_73 ?_
  refine z_iconst (v := (0 : Int32)) C d_X7_become_76 (by decide) ?_
  refine z_bipush (v := (10 : Int32)) C d_X7_become_77 (by decide) ?_
  obtain ⟨M5, e6, h⟩ := o_wr h
  refine z_copy (n := 10) (fun r q => (E_21 (k_7_4 ha1) G) r q) (fun r q => (E_21 (k_7_4 ha0) G) r q) C (kU_in (k_7_4 ha1) (by decide)) (kU_in (k_7_4 ha0) (by decide)) (by decide) (by decide) wm_X7_59 wAn wAs wAi (Nat.le_of_ble_eq_true rfl) (Nat.le_of_ble_eq_true rfl) d_X7_become_79 ?_
  refine z_nM e6 ?_
  refine z_aload_n 1 C d_X7_become_82 rfl rfl ?_
  refine z_get (k := 5) (v := .ref (gB G + (a1 + 5))) C ((E_7 ha1 G) _ _) (kU_in ha1 (by decide)) rfl inX7 (by decide) wf_X7_27 rfl d_X7_become_83 ?_
  refine z_iconst (v := (0 : Int32)) C d_X7_become_86 (by decide) ?_
  refine z_aload_n 0 C d_X7_become_87 rfl rfl ?_
  refine z_get (k := 5) (v := .ref (gB G + (a0 + 5))) C ((E_7 ha0 G) _ _) (kU_in ha0 (by decide)) rfl inX7 (by decide) wf_X7_27 rfl d_X7_become_88 ?_
  refine z_iconst (v := (0 : Int32)) C d_X7_become_91 (by decide) ?_
  refine z_bipush (v := (12 : Int32)) C d_X7_become_92 (by decide) ?_
  obtain ⟨M7, e8, h⟩ := o_wr h
  refine z_copy (n := 12) (fun r q => (E_22 (k_7_5 ha1) G) r q) (fun r q => (E_22 (k_7_5 ha0) G) r q) C (kU_in (k_7_5 ha1) (by decide)) (kU_in (k_7_5 ha0) (by decide)) (by decide) (by decide) wm_X7_59 wAn wAs wAi (Nat.le_of_ble_eq_true rfl) (Nat.le_of_ble_eq_true rfl) d_X7_become_94 ?_
  refine z_nM e8 ?_
  refine z_aload_n 0 C d_X7_become_97 rfl rfl ?_
  refine z_get (k := 6) (v := .ref (gB G + (a0 + 6))) C ((E_7 ha0 G) _ _) (kU_in ha0 (by decide)) rfl inX7 (by decide) wf_X7_33 rfl d_X7_become_98 ?_
  refine z_aload_n 1 C d_X7_become_101 rfl rfl ?_
  refine z_get (k := 6) (v := .ref (gB G + (a1 + 6))) C ((E_7 ha1 G) _ _) (kU_in ha1 (by decide)) rfl inX7 (by decide) wf_X7_33 rfl d_X7_become_102 ?_
  obtain ⟨p10, e9, h⟩ := o_bd h
  refine z_V (S := []) (As := [.ref (gB G + (a1 + 6))]) C (c_X0_become l G (k_7_6 ha0) (k_7_6 ha1) e9) ((E_0 (k_7_6 ha0) G) _ _) (kU_in (k_7_6 ha0) (by decide)) rfl wc_X0_become wm_X7_65 ws_X0_become wl_X0_become wi_X0 hy_X0_become ⟨Nat.le_of_ble_eq_true rfl, Nat.le_of_ble_eq_true rfl⟩ rfl rfl (Nat.le_of_ble_eq_true rfl) d_X7_become_105 ?_
  obtain rfl := o_some h
  exact z_vret C hlk hr d_X7_become_108
set_option maxRecDepth 4000 in
theorem kb_X7_become_10 {p : Program} {l : Launch} {e : Env} {s : State} {m : MethodId} {args : Array Value} {below : List Frame} {meth : Method} {c : Code} {G : GG} {k10 : Mm → Int32 → Option Mm} {a0 : Nat} {a1 : Nat} {M : Mm} {x2 : Int32} {M2 : Mm} (C : CX p s m args c prog_9_method_3_code 3 "SnowSentries$Scene" 0 G) (hlk : meth.locks = false) (hr : meth.sig.returnType = none) (ha0 : kU 0 a0 = 7) (ha1 : kU 0 a1 = 7) (hk10 : ∀ (M : Mm) (x2 : Int32), k10 M x2 = some M2 → Z p l e { frames := 2, cells := 0, slots := 0, locals := 81 } s m args below meth c 0 G 3 (MQ below (QC 0 G none M2) args s 0 0 (AU 0 G)) 10 [(0, .ref (gB G + a0)), (1, .ref (gB G + a1)), (2, .int x2)] [] M) : b_X7_become_10 k10 a0 a1 M x2 = some M2 → Z p l e { frames := 2, cells := 0, slots := 0, locals := 81 } s m args below meth c 0 G 3 (MQ below (QC 0 G none M2) args s 0 0 (AU 0 G)) 10 [(0, .ref (gB G + a0)), (1, .ref (gB G + a1)), (2, .int x2)] [] M := by
  intro h
  unfold b_X7_become_10 at h
  refine z_iload_n 2 C d_X7_become_10 rfl rfl ?_
  refine z_bipush (v := (20 : Int32)) C d_X7_become_11 (by decide) ?_
  refine z_icmp_ge C d_X7_become_13 (fun q1 => ?_) (fun q1 => ?_)
  · have h := o_t q1 h
    exact z_sub [0, 1] rfl (k_X7_become_37 C hlk hr ha0 ha1 h)
  · have h := o_f q1 h
    refine z_aload_n 0 C d_X7_become_16 rfl rfl ?_
    refine z_get (k := 1) (v := .ref (gB G + (a0 + 1))) C ((E_7 ha0 G) _ _) (kU_in ha0 (by decide)) rfl inX7 (by decide) wf_X7_11 rfl d_X7_become_17 ?_
    refine z_iload_n 2 C d_X7_become_20 rfl rfl ?_
    obtain ⟨q2, h⟩ := o_ck h
    refine z_rld (t := 4) (b := ((a0 + 1) + 10 + x2.toNatClampNeg)) ((E_28 (k_7_1 ha0) G) _ _) C (kU_in (k_7_1 ha0) (by decide)) rfl rfl q2 (if_pos (inn_lt q2)) d_X7_become_21 ?_
    refine z_aload_n 1 C d_X7_become_22 rfl rfl ?_
    refine z_get (k := 1) (v := .ref (gB G + (a1 + 1))) C ((E_7 ha1 G) _ _) (kU_in ha1 (by decide)) rfl inX7 (by decide) wf_X7_11 rfl d_X7_become_23 ?_
    refine z_iload_n 2 C d_X7_become_26 rfl rfl ?_
    refine z_rld (t := 4) (b := ((a1 + 1) + 10 + x2.toNatClampNeg)) ((E_28 (k_7_1 ha1) G) _ _) C (kU_in (k_7_1 ha1) (by decide)) rfl rfl q2 (if_pos (inn_lt q2)) d_X7_become_27 ?_
    obtain ⟨p4, e3, h⟩ := o_bd h
    refine z_V (S := []) (As := [.ref (gB G + ((a1 + 1) + 10 + x2.toNatClampNeg))]) C (c_X6_become l G (k_28 (k_7_1 ha0) (inn_lt q2)) (k_28 (k_7_1 ha1) (inn_lt q2)) e3) ((E_6 (k_28 (k_7_1 ha0) (inn_lt q2)) G) _ _) (kU_in (k_28 (k_7_1 ha0) (inn_lt q2)) (by decide)) rfl wc_X6_become wm_X7_55 ws_X6_become wl_X6_become wi_X6 hy_X6_become ⟨Nat.le_of_ble_eq_true rfl, Nat.le_of_ble_eq_true rfl⟩ rfl rfl (Nat.le_of_ble_eq_true rfl) d_X7_become_28 ?_
    refine z_iinc (v := (1 : Int32)) (L' := [(2, .int (x2 + (1 : Int32))), (0, .ref (gB G + a0)), (1, .ref (gB G + a1))]) 2 C d_X7_become_31 rfl (by decide) (by decide) rfl ?_
    refine z_goto C d_X7_become_34 ?_
    exact z_sub [1, 2, 0] rfl (hk10 _ _  h)
theorem k_X7_become_10 {p : Program} {l : Launch} {e : Env} {s : State} {m : MethodId} {args : Array Value} {below : List Frame} {meth : Method} {c : Code} {G : GG} {a0 : Nat} {a1 : Nat} {M2 : Mm} (C : CX p s m args c prog_9_method_3_code 3 "SnowSentries$Scene" 0 G) (hlk : meth.locks = false) (hr : meth.sig.returnType = none) (ha0 : kU 0 a0 = 7) (ha1 : kU 0 a1 = 7) : ∀ (n : Nat) (M : Mm) (x2 : Int32), f_X7_become_10 a0 a1 n M x2 = some M2 → Z p l e { frames := 2, cells := 0, slots := 0, locals := 81 } s m args below meth c 0 G 3 (MQ below (QC 0 G none M2) args s 0 0 (AU 0 G)) 10 [(0, .ref (gB G + a0)), (1, .ref (gB G + a1)), (2, .int x2)] [] M := by
  intro n
  induction n with
  | zero =>
    intro M x2  h
    exact absurd h (fun z => by cases z)
  | succ n ih =>
    intro M x2  h
    exact kb_X7_become_10 C hlk hr ha0 ha1 (fun M x2 h => ih M x2 h) h
set_option maxRecDepth 4000 in
theorem k_X7_become_0 {p : Program} {l : Launch} {e : Env} {s : State} {m : MethodId} {args : Array Value} {below : List Frame} {meth : Method} {c : Code} {G : GG} {M : Mm} {a0 : Nat} {a1 : Nat} {M2 : Mm} (C : CX p s m args c prog_9_method_3_code 3 "SnowSentries$Scene" 0 G) (hlk : meth.locks = false) (hr : meth.sig.returnType = none) (ha0 : kU 0 a0 = 7) (ha1 : kU 0 a1 = 7) : f_X7_become M a0 a1 = some M2 → Z p l e { frames := 2, cells := 0, slots := 0, locals := 81 } s m args below meth c 0 G 3 (MQ below (QC 0 G none M2) args s 0 0 (AU 0 G)) 0 [(0, .ref (gB G + a0)), (1, .ref (gB G + a1))] [] M := by
  intro h
  unfold f_X7_become at h
  refine z_aload_n 0 C d_X7_become_0 rfl rfl ?_
  refine z_aload_n 1 C d_X7_become_1 rfl rfl ?_
  refine z_get (k := 0) (v := .int (M.1 a1 0)) C ((E_7 ha1 G) _ _) (kU_in ha1 (by decide)) rfl inX7 (by decide) wf_X7_38 rfl d_X7_become_2 ?_
  obtain ⟨M1, e2, h⟩ := o_wr h
  refine z_pI (k := 0) (ty := .int) C (fun r q => (E_7 ha0 G) r q) (fun _ _ => rfl) (kU_in ha0 (by decide)) rfl inX7 tyX7 tyX7_ok nmX7 (by decide) wf_X7_38 rfl (by decide +kernel) rfl rfl (Nat.le_of_ble_eq_true rfl) d_X7_become_5 ?_
  refine z_nM e2 ?_
  refine z_iconst (v := (0 : Int32)) C d_X7_become_8 (by decide) ?_
  refine z_istore_n (L' := [(2, .int (0 : Int32)), (0, .ref (gB G + a0)), (1, .ref (gB G + a1))]) C d_X7_become_9 rfl (by decide) rfl ?_
  exact z_sub [1, 2, 0] rfl (k_X7_become_10 C hlk hr ha0 ha1 _ _ _ h)
theorem c_X7_become (l : Launch) (G : GG) {M : Mm} {a0 : Nat} {a1 : Nat} {M2 : Mm} (ha0 : kU 0 a0 = 7) (ha1 : kU 0 a1 = 7) (h : f_X7_become M a0 a1 = some M2) : CT l 0 G y_X7_become prog_9_method_3_code 3 none 2 81 [.ref (gB G + a0), .ref (gB G + a1)] M none M2 :=
  CT.of (by decide +kernel) (Nat.le_of_ble_eq_true rfl) rfl (fun p e s m args below meth c C hlk hr => k_X7_become_0 C hlk hr ha0 ha1 h)
-- SnowSentries$Scene.heatOn(II)I
set_option maxRecDepth 4000 in
theorem k_X7_heatOn_0 {p : Program} {l : Launch} {e : Env} {s : State} {m : MethodId} {args : Array Value} {below : List Frame} {meth : Method} {c : Code} {G : GG} {M : Mm} {a0 : Nat} {x1 : Int32} {x2 : Int32} {r : Int32} (C : CX p s m args c prog_9_method_5_code 3 "SnowSentries$Scene" 0 G) (hlk : meth.locks = false) (hr : meth.sig.returnType = (some .int)) (ha0 : kU 0 a0 = 7) : f_X7_heatOn M a0 x1 x2 = some r → Z p l e { frames := 3, cells := 0, slots := 0, locals := 67 } s m args below meth c 0 G 3 (MQ below (QC 0 G (some (.int r)) M) args s 0 0 (AU 0 G)) 0 [(0, .ref (gB G + a0)), (1, .int x1), (2, .int x2)] [] M := by
  intro h
  unfold f_X7_heatOn at h
  refine z_aload_n 0 C d_X7_heatOn_0 rfl rfl ?_
  refine z_get (k := 5) (v := .ref (gB G + (a0 + 5))) C ((E_7 ha0 G) _ _) (kU_in ha0 (by decide)) rfl inX7 (by decide) wf_X7_27 rfl d_X7_heatOn_1 ?_
  refine z_iload_n 2 C d_X7_heatOn_4 rfl rfl ?_
  obtain ⟨q1, h⟩ := o_ck h
  refine z_ald ((E_22 (k_7_5 ha0) G) _ _) C (kU_in (k_7_5 ha0) (by decide)) q1 d_X7_heatOn_5 ?_
  refine z_aload_n 0 C d_X7_heatOn_6 rfl rfl ?_
  refine z_get (k := 6) (v := .ref (gB G + (a0 + 6))) C ((E_7 ha0 G) _ _) (kU_in ha0 (by decide)) rfl inX7 (by decide) wf_X7_33 rfl d_X7_heatOn_7 ?_
  refine z_iload_n 1 C d_X7_heatOn_10 rfl rfl ?_
  refine z_iload_n 2 C d_X7_heatOn_11 rfl rfl ?_
  obtain ⟨p3, e2, h⟩ := o_bd h
  refine z_V (S := [.int (M.1 (a0 + 5) x2.toNatClampNeg)]) (As := [.int x1, .int x2]) C (c_X0_warmthOn l G (k_7_6 ha0) e2) ((E_0 (k_7_6 ha0) G) _ _) (kU_in (k_7_6 ha0) (by decide)) rfl wc_X0_warmthOn wm_X7_68 ws_X0_warmthOn wl_X0_warmthOn wi_X0 hy_X0_warmthOn ⟨Nat.le_of_ble_eq_true rfl, Nat.le_of_ble_eq_true rfl⟩ rfl rfl (Nat.le_of_ble_eq_true rfl) d_X7_heatOn_12 ?_
  refine z_iadd C d_X7_heatOn_15 ?_
  obtain rfl := o_some h
  exact z_iret C hlk hr d_X7_heatOn_16
theorem c_X7_heatOn (l : Launch) (G : GG) {M : Mm} {a0 : Nat} {x1 : Int32} {x2 : Int32} {r : Int32} (ha0 : kU 0 a0 = 7) (h : f_X7_heatOn M a0 x1 x2 = some r) : CT l 0 G y_X7_heatOn prog_9_method_5_code 3 (some .int) 3 67 [.ref (gB G + a0), .int x1, .int x2] M (some (.int r)) M :=
  CT.of (by decide +kernel) (Nat.le_of_ble_eq_true rfl) rfl (fun p e s m args below meth c C hlk hr => k_X7_heatOn_0 C hlk hr ha0 h)
-- SnowSentries$Scene.menInAll()I
set_option maxRecDepth 4000 in
theorem k_X7_menInAll_25 {p : Program} {l : Launch} {e : Env} {s : State} {m : MethodId} {args : Array Value} {below : List Frame} {meth : Method} {c : Code} {G : GG} {k4 : Int32 → Int32 → Option Int32} {M : Mm} {a0 : Nat} {x1 : Int32} {x2 : Int32} {r : Int32} (C : CX p s m args c prog_9_method_6_code 3 "SnowSentries$Scene" 0 G) (hlk : meth.locks = false) (hr : meth.sig.returnType = (some .int)) (ha0 : kU 0 a0 = 7) (hk4 : ∀ (x1 : Int32) (x2 : Int32), k4 x1 x2 = some r → Z p l e { frames := 0, cells := 0, slots := 0, locals := 0 } s m args below meth c 0 G 3 (MQ below (QC 0 G (some (.int r)) M) args s 0 0 (AU 0 G)) 4 [(0, .ref (gB G + a0)), (1, .int x1), (2, .int x2)] [] M) : f_X7_menInAll_25 k4 M a0 x1 x2 = some r → Z p l e { frames := 0, cells := 0, slots := 0, locals := 0 } s m args below meth c 0 G 3 (MQ below (QC 0 G (some (.int r)) M) args s 0 0 (AU 0 G)) 25 [(0, .ref (gB G + a0)), (1, .int x1), (2, .int x2)] [] M := by
  intro h
  unfold f_X7_menInAll_25 at h
  refine z_iinc (v := (1 : Int32)) (L' := [(2, .int (x2 + (1 : Int32))), (0, .ref (gB G + a0)), (1, .int x1)]) 2 C d_X7_menInAll_25 rfl (by decide) (by decide) rfl ?_
  refine z_goto C d_X7_menInAll_28 ?_
  exact z_sub [1, 2, 0] rfl (hk4 _ _  h)
set_option maxRecDepth 4000 in
theorem kb_X7_menInAll_4 {p : Program} {l : Launch} {e : Env} {s : State} {m : MethodId} {args : Array Value} {below : List Frame} {meth : Method} {c : Code} {G : GG} {k4 : Int32 → Int32 → Option Int32} {M : Mm} {a0 : Nat} {x1 : Int32} {x2 : Int32} {r : Int32} (C : CX p s m args c prog_9_method_6_code 3 "SnowSentries$Scene" 0 G) (hlk : meth.locks = false) (hr : meth.sig.returnType = (some .int)) (ha0 : kU 0 a0 = 7) (hk4 : ∀ (x1 : Int32) (x2 : Int32), k4 x1 x2 = some r → Z p l e { frames := 0, cells := 0, slots := 0, locals := 0 } s m args below meth c 0 G 3 (MQ below (QC 0 G (some (.int r)) M) args s 0 0 (AU 0 G)) 4 [(0, .ref (gB G + a0)), (1, .int x1), (2, .int x2)] [] M) : b_X7_menInAll_4 k4 M a0 x1 x2 = some r → Z p l e { frames := 0, cells := 0, slots := 0, locals := 0 } s m args below meth c 0 G 3 (MQ below (QC 0 G (some (.int r)) M) args s 0 0 (AU 0 G)) 4 [(0, .ref (gB G + a0)), (1, .int x1), (2, .int x2)] [] M := by
  intro h
  unfold b_X7_menInAll_4 at h
  refine z_iload_n 2 C d_X7_menInAll_4 rfl rfl ?_
  refine z_bipush (v := (20 : Int32)) C d_X7_menInAll_5 (by decide) ?_
  refine z_icmp_ge C d_X7_menInAll_7 (fun q1 => ?_) (fun q1 => ?_)
  · have h := o_t q1 h
    refine z_iload_n 1 C d_X7_menInAll_31 rfl rfl ?_
    obtain rfl := o_some h
    exact z_iret C hlk hr d_X7_menInAll_32
  · have h := o_f q1 h
    refine z_aload_n 0 C d_X7_menInAll_10 rfl rfl ?_
    refine z_get (k := 1) (v := .ref (gB G + (a0 + 1))) C ((E_7 ha0 G) _ _) (kU_in ha0 (by decide)) rfl inX7 (by decide) wf_X7_11 rfl d_X7_menInAll_11 ?_
    refine z_iload_n 2 C d_X7_menInAll_14 rfl rfl ?_
    obtain ⟨q2, h⟩ := o_ck h
    refine z_rld (t := 4) (b := ((a0 + 1) + 10 + x2.toNatClampNeg)) ((E_28 (k_7_1 ha0) G) _ _) C (kU_in (k_7_1 ha0) (by decide)) rfl rfl q2 (if_pos (inn_lt q2)) d_X7_menInAll_15 ?_
    refine z_get (k := 0) (v := .int (M.1 ((a0 + 1) + 10 + x2.toNatClampNeg) 0)) C ((E_6 (k_28 (k_7_1 ha0) (inn_lt q2)) G) _ _) (kU_in (k_28 (k_7_1 ha0) (inn_lt q2)) (by decide)) rfl inX6 (by decide) wf_X7_42 rfl d_X7_menInAll_16 ?_
    refine z_if_eq C d_X7_menInAll_19 (fun q3 => ?_) (fun q3 => ?_)
    · have h := o_t q3 h
      exact z_sub [0, 1, 2] rfl (k_X7_menInAll_25 C hlk hr ha0 hk4 h)
    · have h := o_f q3 h
      refine z_iinc (v := (1 : Int32)) (L' := [(1, .int (x1 + (1 : Int32))), (0, .ref (gB G + a0)), (2, .int x2)]) 1 C d_X7_menInAll_22 rfl (by decide) (by decide) rfl ?_
      exact z_sub [1, 0, 2] rfl (k_X7_menInAll_25 C hlk hr ha0 hk4 h)
theorem k_X7_menInAll_4 {p : Program} {l : Launch} {e : Env} {s : State} {m : MethodId} {args : Array Value} {below : List Frame} {meth : Method} {c : Code} {G : GG} {M : Mm} {a0 : Nat} {r : Int32} (C : CX p s m args c prog_9_method_6_code 3 "SnowSentries$Scene" 0 G) (hlk : meth.locks = false) (hr : meth.sig.returnType = (some .int)) (ha0 : kU 0 a0 = 7) : ∀ (n : Nat) (x1 : Int32) (x2 : Int32), f_X7_menInAll_4 M a0 n x1 x2 = some r → Z p l e { frames := 0, cells := 0, slots := 0, locals := 0 } s m args below meth c 0 G 3 (MQ below (QC 0 G (some (.int r)) M) args s 0 0 (AU 0 G)) 4 [(0, .ref (gB G + a0)), (1, .int x1), (2, .int x2)] [] M := by
  intro n
  induction n with
  | zero =>
    intro x1 x2  h
    exact absurd h (fun z => by cases z)
  | succ n ih =>
    intro x1 x2  h
    exact kb_X7_menInAll_4 C hlk hr ha0 (fun x1 x2 h => ih x1 x2 h) h
set_option maxRecDepth 4000 in
theorem k_X7_menInAll_0 {p : Program} {l : Launch} {e : Env} {s : State} {m : MethodId} {args : Array Value} {below : List Frame} {meth : Method} {c : Code} {G : GG} {M : Mm} {a0 : Nat} {r : Int32} (C : CX p s m args c prog_9_method_6_code 3 "SnowSentries$Scene" 0 G) (hlk : meth.locks = false) (hr : meth.sig.returnType = (some .int)) (ha0 : kU 0 a0 = 7) : f_X7_menInAll M a0 = some r → Z p l e { frames := 0, cells := 0, slots := 0, locals := 0 } s m args below meth c 0 G 3 (MQ below (QC 0 G (some (.int r)) M) args s 0 0 (AU 0 G)) 0 [(0, .ref (gB G + a0))] [] M := by
  intro h
  unfold f_X7_menInAll at h
  refine z_iconst (v := (0 : Int32)) C d_X7_menInAll_0 (by decide) ?_
  refine z_istore_n (L' := [(1, .int (0 : Int32)), (0, .ref (gB G + a0))]) C d_X7_menInAll_1 rfl (by decide) rfl ?_
  refine z_iconst (v := (0 : Int32)) C d_X7_menInAll_2 (by decide) ?_
  refine z_istore_n (L' := [(2, .int (0 : Int32)), (1, .int (0 : Int32)), (0, .ref (gB G + a0))]) C d_X7_menInAll_3 rfl (by decide) rfl ?_
  exact z_sub [2, 1, 0] rfl (k_X7_menInAll_4 C hlk hr ha0 _ _ _ h)
theorem c_X7_menInAll (l : Launch) (G : GG) {M : Mm} {a0 : Nat} {r : Int32} (ha0 : kU 0 a0 = 7) (h : f_X7_menInAll M a0 = some r) : CT l 0 G y_X7_menInAll prog_9_method_6_code 3 (some .int) 0 0 [.ref (gB G + a0)] M (some (.int r)) M :=
  CT.of (by decide +kernel) (Nat.le_of_ble_eq_true rfl) rfl (fun p e s m args below meth c C hlk hr => k_X7_menInAll_0 C hlk hr ha0 h)
-- SnowSentries$Scene.snowInAll()I
set_option maxRecDepth 4000 in
theorem kb_X7_snowInAll_30 {p : Program} {l : Launch} {e : Env} {s : State} {m : MethodId} {args : Array Value} {below : List Frame} {meth : Method} {c : Code} {G : GG} {k30 : Int32 → Int32 → Option Int32} {M : Mm} {a0 : Nat} {x1 : Int32} {x2 : Int32} {r : Int32} (C : CX p s m args c prog_9_method_7_code 3 "SnowSentries$Scene" 0 G) (hlk : meth.locks = false) (hr : meth.sig.returnType = (some .int)) (ha0 : kU 0 a0 = 7) (hk30 : ∀ (x1 : Int32) (x2 : Int32), k30 x1 x2 = some r → Z p l e { frames := 1, cells := 0, slots := 0, locals := 20 } s m args below meth c 0 G 3 (MQ below (QC 0 G (some (.int r)) M) args s 0 0 (AU 0 G)) 30 [(0, .ref (gB G + a0)), (1, .int x1), (2, .int x2)] [] M) : b_X7_snowInAll_30 k30 M a0 x1 x2 = some r → Z p l e { frames := 1, cells := 0, slots := 0, locals := 20 } s m args below meth c 0 G 3 (MQ below (QC 0 G (some (.int r)) M) args s 0 0 (AU 0 G)) 30 [(0, .ref (gB G + a0)), (1, .int x1), (2, .int x2)] [] M := by
  intro h
  unfold b_X7_snowInAll_30 at h
  refine z_iload_n 2 C d_X7_snowInAll_30 rfl rfl ?_
  refine z_bipush (v := (10 : Int32)) C d_X7_snowInAll_31 (by decide) ?_
  refine z_icmp_ge C d_X7_snowInAll_33 (fun q1 => ?_) (fun q1 => ?_)
  · have h := o_t q1 h
    refine z_iload_n 1 C d_X7_snowInAll_58 rfl rfl ?_
    obtain rfl := o_some h
    exact z_iret C hlk hr d_X7_snowInAll_59
  · have h := o_f q1 h
    refine z_iload_n 1 C d_X7_snowInAll_36 rfl rfl ?_
    refine z_aload_n 0 C d_X7_snowInAll_37 rfl rfl ?_
    refine z_get (k := 2) (v := .ref (gB G + (a0 + 2))) C ((E_7 ha0 G) _ _) (kU_in ha0 (by decide)) rfl inX7 (by decide) wf_X7_17 rfl d_X7_snowInAll_38 ?_
    refine z_iload_n 2 C d_X7_snowInAll_41 rfl rfl ?_
    obtain ⟨q2, h⟩ := o_ck h
    refine z_ald ((E_21 (k_7_2 ha0) G) _ _) C (kU_in (k_7_2 ha0) (by decide)) q2 d_X7_snowInAll_42 ?_
    refine z_aload_n 0 C d_X7_snowInAll_43 rfl rfl ?_
    refine z_get (k := 3) (v := .ref (gB G + (a0 + 3))) C ((E_7 ha0 G) _ _) (kU_in ha0 (by decide)) rfl inX7 (by decide) wf_X7_21 rfl d_X7_snowInAll_44 ?_
    refine z_iload_n 2 C d_X7_snowInAll_47 rfl rfl ?_
    refine z_ald ((E_21 (k_7_3 ha0) G) _ _) C (kU_in (k_7_3 ha0) (by decide)) q2 d_X7_snowInAll_48 ?_
    refine z_iadd C d_X7_snowInAll_49 ?_
    refine z_iadd C d_X7_snowInAll_50 ?_
    obtain ⟨v3, e4, h⟩ := o_nm h
    refine z_nI e4 ?_
    refine z_istore_n (L' := [(1, .int v3), (0, .ref (gB G + a0)), (2, .int x2)]) C d_X7_snowInAll_51 rfl (by decide) rfl ?_
    refine z_iinc (v := (1 : Int32)) (L' := [(2, .int (x2 + (1 : Int32))), (1, .int v3), (0, .ref (gB G + a0))]) 2 C d_X7_snowInAll_52 rfl (by decide) (by decide) rfl ?_
    refine z_goto C d_X7_snowInAll_55 ?_
    exact z_sub [2, 1, 0] rfl (hk30 _ _  h)
theorem k_X7_snowInAll_30 {p : Program} {l : Launch} {e : Env} {s : State} {m : MethodId} {args : Array Value} {below : List Frame} {meth : Method} {c : Code} {G : GG} {M : Mm} {a0 : Nat} {r : Int32} (C : CX p s m args c prog_9_method_7_code 3 "SnowSentries$Scene" 0 G) (hlk : meth.locks = false) (hr : meth.sig.returnType = (some .int)) (ha0 : kU 0 a0 = 7) : ∀ (n : Nat) (x1 : Int32) (x2 : Int32), f_X7_snowInAll_30 M a0 n x1 x2 = some r → Z p l e { frames := 1, cells := 0, slots := 0, locals := 20 } s m args below meth c 0 G 3 (MQ below (QC 0 G (some (.int r)) M) args s 0 0 (AU 0 G)) 30 [(0, .ref (gB G + a0)), (1, .int x1), (2, .int x2)] [] M := by
  intro n
  induction n with
  | zero =>
    intro x1 x2  h
    exact absurd h (fun z => by cases z)
  | succ n ih =>
    intro x1 x2  h
    exact kb_X7_snowInAll_30 C hlk hr ha0 (fun x1 x2 h => ih x1 x2 h) h
set_option maxRecDepth 4000 in
theorem k_X7_snowInAll_28 {p : Program} {l : Launch} {e : Env} {s : State} {m : MethodId} {args : Array Value} {below : List Frame} {meth : Method} {c : Code} {G : GG} {M : Mm} {a0 : Nat} {x1 : Int32} {r : Int32} (C : CX p s m args c prog_9_method_7_code 3 "SnowSentries$Scene" 0 G) (hlk : meth.locks = false) (hr : meth.sig.returnType = (some .int)) (ha0 : kU 0 a0 = 7) : f_X7_snowInAll_28 M a0 x1 = some r → Z p l e { frames := 1, cells := 0, slots := 0, locals := 20 } s m args below meth c 0 G 3 (MQ below (QC 0 G (some (.int r)) M) args s 0 0 (AU 0 G)) 28 [(0, .ref (gB G + a0)), (1, .int x1)] [] M := by
  intro h
  unfold f_X7_snowInAll_28 at h
  refine z_iconst (v := (0 : Int32)) C d_X7_snowInAll_28 (by decide) ?_
  refine z_istore_n (L' := [(2, .int (0 : Int32)), (0, .ref (gB G + a0)), (1, .int x1)]) C d_X7_snowInAll_29 rfl (by decide) rfl ?_
  exact z_sub [1, 2, 0] rfl (k_X7_snowInAll_30 C hlk hr ha0 _ _ _ h)
set_option maxRecDepth 4000 in
theorem kb_X7_snowInAll_4 {p : Program} {l : Launch} {e : Env} {s : State} {m : MethodId} {args : Array Value} {below : List Frame} {meth : Method} {c : Code} {G : GG} {k4 : Int32 → Int32 → Option Int32} {M : Mm} {a0 : Nat} {x1 : Int32} {x2 : Int32} {r : Int32} (C : CX p s m args c prog_9_method_7_code 3 "SnowSentries$Scene" 0 G) (hlk : meth.locks = false) (hr : meth.sig.returnType = (some .int)) (ha0 : kU 0 a0 = 7) (hk4 : ∀ (x1 : Int32) (x2 : Int32), k4 x1 x2 = some r → Z p l e { frames := 1, cells := 0, slots := 0, locals := 20 } s m args below meth c 0 G 3 (MQ below (QC 0 G (some (.int r)) M) args s 0 0 (AU 0 G)) 4 [(0, .ref (gB G + a0)), (1, .int x1), (2, .int x2)] [] M) : b_X7_snowInAll_4 k4 M a0 x1 x2 = some r → Z p l e { frames := 1, cells := 0, slots := 0, locals := 20 } s m args below meth c 0 G 3 (MQ below (QC 0 G (some (.int r)) M) args s 0 0 (AU 0 G)) 4 [(0, .ref (gB G + a0)), (1, .int x1), (2, .int x2)] [] M := by
  intro h
  unfold b_X7_snowInAll_4 at h
  refine z_iload_n 2 C d_X7_snowInAll_4 rfl rfl ?_
  refine z_bipush (v := (20 : Int32)) C d_X7_snowInAll_5 (by decide) ?_
  refine z_icmp_ge C d_X7_snowInAll_7 (fun q1 => ?_) (fun q1 => ?_)
  · have h := o_t q1 h
    exact z_sub [0, 1] rfl (k_X7_snowInAll_28 C hlk hr ha0 h)
  · have h := o_f q1 h
    refine z_iload_n 1 C d_X7_snowInAll_10 rfl rfl ?_
    refine z_aload_n 0 C d_X7_snowInAll_11 rfl rfl ?_
    refine z_get (k := 1) (v := .ref (gB G + (a0 + 1))) C ((E_7 ha0 G) _ _) (kU_in ha0 (by decide)) rfl inX7 (by decide) wf_X7_11 rfl d_X7_snowInAll_12 ?_
    refine z_iload_n 2 C d_X7_snowInAll_15 rfl rfl ?_
    obtain ⟨q2, h⟩ := o_ck h
    refine z_rld (t := 4) (b := ((a0 + 1) + 10 + x2.toNatClampNeg)) ((E_28 (k_7_1 ha0) G) _ _) C (kU_in (k_7_1 ha0) (by decide)) rfl rfl q2 (if_pos (inn_lt q2)) d_X7_snowInAll_16 ?_
    obtain ⟨p4, e3, h⟩ := o_bd h
    refine z_V (S := [.int x1]) (As := []) C (c_X6_snowOf l G (k_28 (k_7_1 ha0) (inn_lt q2)) e3) ((E_6 (k_28 (k_7_1 ha0) (inn_lt q2)) G) _ _) (kU_in (k_28 (k_7_1 ha0) (inn_lt q2)) (by decide)) rfl wc_X6_snowOf wm_X7_72 ws_X6_snowOf wl_X6_snowOf wi_X6 hy_X6_snowOf ⟨Nat.le_of_ble_eq_true rfl, Nat.le_of_ble_eq_true rfl⟩ rfl rfl (Nat.le_of_ble_eq_true rfl) d_X7_snowInAll_17 ?_
    refine z_iadd C d_X7_snowInAll_20 ?_
    obtain ⟨v5, e6, h⟩ := o_nm h
    refine z_nI e6 ?_
    refine z_istore_n (L' := [(1, .int v5), (0, .ref (gB G + a0)), (2, .int x2)]) C d_X7_snowInAll_21 rfl (by decide) rfl ?_
    refine z_iinc (v := (1 : Int32)) (L' := [(2, .int (x2 + (1 : Int32))), (1, .int v5), (0, .ref (gB G + a0))]) 2 C d_X7_snowInAll_22 rfl (by decide) (by decide) rfl ?_
    refine z_goto C d_X7_snowInAll_25 ?_
    exact z_sub [2, 1, 0] rfl (hk4 _ _  h)
theorem k_X7_snowInAll_4 {p : Program} {l : Launch} {e : Env} {s : State} {m : MethodId} {args : Array Value} {below : List Frame} {meth : Method} {c : Code} {G : GG} {M : Mm} {a0 : Nat} {r : Int32} (C : CX p s m args c prog_9_method_7_code 3 "SnowSentries$Scene" 0 G) (hlk : meth.locks = false) (hr : meth.sig.returnType = (some .int)) (ha0 : kU 0 a0 = 7) : ∀ (n : Nat) (x1 : Int32) (x2 : Int32), f_X7_snowInAll_4 M a0 n x1 x2 = some r → Z p l e { frames := 1, cells := 0, slots := 0, locals := 20 } s m args below meth c 0 G 3 (MQ below (QC 0 G (some (.int r)) M) args s 0 0 (AU 0 G)) 4 [(0, .ref (gB G + a0)), (1, .int x1), (2, .int x2)] [] M := by
  intro n
  induction n with
  | zero =>
    intro x1 x2  h
    exact absurd h (fun z => by cases z)
  | succ n ih =>
    intro x1 x2  h
    exact kb_X7_snowInAll_4 C hlk hr ha0 (fun x1 x2 h => ih x1 x2 h) h
set_option maxRecDepth 4000 in
theorem k_X7_snowInAll_0 {p : Program} {l : Launch} {e : Env} {s : State} {m : MethodId} {args : Array Value} {below : List Frame} {meth : Method} {c : Code} {G : GG} {M : Mm} {a0 : Nat} {r : Int32} (C : CX p s m args c prog_9_method_7_code 3 "SnowSentries$Scene" 0 G) (hlk : meth.locks = false) (hr : meth.sig.returnType = (some .int)) (ha0 : kU 0 a0 = 7) : f_X7_snowInAll M a0 = some r → Z p l e { frames := 1, cells := 0, slots := 0, locals := 20 } s m args below meth c 0 G 3 (MQ below (QC 0 G (some (.int r)) M) args s 0 0 (AU 0 G)) 0 [(0, .ref (gB G + a0))] [] M := by
  intro h
  unfold f_X7_snowInAll at h
  refine z_iconst (v := (0 : Int32)) C d_X7_snowInAll_0 (by decide) ?_
  refine z_istore_n (L' := [(1, .int (0 : Int32)), (0, .ref (gB G + a0))]) C d_X7_snowInAll_1 rfl (by decide) rfl ?_
  refine z_iconst (v := (0 : Int32)) C d_X7_snowInAll_2 (by decide) ?_
  refine z_istore_n (L' := [(2, .int (0 : Int32)), (1, .int (0 : Int32)), (0, .ref (gB G + a0))]) C d_X7_snowInAll_3 rfl (by decide) rfl ?_
  exact z_sub [2, 1, 0] rfl (k_X7_snowInAll_4 C hlk hr ha0 _ _ _ h)
theorem c_X7_snowInAll (l : Launch) (G : GG) {M : Mm} {a0 : Nat} {r : Int32} (ha0 : kU 0 a0 = 7) (h : f_X7_snowInAll M a0 = some r) : CT l 0 G y_X7_snowInAll prog_9_method_7_code 3 (some .int) 1 20 [.ref (gB G + a0)] M (some (.int r)) M :=
  CT.of (by decide +kernel) (Nat.le_of_ble_eq_true rfl) rfl (fun p e s m args below meth c C hlk hr => k_X7_snowInAll_0 C hlk hr ha0 h)
