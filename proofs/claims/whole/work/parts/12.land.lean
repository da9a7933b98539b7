def y_X4_lackOf : MethodName := ⟨"SnowSentries$Land", "lackOf", "(LSnowSentries$Man;II)I"⟩
def y_X4_needOf : MethodName := ⟨"SnowSentries$Land", "needOf", "(III)I"⟩
def y_X4_wipe : MethodName := ⟨"SnowSentries$Land", "wipe", "()V"⟩
def y_X4_putHouse : MethodName := ⟨"SnowSentries$Land", "putHouse", "(II)V"⟩
def y_X4_ownerOf : MethodName := ⟨"SnowSentries$Land", "ownerOf", "(ILSnowSentries$Scene;)I"⟩
def y_X4_counting : MethodName := ⟨"SnowSentries$Land", "counting", "(LSnowSentries$Scene;I)I"⟩
def y_X4_strengthBy : MethodName := ⟨"SnowSentries$Land", "strengthBy", "(II)I"⟩
def y_X4_moveLine : MethodName := ⟨"SnowSentries$Land", "moveLine", "(LSnowSentries$Scene;I)V"⟩
def y_X4_passTill : MethodName := ⟨"SnowSentries$Land", "passTill", "(LSnowSentries$Scene;I)V"⟩
def y_X4_holders : MethodName := ⟨"SnowSentries$Land", "holders", "(II)I"⟩
theorem wm_X4_97 : Cond.methodLink "SnowSentries$Land" 97 Lib.Math.max.name ∈ TB := it_4 (List.mem_of_getElem? (i := 86) rfl) rfl
theorem wf_X4_31 : Cond.fieldLink "SnowSentries$Land" 31 "SnowSentries$Land" "scene" "LSnowSentries$Scene;" ∈ TB := it_2 (List.mem_of_getElem? (i := 154) rfl) rfl
theorem wf_X4_100 : Cond.fieldLink "SnowSentries$Land" 100 "SnowSentries$Scene" "fires" "LSnowSentries$Braziers;" ∈ TB := it_1 (List.mem_of_getElem? (i := 186) rfl) rfl
theorem wm_X4_104 : Cond.methodLink "SnowSentries$Land" 104 y_X0_warmthOn ∈ TB := it_4 (List.mem_of_getElem? (i := 151) rfl) rfl
theorem wf_X4_109 : Cond.fieldLink "SnowSentries$Land" 109 "SnowSentries$Scene" "sun" "[I" ∈ TB := it_1 (List.mem_of_getElem? (i := 182) rfl) rfl
theorem wm_X4_112 : Cond.methodLink "SnowSentries$Land" 112 y_X6_lossBy ∈ TB := it_4 (List.mem_of_getElem? (i := 152) rfl) rfl
theorem wf_X4_18 : Cond.fieldLink "SnowSentries$Land" 18 "SnowSentries$Land" "law" "LSnowSentries$Law;" ∈ TB := it_2 (List.mem_of_getElem? (i := 143) rfl) rfl
theorem wf_X4_72 : Cond.fieldLink "SnowSentries$Land" 72 "SnowSentries$Law" "head" "I" ∈ TB := it_2 (List.mem_of_getElem? (i := 98) rfl) rfl
theorem wf_X4_67 : Cond.fieldLink "SnowSentries$Land" 67 "SnowSentries$Man" "head" "I" ∈ TB := it_1 (List.mem_of_getElem? (i := 136) rfl) rfl
theorem wf_X4_73 : Cond.fieldLink "SnowSentries$Land" 73 "SnowSentries$Scene" "hour" "I" ∈ TB := it_1 (List.mem_of_getElem? (i := 167) rfl) rfl
theorem wm_X4_59 : Cond.methodLink "SnowSentries$Land" 59 y_X7_manOf ∈ TB := it_3 (List.mem_of_getElem? (i := 198) rfl) rfl
theorem wm_X4_63 : Cond.methodLink "SnowSentries$Land" 63 y_X5_suits ∈ TB := it_3 (List.mem_of_getElem? (i := 199) rfl) rfl
theorem wc_X5_suits : Cond.code y_X5_suits prog_7_method_4_code 2 (some .boolean) ∈ TB := it_3 (List.mem_of_getElem? (i := 202) rfl) rfl
theorem ws_X5_suits : Cond.instanceMethod y_X5_suits ∈ TB := it_3 (List.mem_of_getElem? (i := 200) rfl) rfl
theorem wi_X5 : Cond.initialized "SnowSentries$Law" ∈ TB := it_1 (List.mem_of_getElem? (i := 12) rfl) rfl
theorem hy_X5_suits : (y_X5_suits).cls ≠ "java/lang/invoke/MethodHandle" ∧ (y_X5_suits).cls ≠ "java/lang/invoke/VarHandle" ∧ (parseMethodDescriptor (y_X5_suits).desc).map (fun d => d.parameters.length) = some 1 := by decide +kernel
theorem wl_X5_suits : Cond.selects "SnowSentries$Law" y_X5_suits y_X5_suits ∈ TB := it_3 (List.mem_of_getElem? (i := 201) rfl) rfl
theorem wm_X4_115 : Cond.methodLink "SnowSentries$Land" 115 y_X4_lackOf ∈ TB := it_4 (List.mem_of_getElem? (i := 147) rfl) rfl
theorem wc_X4_lackOf : Cond.code y_X4_lackOf prog_6_method_9_code 6 (some .int) ∈ TB := it_4 (List.mem_of_getElem? (i := 150) rfl) rfl
theorem ws_X4_lackOf : Cond.instanceMethod y_X4_lackOf ∈ TB := it_4 (List.mem_of_getElem? (i := 149) rfl) rfl
theorem wi_X4 : Cond.initialized "SnowSentries$Land" ∈ TB := it_1 (List.mem_of_getElem? (i := 11) rfl) rfl
theorem hy_X4_lackOf : (y_X4_lackOf).cls ≠ "java/lang/invoke/MethodHandle" ∧ (y_X4_lackOf).cls ≠ "java/lang/invoke/VarHandle" ∧ (parseMethodDescriptor (y_X4_lackOf).desc).map (fun d => d.parameters.length) = some 3 := by decide +kernel
theorem wl_X4_lackOf : Cond.selects "SnowSentries$Land" y_X4_lackOf y_X4_lackOf ∈ TB := TB_in (List.mem_append_left _ (List.mem_of_getElem? (i := 26) rfl)) rfl
theorem wf_X4_38 : Cond.fieldLink "SnowSentries$Land" 38 "SnowSentries$Land" "furlongs" "I" ∈ TB := it_2 (List.mem_of_getElem? (i := 132) rfl) rfl
theorem wf_X4_42 : Cond.fieldLink "SnowSentries$Land" 42 "SnowSentries$Land" "chance" "I" ∈ TB := it_2 (List.mem_of_getElem? (i := 137) rfl) rfl
theorem wf_X4_9 : Cond.fieldLink "SnowSentries$Land" 9 "SnowSentries$Land" "frost" "[I" ∈ TB := it_2 (List.mem_of_getElem? (i := 140) rfl) rfl
theorem wm_X4_45 : Cond.methodLink "SnowSentries$Land" 45 y_J7_fill_53178 ∈ TB := it_2 (List.mem_of_getElem? (i := 120) rfl) rfl
theorem wm_X4_51 : Cond.methodLink "SnowSentries$Land" 51 y_X5_wipe ∈ TB := it_2 (List.mem_of_getElem? (i := 123) rfl) rfl
theorem wc_X5_wipe : Cond.code y_X5_wipe prog_7_method_2_code 1 none ∈ TB := it_2 (List.mem_of_getElem? (i := 126) rfl) rfl
theorem ws_X5_wipe : Cond.instanceMethod y_X5_wipe ∈ TB := it_2 (List.mem_of_getElem? (i := 124) rfl) rfl
theorem hy_X5_wipe : (y_X5_wipe).cls ≠ "java/lang/invoke/MethodHandle" ∧ (y_X5_wipe).cls ≠ "java/lang/invoke/VarHandle" ∧ (parseMethodDescriptor (y_X5_wipe).desc).map (fun d => d.parameters.length) = some 0 := by decide +kernel
theorem wl_X5_wipe : Cond.selects "SnowSentries$Law" y_X5_wipe y_X5_wipe ∈ TB := it_2 (List.mem_of_getElem? (i := 125) rfl) rfl
theorem wf_X4_52 : Cond.fieldLink "SnowSentries$Land" 52 "SnowSentries$Land" "houseCount" "I" ∈ TB := it_2 (List.mem_of_getElem? (i := 147) rfl) rfl
theorem wm_X4_55 : Cond.methodLink "SnowSentries$Land" 55 y_X7_wipe ∈ TB := it_2 (List.mem_of_getElem? (i := 127) rfl) rfl
theorem wc_X7_wipe : Cond.code y_X7_wipe prog_9_method_2_code 2 none ∈ TB := it_2 (List.mem_of_getElem? (i := 130) rfl) rfl
theorem ws_X7_wipe : Cond.instanceMethod y_X7_wipe ∈ TB := it_2 (List.mem_of_getElem? (i := 128) rfl) rfl
theorem hy_X7_wipe : (y_X7_wipe).cls ≠ "java/lang/invoke/MethodHandle" ∧ (y_X7_wipe).cls ≠ "java/lang/invoke/VarHandle" ∧ (parseMethodDescriptor (y_X7_wipe).desc).map (fun d => d.parameters.length) = some 0 := by decide +kernel
theorem wl_X7_wipe : Cond.selects "SnowSentries$Scene" y_X7_wipe y_X7_wipe ∈ TB := it_2 (List.mem_of_getElem? (i := 129) rfl) rfl
theorem wf_X4_22 : Cond.fieldLink "SnowSentries$Land" 22 "SnowSentries$Land" "houseFurlong" "[I" ∈ TB := it_2 (List.mem_of_getElem? (i := 150) rfl) rfl
theorem wf_X4_25 : Cond.fieldLink "SnowSentries$Land" 25 "SnowSentries$Land" "housePlace" "[I" ∈ TB := it_2 (List.mem_of_getElem? (i := 152) rfl) rfl
theorem wf_X4_56 : Cond.fieldLink "SnowSentries$Land" 56 "SnowSentries$Scene" "lines" "[I" ∈ TB := it_1 (List.mem_of_getElem? (i := 176) rfl) rfl
theorem wm_X4_87 : Cond.methodLink "SnowSentries$Land" 87 y_X4_counting ∈ TB := it_4 (List.mem_of_getElem? (i := 84) rfl) rfl
theorem wc_X4_counting : Cond.code y_X4_counting prog_6_method_5_code 6 (some .int) ∈ TB := it_3 (List.mem_of_getElem? (i := 197) rfl) rfl
theorem ws_X4_counting : Cond.instanceMethod y_X4_counting ∈ TB := it_3 (List.mem_of_getElem? (i := 195) rfl) rfl
theorem hy_X4_counting : (y_X4_counting).cls ≠ "java/lang/invoke/MethodHandle" ∧ (y_X4_counting).cls ≠ "java/lang/invoke/VarHandle" ∧ (parseMethodDescriptor (y_X4_counting).desc).map (fun d => d.parameters.length) = some 2 := by decide +kernel
theorem wl_X4_counting : Cond.selects "SnowSentries$Land" y_X4_counting y_X4_counting ∈ TB := it_3 (List.mem_of_getElem? (i := 196) rfl) rfl
theorem wm_X4_91 : Cond.methodLink "SnowSentries$Land" 91 Lib.Math.min.name ∈ TB := it_4 (List.mem_of_getElem? (i := 85) rfl) rfl
theorem wm_X4_76 : Cond.methodLink "SnowSentries$Land" 76 y_X7_meltOn ∈ TB := it_4 (List.mem_of_getElem? (i := 55) rfl) rfl
theorem wc_X7_meltOn : Cond.code y_X7_meltOn prog_9_method_8_code 8 none ∈ TB := it_4 (List.mem_of_getElem? (i := 58) rfl) rfl
theorem ws_X7_meltOn : Cond.instanceMethod y_X7_meltOn ∈ TB := it_4 (List.mem_of_getElem? (i := 56) rfl) rfl
theorem hy_X7_meltOn : (y_X7_meltOn).cls ≠ "java/lang/invoke/MethodHandle" ∧ (y_X7_meltOn).cls ≠ "java/lang/invoke/VarHandle" ∧ (parseMethodDescriptor (y_X7_meltOn).desc).map (fun d => d.parameters.length) = some 2 := by decide +kernel
theorem wl_X7_meltOn : Cond.selects "SnowSentries$Scene" y_X7_meltOn y_X7_meltOn ∈ TB := it_4 (List.mem_of_getElem? (i := 57) rfl) rfl
theorem wm_X4_80 : Cond.methodLink "SnowSentries$Land" 80 y_X7_freezeOn ∈ TB := it_4 (List.mem_of_getElem? (i := 76) rfl) rfl
theorem wc_X7_freezeOn : Cond.code y_X7_freezeOn prog_9_method_9_code 4 none ∈ TB := it_4 (List.mem_of_getElem? (i := 79) rfl) rfl
theorem ws_X7_freezeOn : Cond.instanceMethod y_X7_freezeOn ∈ TB := it_4 (List.mem_of_getElem? (i := 77) rfl) rfl
theorem hy_X7_freezeOn : (y_X7_freezeOn).cls ≠ "java/lang/invoke/MethodHandle" ∧ (y_X7_freezeOn).cls ≠ "java/lang/invoke/VarHandle" ∧ (parseMethodDescriptor (y_X7_freezeOn).desc).map (fun d => d.parameters.length) = some 2 := by decide +kernel
theorem wl_X7_freezeOn : Cond.selects "SnowSentries$Scene" y_X7_freezeOn y_X7_freezeOn ∈ TB := it_4 (List.mem_of_getElem? (i := 78) rfl) rfl
theorem wm_X4_83 : Cond.methodLink "SnowSentries$Land" 83 y_X4_moveLine ∈ TB := it_4 (List.mem_of_getElem? (i := 80) rfl) rfl
theorem wc_X4_moveLine : Cond.code y_X4_moveLine prog_6_method_8_code 4 none ∈ TB := it_4 (List.mem_of_getElem? (i := 83) rfl) rfl
theorem ws_X4_moveLine : Cond.instanceMethod y_X4_moveLine ∈ TB := it_4 (List.mem_of_getElem? (i := 82) rfl) rfl
theorem hy_X4_moveLine : (y_X4_moveLine).cls ≠ "java/lang/invoke/MethodHandle" ∧ (y_X4_moveLine).cls ≠ "java/lang/invoke/VarHandle" ∧ (parseMethodDescriptor (y_X4_moveLine).desc).map (fun d => d.parameters.length) = some 2 := by decide +kernel
theorem wl_X4_moveLine : Cond.selects "SnowSentries$Land" y_X4_moveLine y_X4_moveLine ∈ TB := TB_in (List.mem_append_left _ (List.mem_of_getElem? (i := 23) rfl)) rfl
theorem wm_X4_119 : Cond.methodLink "SnowSentries$Land" 119 y_X4_needOf ∈ TB := it_4 (List.mem_of_getElem? (i := 143) rfl) rfl
theorem wc_X4_needOf : Cond.code y_X4_needOf prog_6_method_10_code 6 (some .int) ∈ TB := it_4 (List.mem_of_getElem? (i := 146) rfl) rfl
theorem ws_X4_needOf : Cond.instanceMethod y_X4_needOf ∈ TB := it_4 (List.mem_of_getElem? (i := 144) rfl) rfl
theorem hy_X4_needOf : (y_X4_needOf).cls ≠ "java/lang/invoke/MethodHandle" ∧ (y_X4_needOf).cls ≠ "java/lang/invoke/VarHandle" ∧ (parseMethodDescriptor (y_X4_needOf).desc).map (fun d => d.parameters.length) = some 3 := by decide +kernel
theorem wl_X4_needOf : Cond.selects "SnowSentries$Land" y_X4_needOf y_X4_needOf ∈ TB := it_4 (List.mem_of_getElem? (i := 145) rfl) rfl
theorem d_X4_lackOf_0 : DD prog_6_method_9_code 0 (.aload_n 0) 1 1 := ⟨by decide +kernel, rfl⟩
theorem d_X4_lackOf_1 : DD prog_6_method_9_code 1 (.getfield 18) 3 4 := ⟨by decide +kernel, rfl⟩
theorem d_X4_lackOf_4 : DD prog_6_method_9_code 4 (.getfield 72) 3 7 := ⟨by decide +kernel, rfl⟩
theorem d_X4_lackOf_7 : DD prog_6_method_9_code 7 (.aload_n 1) 1 8 := ⟨by decide +kernel, rfl⟩
theorem d_X4_lackOf_8 : DD prog_6_method_9_code 8 (.getfield 67) 3 11 := ⟨by decide +kernel, rfl⟩
theorem d_X4_lackOf_11 : DD prog_6_method_9_code 11 (.isub) 1 12 := ⟨by decide +kernel, rfl⟩
theorem d_X4_lackOf_12 : DD prog_6_method_9_code 12 (.istore 4) 2 14 := ⟨by decide +kernel, rfl⟩
theorem d_X4_lackOf_14 : DD prog_6_method_9_code 14 (.aload_n 0) 1 15 := ⟨by decide +kernel, rfl⟩
theorem d_X4_lackOf_15 : DD prog_6_method_9_code 15 (.getfield 31) 3 18 := ⟨by decide +kernel, rfl⟩
theorem d_X4_lackOf_18 : DD prog_6_method_9_code 18 (.getfield 73) 3 21 := ⟨by decide +kernel, rfl⟩
theorem d_X4_lackOf_21 : DD prog_6_method_9_code 21 (.istore 5) 2 23 := ⟨by decide +kernel, rfl⟩
theorem d_X4_lackOf_23 : DD prog_6_method_9_code 23 (.iload 5) 2 25 := ⟨by decide +kernel, rfl⟩
theorem d_X4_lackOf_25 : DD prog_6_method_9_code 25 (.iload_n 3) 1 26 := ⟨by decide +kernel, rfl⟩
theorem d_X4_lackOf_26 : DJ prog_6_method_9_code 26 (fun o => .if_icmp .ge o) 74 3 29 := ⟨by decide +kernel, rfl⟩
theorem d_X4_lackOf_29 : DD prog_6_method_9_code 29 (.iload 5) 2 31 := ⟨by decide +kernel, rfl⟩
theorem d_X4_lackOf_31 : DD prog_6_method_9_code 31 (.bipush 12) 2 33 := ⟨by decide +kernel, rfl⟩
theorem d_X4_lackOf_33 : DJ prog_6_method_9_code 33 (fun o => .if_icmp .ge o) 74 3 36 := ⟨by decide +kernel, rfl⟩
theorem d_X4_lackOf_36 : DD prog_6_method_9_code 36 (.iload 4) 2 38 := ⟨by decide +kernel, rfl⟩
theorem d_X4_lackOf_38 : DD prog_6_method_9_code 38 (.aload_n 1) 1 39 := ⟨by decide +kernel, rfl⟩
theorem d_X4_lackOf_39 : DD prog_6_method_9_code 39 (.aload_n 0) 1 40 := ⟨by decide +kernel, rfl⟩
theorem d_X4_lackOf_40 : DD prog_6_method_9_code 40 (.getfield 31) 3 43 := ⟨by decide +kernel, rfl⟩
theorem d_X4_lackOf_43 : DD prog_6_method_9_code 43 (.getfield 100) 3 46 := ⟨by decide +kernel, rfl⟩
theorem d_X4_lackOf_46 : DD prog_6_method_9_code 46 (.iload_n 2) 1 47 := ⟨by decide +kernel, rfl⟩
theorem d_X4_lackOf_47 : DD prog_6_method_9_code 47 (.iload 5) 2 49 := ⟨by decide +kernel, rfl⟩
theorem d_X4_lackOf_49 : DD prog_6_method_9_code 49 (.invokevirtual 104) 3 52 := ⟨by decide +kernel, rfl⟩
theorem d_X4_lackOf_52 : DD prog_6_method_9_code 52 (.aload_n 0) 1 53 := ⟨by decide +kernel, rfl⟩
theorem d_X4_lackOf_53 : DD prog_6_method_9_code 53 (.getfield 31) 3 56 := ⟨by decide +kernel, rfl⟩
theorem d_X4_lackOf_56 : DD prog_6_method_9_code 56 (.getfield 109) 3 59 := ⟨by decide +kernel, rfl⟩
theorem d_X4_lackOf_59 : DD prog_6_method_9_code 59 (.iload 5) 2 61 := ⟨by decide +kernel, rfl⟩
theorem d_X4_lackOf_61 : DD prog_6_method_9_code 61 (.iaload) 1 62 := ⟨by decide +kernel, rfl⟩
theorem d_X4_lackOf_62 : DD prog_6_method_9_code 62 (.invokevirtual 112) 3 65 := ⟨by decide +kernel, rfl⟩
theorem d_X4_lackOf_65 : DD prog_6_method_9_code 65 (.iadd) 1 66 := ⟨by decide +kernel, rfl⟩
theorem d_X4_lackOf_66 : DD prog_6_method_9_code 66 (.istore 4) 2 68 := ⟨by decide +kernel, rfl⟩
theorem d_X4_lackOf_68 : DD prog_6_method_9_code 68 (.iinc 5 1) 3 71 := ⟨by decide +kernel, rfl⟩
theorem d_X4_lackOf_71 : DJ prog_6_method_9_code 71 (fun o => .goto o) 23 3 74 := ⟨by decide +kernel, rfl⟩
theorem d_X4_lackOf_74 : DD prog_6_method_9_code 74 (.iconst 0) 1 75 := ⟨by decide +kernel, rfl⟩
theorem d_X4_lackOf_75 : DD prog_6_method_9_code 75 (.iload 4) 2 77 := ⟨by decide +kernel, rfl⟩
theorem d_X4_lackOf_77 : DD prog_6_method_9_code 77 (.invokestatic 97) 3 80 := ⟨by decide +kernel, rfl⟩
theorem d_X4_lackOf_80 : DD prog_6_method_9_code 80 (.ireturn) 1 81 := ⟨by decide +kernel, rfl⟩
theorem d_X4_needOf_0 : DD prog_6_method_10_code 0 (.aload_n 0) 1 1 := ⟨by decide +kernel, rfl⟩
theorem d_X4_needOf_1 : DD prog_6_method_10_code 1 (.getfield 31) 3 4 := ⟨by decide +kernel, rfl⟩
theorem d_X4_needOf_4 : DD prog_6_method_10_code 4 (.iload_n 1) 1 5 := ⟨by decide +kernel, rfl⟩
theorem d_X4_needOf_5 : DD prog_6_method_10_code 5 (.iload_n 2) 1 6 := ⟨by decide +kernel, rfl⟩
theorem d_X4_needOf_6 : DD prog_6_method_10_code 6 (.invokevirtual 59) 3 9 := ⟨by decide +kernel, rfl⟩
theorem d_X4_needOf_9 : DD prog_6_method_10_code 9 (.astore 4) 2 11 := ⟨by decide +kernel, rfl⟩
theorem d_X4_needOf_11 : DD prog_6_method_10_code 11 (.aload_n 0) 1 12 := ⟨by decide +kernel, rfl⟩
theorem d_X4_needOf_12 : DD prog_6_method_10_code 12 (.getfield 18) 3 15 := ⟨by decide +kernel, rfl⟩
theorem d_X4_needOf_15 : DD prog_6_method_10_code 15 (.aload 4) 2 17 := ⟨by decide +kernel, rfl⟩
theorem d_X4_needOf_17 : DD prog_6_method_10_code 17 (.invokevirtual 63) 3 20 := ⟨by decide +kernel, rfl⟩
theorem d_X4_needOf_20 : DJ prog_6_method_10_code 20 (fun o => .ifCond .ne o) 26 3 23 := ⟨by decide +kernel, rfl⟩
theorem d_X4_needOf_23 : DD prog_6_method_10_code 23 (.bipush (-4)) 2 25 := ⟨by decide +kernel, rfl⟩
theorem d_X4_needOf_25 : DD prog_6_method_10_code 25 (.ireturn) 1 26 := ⟨by decide +kernel, rfl⟩
theorem d_X4_needOf_26 : DD prog_6_method_10_code 26 (.aload_n 0) 1 27 := ⟨by decide +kernel, rfl⟩
theorem d_X4_needOf_27 : DD prog_6_method_10_code 27 (.aload 4) 2 29 := ⟨by decide +kernel, rfl⟩
theorem d_X4_needOf_29 : DD prog_6_method_10_code 29 (.iload_n 2) 1 30 := ⟨by decide +kernel, rfl⟩
theorem d_X4_needOf_30 : DD prog_6_method_10_code 30 (.iload_n 3) 1 31 := ⟨by decide +kernel, rfl⟩
theorem d_X4_needOf_31 : DD prog_6_method_10_code 31 (.invokevirtual 115) 3 34 := ⟨by decide +kernel, rfl⟩
theorem d_X4_needOf_34 : DD prog_6_method_10_code 34 (.istore 5) 2 36 := ⟨by decide +kernel, rfl⟩
theorem d_X4_needOf_36 : DD prog_6_method_10_code 36 (.aload 4) 2 38 := ⟨by decide +kernel, rfl⟩
theorem d_X4_needOf_38 : DD prog_6_method_10_code 38 (.getfield 67) 3 41 := ⟨by decide +kernel, rfl⟩
theorem d_X4_needOf_41 : DD prog_6_method_10_code 41 (.iload 5) 2 43 := ⟨by decide +kernel, rfl⟩
theorem d_X4_needOf_43 : DD prog_6_method_10_code 43 (.iadd) 1 44 := ⟨by decide +kernel, rfl⟩
theorem d_X4_needOf_44 : DD prog_6_method_10_code 44 (.bipush 99) 2 46 := ⟨by decide +kernel, rfl⟩
theorem d_X4_needOf_46 : DJ prog_6_method_10_code 46 (fun o => .if_icmp .le o) 54 3 49 := ⟨by decide +kernel, rfl⟩
theorem d_X4_needOf_49 : DD prog_6_method_10_code 49 (.bipush (-4)) 2 51 := ⟨by decide +kernel, rfl⟩
theorem d_X4_needOf_51 : DJ prog_6_method_10_code 51 (fun o => .goto o) 56 3 54 := ⟨by decide +kernel, rfl⟩
theorem d_X4_needOf_54 : DD prog_6_method_10_code 54 (.iload 5) 2 56 := ⟨by decide +kernel, rfl⟩
theorem d_X4_needOf_56 : DD prog_6_method_10_code 56 (.ireturn) 1 57 := ⟨by decide +kernel, rfl⟩
theorem d_X4_wipe_0 : DD prog_6_method_2_code 0 (.aload_n 0) 1 1 := ⟨by decide +kernel, rfl⟩
theorem d_X4_wipe_1 : DD prog_6_method_2_code 1 (.iconst 5) 1 2 := ⟨by decide +kernel, rfl⟩
theorem d_X4_wipe_2 : DD prog_6_method_2_code 2 (.putfield 38) 3 5 := ⟨by decide +kernel, rfl⟩
theorem d_X4_wipe_5 : DD prog_6_method_2_code 5 (.aload_n 0) 1 6 := ⟨by decide +kernel, rfl⟩
theorem d_X4_wipe_6 : DD prog_6_method_2_code 6 (.iconst 3) 1 7 := ⟨by decide +kernel, rfl⟩
theorem d_X4_wipe_7 : DD prog_6_method_2_code 7 (.putfield 42) 3 10 := ⟨by decide +kernel, rfl⟩
theorem d_X4_wipe_10 : DD prog_6_method_2_code 10 (.aload_n 0) 1 11 := ⟨by decide +kernel, rfl⟩
theorem d_X4_wipe_11 : DD prog_6_method_2_code 11 (.getfield 9) 3 14 := ⟨by decide +kernel, rfl⟩
theorem d_X4_wipe_14 : DD prog_6_method_2_code 14 (.iconst 0) 1 15 := ⟨by decide +kernel, rfl⟩
theorem d_X4_wipe_15 : DD prog_6_method_2_code 15 (.invokestatic 45) 3 18 := ⟨by decide +kernel, rfl⟩
theorem d_X4_wipe_18 : DD prog_6_method_2_code 18 (.aload_n 0) 1 19 := ⟨by decide +kernel, rfl⟩
theorem d_X4_wipe_19 : DD prog_6_method_2_code 19 (.getfield 18) 3 22 := ⟨by decide +kernel, rfl⟩
theorem d_X4_wipe_22 : DD prog_6_method_2_code 22 (.invokevirtual 51) 3 25 := ⟨by decide +kernel, rfl⟩
theorem d_X4_wipe_25 : DD prog_6_method_2_code 25 (.aload_n 0) 1 26 := ⟨by decide +kernel, rfl⟩
theorem d_X4_wipe_26 : DD prog_6_method_2_code 26 (.iconst 0) 1 27 := ⟨by decide +kernel, rfl⟩
theorem d_X4_wipe_27 : DD prog_6_method_2_code 27 (.putfield 52) 3 30 := ⟨by decide +kernel, rfl⟩
theorem d_X4_wipe_30 : DD prog_6_method_2_code 30 (.aload_n 0) 1 31 := ⟨by decide +kernel, rfl⟩
theorem d_X4_wipe_31 : DD prog_6_method_2_code 31 (.getfield 31) 3 34 := ⟨by decide +kernel, rfl⟩
theorem d_X4_wipe_34 : DD prog_6_method_2_code 34 (.invokevirtual 55) 3 37 := ⟨by decide +kernel, rfl⟩
theorem d_X4_wipe_37 : DD prog_6_method_2_code 37 (.return_) 1 38 := ⟨by decide +kernel, rfl⟩
theorem d_X4_putHouse_0 : DD prog_6_method_3_code 0 (.aload_n 0) 1 1 := ⟨by decide +kernel, rfl⟩
theorem d_X4_putHouse_1 : DD prog_6_method_3_code 1 (.getfield 52) 3 4 := ⟨by decide +kernel, rfl⟩
theorem d_X4_putHouse_4 : DD prog_6_method_3_code 4 (.bipush 8) 2 6 := ⟨by decide +kernel, rfl⟩
theorem d_X4_putHouse_6 : DJ prog_6_method_3_code 6 (fun o => .if_icmp .ge o) 39 3 9 := ⟨by decide +kernel, rfl⟩
theorem d_X4_putHouse_9 : DD prog_6_method_3_code 9 (.aload_n 0) 1 10 := ⟨by decide +kernel, rfl⟩
theorem d_X4_putHouse_10 : DD prog_6_method_3_code 10 (.getfield 22) 3 13 := ⟨by decide +kernel, rfl⟩
theorem d_X4_putHouse_13 : DD prog_6_method_3_code 13 (.aload_n 0) 1 14 := ⟨by decide +kernel, rfl⟩
theorem d_X4_putHouse_14 : DD prog_6_method_3_code 14 (.getfield 52) 3 17 := ⟨by decide +kernel, rfl⟩
theorem d_X4_putHouse_17 : DD prog_6_method_3_code 17 (.iload_n 1) 1 18 := ⟨by decide +kernel, rfl⟩
theorem d_X4_putHouse_18 : DD prog_6_method_3_code 18 (.iastore) 1 19 := ⟨by decide +kernel, rfl⟩
theorem d_X4_putHouse_19 : DD prog_6_method_3_code 19 (.aload_n 0) 1 20 := ⟨by decide +kernel, rfl⟩
theorem d_X4_putHouse_20 : DD prog_6_method_3_code 20 (.getfield 25) 3 23 := ⟨by decide +kernel, rfl⟩
theorem d_X4_putHouse_23 : DD prog_6_method_3_code 23 (.aload_n 0) 1 24 := ⟨by decide +kernel, rfl⟩
theorem d_X4_putHouse_24 : DD prog_6_method_3_code 24 (.getfield 52) 3 27 := ⟨by decide +kernel, rfl⟩
theorem d_X4_putHouse_27 : DD prog_6_method_3_code 27 (.iload_n 2) 1 28 := ⟨by decide +kernel, rfl⟩
theorem d_X4_putHouse_28 : DD prog_6_method_3_code 28 (.iastore) 1 29 := ⟨by decide +kernel, rfl⟩
theorem d_X4_putHouse_29 : DD prog_6_method_3_code 29 (.aload_n 0) 1 30 := ⟨by decide +kernel, rfl⟩
theorem d_X4_putHouse_30 : DD prog_6_method_3_code 30 (.dup) 1 31 := ⟨by decide +kernel, rfl⟩
theorem d_X4_putHouse_31 : DD prog_6_method_3_code 31 (.getfield 52) 3 34 := ⟨by decide +kernel, rfl⟩
theorem d_X4_putHouse_34 : DD prog_6_method_3_code 34 (.iconst 1) 1 35 := ⟨by decide +kernel, rfl⟩
theorem d_X4_putHouse_35 : DD prog_6_method_3_code 35 (.iadd) 1 36 := ⟨by decide +kernel, rfl⟩
theorem d_X4_putHouse_36 : DD prog_6_method_3_code 36 (.putfield 52) 3 39 := ⟨by decide +kernel, rfl⟩
theorem d_X4_putHouse_39 : DD prog_6_method_3_code 39 (.return_) 1 40 := ⟨by decide +kernel, rfl⟩
theorem d_X4_ownerOf_0 : DD prog_6_method_4_code 0 (.aload_n 2) 1 1 := ⟨by decide +kernel, rfl⟩
theorem d_X4_ownerOf_1 : DD prog_6_method_4_code 1 (.getfield 56) 3 4 := ⟨by decide +kernel, rfl⟩
theorem d_X4_ownerOf_4 : DD prog_6_method_4_code 4 (.aload_n 0) 1 5 := ⟨by decide +kernel, rfl⟩
theorem d_X4_ownerOf_5 : DD prog_6_method_4_code 5 (.getfield 22) 3 8 := ⟨by decide +kernel, rfl⟩
theorem d_X4_ownerOf_8 : DD prog_6_method_4_code 8 (.iload_n 1) 1 9 := ⟨by decide +kernel, rfl⟩
theorem d_X4_ownerOf_9 : DD prog_6_method_4_code 9 (.iaload) 1 10 := ⟨by decide +kernel, rfl⟩
theorem d_X4_ownerOf_10 : DD prog_6_method_4_code 10 (.iaload) 1 11 := ⟨by decide +kernel, rfl⟩
theorem d_X4_ownerOf_11 : DD prog_6_method_4_code 11 (.istore_n 3) 1 12 := ⟨by decide +kernel, rfl⟩
theorem d_X4_ownerOf_12 : DD prog_6_method_4_code 12 (.aload_n 0) 1 13 := ⟨by decide +kernel, rfl⟩
theorem d_X4_ownerOf_13 : DD prog_6_method_4_code 13 (.getfield 25) 3 16 := ⟨by decide +kernel, rfl⟩
theorem d_X4_ownerOf_16 : DD prog_6_method_4_code 16 (.iload_n 1) 1 17 := ⟨by decide +kernel, rfl⟩
theorem d_X4_ownerOf_17 : DD prog_6_method_4_code 17 (.iaload) 1 18 := ⟨by decide +kernel, rfl⟩
theorem d_X4_ownerOf_18 : DD prog_6_method_4_code 18 (.iload_n 3) 1 19 := ⟨by decide +kernel, rfl⟩
theorem d_X4_ownerOf_19 : DJ prog_6_method_4_code 19 (fun o => .if_icmp .ne o) 25 3 22 := ⟨by decide +kernel, rfl⟩
theorem d_X4_ownerOf_22 : DD prog_6_method_4_code 22 (.bipush (-4)) 2 24 := ⟨by decide +kernel, rfl⟩
theorem d_X4_ownerOf_24 : DD prog_6_method_4_code 24 (.ireturn) 1 25 := ⟨by decide +kernel, rfl⟩
theorem d_X4_ownerOf_25 : DD prog_6_method_4_code 25 (.aload_n 0) 1 26 := ⟨by decide +kernel, rfl⟩
theorem d_X4_ownerOf_26 : DD prog_6_method_4_code 26 (.getfield 25) 3 29 := ⟨by decide +kernel, rfl⟩
theorem d_X4_ownerOf_29 : DD prog_6_method_4_code 29 (.iload_n 1) 1 30 := ⟨by decide +kernel, rfl⟩
theorem d_X4_ownerOf_30 : DD prog_6_method_4_code 30 (.iaload) 1 31 := ⟨by decide +kernel, rfl⟩
theorem d_X4_ownerOf_31 : DD prog_6_method_4_code 31 (.iload_n 3) 1 32 := ⟨by decide +kernel, rfl⟩
theorem d_X4_ownerOf_32 : DJ prog_6_method_4_code 32 (fun o => .if_icmp .ge o) 39 3 35 := ⟨by decide +kernel, rfl⟩
theorem d_X4_ownerOf_35 : DD prog_6_method_4_code 35 (.iconst 0) 1 36 := ⟨by decide +kernel, rfl⟩
theorem d_X4_ownerOf_36 : DJ prog_6_method_4_code 36 (fun o => .goto o) 40 3 39 := ⟨by decide +kernel, rfl⟩
theorem d_X4_ownerOf_39 : DD prog_6_method_4_code 39 (.iconst 1) 1 40 := ⟨by decide +kernel, rfl⟩
theorem d_X4_ownerOf_40 : DD prog_6_method_4_code 40 (.ireturn) 1 41 := ⟨by decide +kernel, rfl⟩
theorem d_X4_counting_0 : DD prog_6_method_5_code 0 (.iconst 0) 1 1 := ⟨by decide +kernel, rfl⟩
theorem d_X4_counting_1 : DD prog_6_method_5_code 1 (.istore_n 3) 1 2 := ⟨by decide +kernel, rfl⟩
theorem d_X4_counting_2 : DD prog_6_method_5_code 2 (.iconst 0) 1 3 := ⟨by decide +kernel, rfl⟩
theorem d_X4_counting_3 : DD prog_6_method_5_code 3 (.istore 4) 2 5 := ⟨by decide +kernel, rfl⟩
theorem d_X4_counting_5 : DD prog_6_method_5_code 5 (.iload 4) 2 7 := ⟨by decide +kernel, rfl⟩
theorem d_X4_counting_7 : DD prog_6_method_5_code 7 (.iconst 2) 1 8 := ⟨by decide +kernel, rfl⟩
theorem d_X4_counting_8 : DJ prog_6_method_5_code 8 (fun o => .if_icmp .ge o) 60 3 11 := ⟨by decide +kernel, rfl⟩
theorem d_X4_counting_11 : DD prog_6_method_5_code 11 (.aload_n 1) 1 12 := ⟨by decide +kernel, rfl⟩
theorem d_X4_counting_12 : DD prog_6_method_5_code 12 (.iload 4) 2 14 := ⟨by decide +kernel, rfl⟩
theorem d_X4_counting_14 : DD prog_6_method_5_code 14 (.iload_n 2) 1 15 := ⟨by decide +kernel, rfl⟩
theorem d_X4_counting_15 : DD prog_6_method_5_code 15 (.invokevirtual 59) 3 18 := ⟨by decide +kernel, rfl⟩
theorem d_X4_counting_18 : DD prog_6_method_5_code 18 (.astore 5) 2 20 := ⟨by decide +kernel, rfl⟩
theorem d_X4_counting_20 : DD prog_6_method_5_code 20 (.aload_n 0) 1 21 := ⟨by decide +kernel, rfl⟩
theorem d_X4_counting_21 : DD prog_6_method_5_code 21 (.getfield 18) 3 24 := ⟨by decide +kernel, rfl⟩
theorem d_X4_counting_24 : DD prog_6_method_5_code 24 (.aload 5) 2 26 := ⟨by decide +kernel, rfl⟩
theorem d_X4_counting_26 : DD prog_6_method_5_code 26 (.invokevirtual 63) 3 29 := ⟨by decide +kernel, rfl⟩
theorem d_X4_counting_29 : DJ prog_6_method_5_code 29 (fun o => .ifCond .eq o) 54 3 32 := ⟨by decide +kernel, rfl⟩
theorem d_X4_counting_32 : DD prog_6_method_5_code 32 (.aload 5) 2 34 := ⟨by decide +kernel, rfl⟩
theorem d_X4_counting_34 : DD prog_6_method_5_code 34 (.getfield 67) 3 37 := ⟨by decide +kernel, rfl⟩
theorem d_X4_counting_37 : DD prog_6_method_5_code 37 (.aload_n 0) 1 38 := ⟨by decide +kernel, rfl⟩
theorem d_X4_counting_38 : DD prog_6_method_5_code 38 (.getfield 18) 3 41 := ⟨by decide +kernel, rfl⟩
theorem d_X4_counting_41 : DD prog_6_method_5_code 41 (.getfield 72) 3 44 := ⟨by decide +kernel, rfl⟩
theorem d_X4_counting_44 : DJ prog_6_method_5_code 44 (fun o => .if_icmp .lt o) 54 3 47 := ⟨by decide +kernel, rfl⟩
theorem d_X4_counting_47 : DD prog_6_method_5_code 47 (.iload_n 3) 1 48 := ⟨by decide +kernel, rfl⟩
theorem d_X4_counting_48 : DD prog_6_method_5_code 48 (.iconst 1) 1 49 := ⟨by decide +kernel, rfl⟩
theorem d_X4_counting_49 : DD prog_6_method_5_code 49 (.iload 4) 2 51 := ⟨by decide +kernel, rfl⟩
theorem d_X4_counting_51 : DD prog_6_method_5_code 51 (.ishl) 1 52 := ⟨by decide +kernel, rfl⟩
theorem d_X4_counting_52 : DD prog_6_method_5_code 52 (.ior) 1 53 := ⟨by decide +kernel, rfl⟩
theorem d_X4_counting_53 : DD prog_6_method_5_code 53 (.istore_n 3) 1 54 := ⟨by decide +kernel, rfl⟩
theorem d_X4_counting_54 : DD prog_6_method_5_code 54 (.iinc 4 1) 3 57 := ⟨by decide +kernel, rfl⟩
theorem d_X4_counting_57 : DJ prog_6_method_5_code 57 (fun o => .goto o) 5 3 60 := ⟨by decide +kernel, rfl⟩
theorem d_X4_counting_60 : DD prog_6_method_5_code 60 (.iload_n 3) 1 61 := ⟨by decide +kernel, rfl⟩
theorem d_X4_counting_61 : DD prog_6_method_5_code 61 (.ireturn) 1 62 := ⟨by decide +kernel, rfl⟩
theorem d_X4_strengthBy_0 : DD prog_6_method_6_code 0 (.iconst 0) 1 1 := ⟨by decide +kernel, rfl⟩
theorem d_X4_strengthBy_1 : DD prog_6_method_6_code 1 (.istore_n 3) 1 2 := ⟨by decide +kernel, rfl⟩
theorem d_X4_strengthBy_2 : DD prog_6_method_6_code 2 (.iconst 0) 1 3 := ⟨by decide +kernel, rfl⟩
theorem d_X4_strengthBy_3 : DD prog_6_method_6_code 3 (.istore 4) 2 5 := ⟨by decide +kernel, rfl⟩
theorem d_X4_strengthBy_5 : DD prog_6_method_6_code 5 (.iload 4) 2 7 := ⟨by decide +kernel, rfl⟩
theorem d_X4_strengthBy_7 : DD prog_6_method_6_code 7 (.aload_n 0) 1 8 := ⟨by decide +kernel, rfl⟩
theorem d_X4_strengthBy_8 : DD prog_6_method_6_code 8 (.getfield 38) 3 11 := ⟨by decide +kernel, rfl⟩
theorem d_X4_strengthBy_11 : DJ prog_6_method_6_code 11 (fun o => .if_icmp .ge o) 56 3 14 := ⟨by decide +kernel, rfl⟩
theorem d_X4_strengthBy_14 : DD prog_6_method_6_code 14 (.aload_n 0) 1 15 := ⟨by decide +kernel, rfl⟩
theorem d_X4_strengthBy_15 : DD prog_6_method_6_code 15 (.getfield 31) 3 18 := ⟨by decide +kernel, rfl⟩
theorem d_X4_strengthBy_18 : DD prog_6_method_6_code 18 (.iload_n 1) 1 19 := ⟨by decide +kernel, rfl⟩
theorem d_X4_strengthBy_19 : DD prog_6_method_6_code 19 (.iload 4) 2 21 := ⟨by decide +kernel, rfl⟩
theorem d_X4_strengthBy_21 : DD prog_6_method_6_code 21 (.invokevirtual 59) 3 24 := ⟨by decide +kernel, rfl⟩
theorem d_X4_strengthBy_24 : DD prog_6_method_6_code 24 (.astore 5) 2 26 := ⟨by decide +kernel, rfl⟩
theorem d_X4_strengthBy_26 : DD prog_6_method_6_code 26 (.aload_n 0) 1 27 := ⟨by decide +kernel, rfl⟩
theorem d_X4_strengthBy_27 : DD prog_6_method_6_code 27 (.getfield 18) 3 30 := ⟨by decide +kernel, rfl⟩
theorem d_X4_strengthBy_30 : DD prog_6_method_6_code 30 (.aload 5) 2 32 := ⟨by decide +kernel, rfl⟩
theorem d_X4_strengthBy_32 : DD prog_6_method_6_code 32 (.invokevirtual 63) 3 35 := ⟨by decide +kernel, rfl⟩
theorem d_X4_strengthBy_35 : DJ prog_6_method_6_code 35 (fun o => .ifCond .eq o) 50 3 38 := ⟨by decide +kernel, rfl⟩
theorem d_X4_strengthBy_38 : DD prog_6_method_6_code 38 (.aload 5) 2 40 := ⟨by decide +kernel, rfl⟩
theorem d_X4_strengthBy_40 : DD prog_6_method_6_code 40 (.getfield 67) 3 43 := ⟨by decide +kernel, rfl⟩
theorem d_X4_strengthBy_43 : DD prog_6_method_6_code 43 (.iload_n 2) 1 44 := ⟨by decide +kernel, rfl⟩
theorem d_X4_strengthBy_44 : DJ prog_6_method_6_code 44 (fun o => .if_icmp .lt o) 50 3 47 := ⟨by decide +kernel, rfl⟩
theorem d_X4_strengthBy_47 : DD prog_6_method_6_code 47 (.iinc 3 1) 3 50 := ⟨by decide +kernel, rfl⟩
theorem d_X4_strengthBy_50 : DD prog_6_method_6_code 50 (.iinc 4 1) 3 53 := ⟨by decide +kernel, rfl⟩
theorem d_X4_strengthBy_53 : DJ prog_6_method_6_code 53 (fun o => .goto o) 5 3 56 := ⟨by decide +kernel, rfl⟩
theorem d_X4_strengthBy_56 : DD prog_6_method_6_code 56 (.iload_n 3) 1 57 := ⟨by decide +kernel, rfl⟩
theorem d_X4_strengthBy_57 : DD prog_6_method_6_code 57 (.ireturn) 1 58 := ⟨by decide +kernel, rfl⟩
theorem d_X4_moveLine_0 : DD prog_6_method_8_code 0 (.aload_n 0) 1 1 := ⟨by decide +kernel, rfl⟩
theorem d_X4_moveLine_1 : DD prog_6_method_8_code 1 (.aload_n 1) 1 2 := ⟨by decide +kernel, rfl⟩
theorem d_X4_moveLine_2 : DD prog_6_method_8_code 2 (.iload_n 2) 1 3 := ⟨by decide +kernel, rfl⟩
theorem d_X4_moveLine_3 : DD prog_6_method_8_code 3 (.invokevirtual 87) 3 6 := ⟨by decide +kernel, rfl⟩
theorem d_X4_moveLine_6 : DD prog_6_method_8_code 6 (.istore_n 3) 1 7 := ⟨by decide +kernel, rfl⟩
theorem d_X4_moveLine_7 : DD prog_6_method_8_code 7 (.iload_n 3) 1 8 := ⟨by decide +kernel, rfl⟩
theorem d_X4_moveLine_8 : DD prog_6_method_8_code 8 (.iconst 1) 1 9 := ⟨by decide +kernel, rfl⟩
theorem d_X4_moveLine_9 : DJ prog_6_method_8_code 9 (fun o => .if_icmp .ne o) 34 3 12 := ⟨by decide +kernel, rfl⟩
theorem d_X4_moveLine_12 : DD prog_6_method_8_code 12 (.aload_n 1) 1 13 := ⟨by decide +kernel, rfl⟩
theorem d_X4_moveLine_13 : DD prog_6_method_8_code 13 (.getfield 56) 3 16 := ⟨by decide +kernel, rfl⟩
theorem d_X4_moveLine_16 : DD prog_6_method_8_code 16 (.iload_n 2) 1 17 := ⟨by decide +kernel, rfl⟩
theorem d_X4_moveLine_17 : DD prog_6_method_8_code 17 (.bipush 9) 2 19 := ⟨by decide +kernel, rfl⟩
theorem d_X4_moveLine_19 : DD prog_6_method_8_code 19 (.aload_n 1) 1 20 := ⟨by decide +kernel, rfl⟩
theorem d_X4_moveLine_20 : DD prog_6_method_8_code 20 (.getfield 56) 3 23 := ⟨by decide +kernel, rfl⟩
theorem d_X4_moveLine_23 : DD prog_6_method_8_code 23 (.iload_n 2) 1 24 := ⟨by decide +kernel, rfl⟩
theorem d_X4_moveLine_24 : DD prog_6_method_8_code 24 (.iaload) 1 25 := ⟨by decide +kernel, rfl⟩
theorem d_X4_moveLine_25 : DD prog_6_method_8_code 25 (.iconst 1) 1 26 := ⟨by decide +kernel, rfl⟩
theorem d_X4_moveLine_26 : DD prog_6_method_8_code 26 (.iadd) 1 27 := ⟨by decide +kernel, rfl⟩
theorem d_X4_moveLine_27 : DD prog_6_method_8_code 27 (.invokestatic 91) 3 30 := ⟨by decide +kernel, rfl⟩
theorem d_X4_moveLine_30 : DD prog_6_method_8_code 30 (.iastore) 1 31 := ⟨by decide +kernel, rfl⟩
theorem d_X4_moveLine_31 : DJ prog_6_method_8_code 31 (fun o => .goto o) 58 3 34 := ⟨by decide +kernel, rfl⟩
theorem d_X4_moveLine_34 : DD prog_6_method_8_code 34 (.iload_n 3) 1 35 := ⟨by decide +kernel, rfl⟩
theorem d_X4_moveLine_35 : DD prog_6_method_8_code 35 (.iconst 2) 1 36 := ⟨by decide +kernel, rfl⟩
theorem d_X4_moveLine_36 : DJ prog_6_method_8_code 36 (fun o => .if_icmp .ne o) 58 3 39 := ⟨by decide +kernel, rfl⟩
theorem d_X4_moveLine_39 : DD prog_6_method_8_code 39 (.aload_n 1) 1 40 := ⟨by decide +kernel, rfl⟩
theorem d_X4_moveLine_40 : DD prog_6_method_8_code 40 (.getfield 56) 3 43 := ⟨by decide +kernel, rfl⟩
theorem d_X4_moveLine_43 : DD prog_6_method_8_code 43 (.iload_n 2) 1 44 := ⟨by decide +kernel, rfl⟩
theorem d_X4_moveLine_44 : DD prog_6_method_8_code 44 (.bipush (-9)) 2 46 := ⟨by decide +kernel, rfl⟩
theorem d_X4_moveLine_46 : DD prog_6_method_8_code 46 (.aload_n 1) 1 47 := ⟨by decide +kernel, rfl⟩
theorem d_X4_moveLine_47 : DD prog_6_method_8_code 47 (.getfield 56) 3 50 := ⟨by decide +kernel, rfl⟩
theorem d_X4_moveLine_50 : DD prog_6_method_8_code 50 (.iload_n 2) 1 51 := ⟨by decide +kernel, rfl⟩
theorem d_X4_moveLine_51 : DD prog_6_method_8_code 51 (.iaload) 1 52 := ⟨by decide +kernel, rfl⟩
theorem d_X4_moveLine_52 : DD prog_6_method_8_code 52 (.iconst 1) 1 53 := ⟨by decide +kernel, rfl⟩
theorem d_X4_moveLine_53 : DD prog_6_method_8_code 53 (.isub) 1 54 := ⟨by decide +kernel, rfl⟩
theorem d_X4_moveLine_54 : DD prog_6_method_8_code 54 (.invokestatic 97) 3 57 := ⟨by decide +kernel, rfl⟩
theorem d_X4_moveLine_57 : DD prog_6_method_8_code 57 (.iastore) 1 58 := ⟨by decide +kernel, rfl⟩
theorem d_X4_moveLine_58 : DD prog_6_method_8_code 58 (.return_) 1 59 := ⟨by decide +kernel, rfl⟩
theorem d_X4_passTill_0 : DD prog_6_method_7_code 0 (.aload_n 1) 1 1 := ⟨by decide +kernel, rfl⟩
theorem d_X4_passTill_1 : DD prog_6_method_7_code 1 (.getfield 73) 3 4 := ⟨by decide +kernel, rfl⟩
theorem d_X4_passTill_4 : DD prog_6_method_7_code 4 (.istore_n 3) 1 5 := ⟨by decide +kernel, rfl⟩
theorem d_X4_passTill_5 : DD prog_6_method_7_code 5 (.iload_n 3) 1 6 := ⟨by decide +kernel, rfl⟩
theorem d_X4_passTill_6 : DD prog_6_method_7_code 6 (.iload_n 2) 1 7 := ⟨by decide +kernel, rfl⟩
theorem d_X4_passTill_7 : DJ prog_6_method_7_code 7 (fun o => .if_icmp .ge o) 73 3 10 := ⟨by decide +kernel, rfl⟩
theorem d_X4_passTill_10 : DD prog_6_method_7_code 10 (.iload_n 3) 1 11 := ⟨by decide +kernel, rfl⟩
theorem d_X4_passTill_11 : DD prog_6_method_7_code 11 (.bipush 12) 2 13 := ⟨by decide +kernel, rfl⟩
theorem d_X4_passTill_13 : DJ prog_6_method_7_code 13 (fun o => .if_icmp .ge o) 73 3 16 := ⟨by decide +kernel, rfl⟩
theorem d_X4_passTill_16 : DD prog_6_method_7_code 16 (.iconst 0) 1 17 := ⟨by decide +kernel, rfl⟩
theorem d_X4_passTill_17 : DD prog_6_method_7_code 17 (.istore 4) 2 19 := ⟨by decide +kernel, rfl⟩
theorem d_X4_passTill_19 : DD prog_6_method_7_code 19 (.iload 4) 2 21 := ⟨by decide +kernel, rfl⟩
theorem d_X4_passTill_21 : DD prog_6_method_7_code 21 (.aload_n 0) 1 22 := ⟨by decide +kernel, rfl⟩
theorem d_X4_passTill_22 : DD prog_6_method_7_code 22 (.getfield 38) 3 25 := ⟨by decide +kernel, rfl⟩
theorem d_X4_passTill_25 : DJ prog_6_method_7_code 25 (fun o => .if_icmp .ge o) 60 3 28 := ⟨by decide +kernel, rfl⟩
theorem d_X4_passTill_28 : DD prog_6_method_7_code 28 (.aload_n 1) 1 29 := ⟨by decide +kernel, rfl⟩
theorem d_X4_passTill_29 : DD prog_6_method_7_code 29 (.iload 4) 2 31 := ⟨by decide +kernel, rfl⟩
theorem d_X4_passTill_31 : DD prog_6_method_7_code 31 (.iload_n 3) 1 32 := ⟨by decide +kernel, rfl⟩
theorem d_X4_passTill_32 : DD prog_6_method_7_code 32 (.invokevirtual 76) 3 35 := ⟨by decide +kernel, rfl⟩
theorem d_X4_passTill_35 : DD prog_6_method_7_code 35 (.aload_n 1) 1 36 := ⟨by decide +kernel, rfl⟩
theorem d_X4_passTill_36 : DD prog_6_method_7_code 36 (.iload 4) 2 38 := ⟨by decide +kernel, rfl⟩
theorem d_X4_passTill_38 : DD prog_6_method_7_code 38 (.aload_n 0) 1 39 := ⟨by decide +kernel, rfl⟩
theorem d_X4_passTill_39 : DD prog_6_method_7_code 39 (.getfield 9) 3 42 := ⟨by decide +kernel, rfl⟩
theorem d_X4_passTill_42 : DD prog_6_method_7_code 42 (.iload_n 3) 1 43 := ⟨by decide +kernel, rfl⟩
theorem d_X4_passTill_43 : DD prog_6_method_7_code 43 (.iaload) 1 44 := ⟨by decide +kernel, rfl⟩
theorem d_X4_passTill_44 : DD prog_6_method_7_code 44 (.invokevirtual 80) 3 47 := ⟨by decide +kernel, rfl⟩
theorem d_X4_passTill_47 : DD prog_6_method_7_code 47 (.aload_n 0) 1 48 := ⟨by decide +kernel, rfl⟩
theorem d_X4_passTill_48 : DD prog_6_method_7_code 48 (.aload_n 1) 1 49 := ⟨by decide +kernel, rfl⟩
theorem d_X4_passTill_49 : DD prog_6_method_7_code 49 (.iload 4) 2 51 := ⟨by decide +kernel, rfl⟩
theorem d_X4_passTill_51 : DD prog_6_method_7_code 51 (.invokevirtual 83) 3 54 := ⟨by decide +kernel, rfl⟩
theorem d_X4_passTill_54 : DD prog_6_method_7_code 54 (.iinc 4 1) 3 57 := ⟨by decide +kernel, rfl⟩
theorem d_X4_passTill_57 : DJ prog_6_method_7_code 57 (fun o => .goto o) 19 3 60 := ⟨by decide +kernel, rfl⟩
theorem d_X4_passTill_60 : DD prog_6_method_7_code 60 (.aload_n 1) 1 61 := ⟨by decide +kernel, rfl⟩
theorem d_X4_passTill_61 : DD prog_6_method_7_code 61 (.iload_n 3) 1 62 := ⟨by decide +kernel, rfl⟩
theorem d_X4_passTill_62 : DD prog_6_method_7_code 62 (.iconst 1) 1 63 := ⟨by decide +kernel, rfl⟩
theorem d_X4_passTill_63 : DD prog_6_method_7_code 63 (.iadd) 1 64 := ⟨by decide +kernel, rfl⟩
theorem d_X4_passTill_64 : DD prog_6_method_7_code 64 (.putfield 73) 3 67 := ⟨by decide +kernel, rfl⟩
theorem d_X4_passTill_67 : DD prog_6_method_7_code 67 (.iinc 3 1) 3 70 := ⟨by decide +kernel, rfl⟩
theorem d_X4_passTill_70 : DJ prog_6_method_7_code 70 (fun o => .goto o) 5 3 73 := ⟨by decide +kernel, rfl⟩
theorem d_X4_passTill_73 : DD prog_6_method_7_code 73 (.return_) 1 74 := ⟨by decide +kernel, rfl⟩
theorem d_X4_holders_0 : DD prog_6_method_11_code 0 (.iconst 0) 1 1 := ⟨by decide +kernel, rfl⟩
theorem d_X4_holders_1 : DD prog_6_method_11_code 1 (.istore_n 3) 1 2 := ⟨by decide +kernel, rfl⟩
theorem d_X4_holders_2 : DD prog_6_method_11_code 2 (.iconst 0) 1 3 := ⟨by decide +kernel, rfl⟩
theorem d_X4_holders_3 : DD prog_6_method_11_code 3 (.istore 4) 2 5 := ⟨by decide +kernel, rfl⟩
theorem d_X4_holders_5 : DD prog_6_method_11_code 5 (.iload 4) 2 7 := ⟨by decide +kernel, rfl⟩
theorem d_X4_holders_7 : DD prog_6_method_11_code 7 (.aload_n 0) 1 8 := ⟨by decide +kernel, rfl⟩
theorem d_X4_holders_8 : DD prog_6_method_11_code 8 (.getfield 38) 3 11 := ⟨by decide +kernel, rfl⟩
theorem d_X4_holders_11 : DJ prog_6_method_11_code 11 (fun o => .if_icmp .ge o) 38 3 14 := ⟨by decide +kernel, rfl⟩
theorem d_X4_holders_14 : DD prog_6_method_11_code 14 (.aload_n 0) 1 15 := ⟨by decide +kernel, rfl⟩
theorem d_X4_holders_15 : DD prog_6_method_11_code 15 (.iload_n 1) 1 16 := ⟨by decide +kernel, rfl⟩
theorem d_X4_holders_16 : DD prog_6_method_11_code 16 (.iload 4) 2 18 := ⟨by decide +kernel, rfl⟩
theorem d_X4_holders_18 : DD prog_6_method_11_code 18 (.iload_n 2) 1 19 := ⟨by decide +kernel, rfl⟩
theorem d_X4_holders_19 : DD prog_6_method_11_code 19 (.invokevirtual 119) 3 22 := ⟨by decide +kernel, rfl⟩
theorem d_X4_holders_22 : DJ prog_6_method_11_code 22 (fun o => .ifCond .ne o) 32 3 25 := ⟨by decide +kernel, rfl⟩
theorem d_X4_holders_25 : DD prog_6_method_11_code 25 (.iload_n 3) 1 26 := ⟨by decide +kernel, rfl⟩
theorem d_X4_holders_26 : DD prog_6_method_11_code 26 (.iconst 1) 1 27 := ⟨by decide +kernel, rfl⟩
theorem d_X4_holders_27 : DD prog_6_method_11_code 27 (.iload 4) 2 29 := ⟨by decide +kernel, rfl⟩
theorem d_X4_holders_29 : DD prog_6_method_11_code 29 (.ishl) 1 30 := ⟨by decide +kernel, rfl⟩
theorem d_X4_holders_30 : DD prog_6_method_11_code 30 (.ior) 1 31 := ⟨by decide +kernel, rfl⟩
theorem d_X4_holders_31 : DD prog_6_method_11_code 31 (.istore_n 3) 1 32 := ⟨by decide +kernel, rfl⟩
theorem d_X4_holders_32 : DD prog_6_method_11_code 32 (.iinc 4 1) 3 35 := ⟨by decide +kernel, rfl⟩
theorem d_X4_holders_35 : DJ prog_6_method_11_code 35 (fun o => .goto o) 5 3 38 := ⟨by decide +kernel, rfl⟩
theorem d_X4_holders_38 : DD prog_6_method_11_code 38 (.iload_n 3) 1 39 := ⟨by decide +kernel, rfl⟩
theorem d_X4_holders_39 : DD prog_6_method_11_code 39 (.ireturn) 1 40 := ⟨by decide +kernel, rfl⟩
def f_X4_lackOf_74 (M : Mm) (x4 : Int32) : Option Int32 :=
some (iMax (0 : Int32) x4)
def b_X4_lackOf_23 (k23 : Int32 → Int32 → Option Int32) (M : Mm) (a0 : Nat) (a1 : Nat) (x2 : Int32) (x3 : Int32) (x4 : Int32) (x5 : Int32) : Option Int32 :=
if x3 ≤ x5 then
(f_X4_lackOf_74 M x4)
else
(if (12 : Int32) ≤ x5 then
(f_X4_lackOf_74 M x4)
else
(bd (f_X0_warmthOn M ((a0 + 5) + 6) x2 x5) fun p4 =>
ck (inn x5 12) <|
bd (f_X6_lossBy M a1 p4 (M.1 ((a0 + 5) + 5) x5.toNatClampNeg)) fun p7 =>
nm ((x4 + p7)) fun v8 =>
k23 v8 (x5 + (1 : Int32))))
def f_X4_lackOf_23 (M : Mm) (a0 : Nat) (a1 : Nat) (x2 : Int32) (x3 : Int32) : Nat → Int32 → Int32 → Option Int32
  | 0, _, _ => none
  | n + 1, x4, x5 => b_X4_lackOf_23 (fun x4 x5 => f_X4_lackOf_23 M a0 a1 x2 x3 n x4 x5) M a0 a1 x2 x3 x4 x5
def f_X4_lackOf (M : Mm) (a0 : Nat) (a1 : Nat) (x2 : Int32) (x3 : Int32) : Option Int32 :=
nm (((M.1 (a0 + 2) 0) - (M.1 a1 4))) fun v1 =>
nm ((M.1 (a0 + 5) 0)) fun v3 =>
f_X4_lackOf_23 M a0 a1 x2 x3 FU v1 v3
def f_X4_needOf_56 (M : Mm) (s_0 : Int32) : Option Int32 :=
some s_0
def f_X4_needOf (M : Mm) (a0 : Nat) (x1 : Int32) (x2 : Int32) (x3 : Int32) : Option Int32 :=
bd (f_X7_manOf M (a0 + 5) x1 x2) fun p2 =>
bd (f_X5_suits M (a0 + 2) p2) fun p4 =>
if p4 = 0 then
(some (-4 : Int32))
else
(bd (f_X4_lackOf M a0 p2 x2 x3) fun p7 =>
if ((M.1 p2 4) + p7) ≤ (99 : Int32) then
(f_X4_needOf_56 M p7)
else
(f_X4_needOf_56 M (-4 : Int32)))
def f_X4_wipe (M : Mm) (a0 : Nat) : Option Mm :=
wr (wI M a0 0 (5 : Int32)) fun M1 =>
wr (wI M1 a0 1 (3 : Int32)) fun M3 =>
wr (fillI M3 (a0 + 1) 12 (0 : Int32)) fun M5 =>
bd (f_X5_wipe M5 (a0 + 2)) fun p8 =>
wr (wI p8 a0 4 (0 : Int32)) fun M9 =>
bd (f_X7_wipe M9 (a0 + 5)) fun p12 =>
some p12
def f_X4_putHouse_39 (M : Mm) : Option Mm :=
some M
def f_X4_putHouse (M : Mm) (a0 : Nat) (x1 : Int32) (x2 : Int32) : Option Mm :=
if (8 : Int32) ≤ (M.1 a0 4) then
(f_X4_putHouse_39 M)
else
(ck (inn (M.1 a0 4) 8) <|
wr (wI M (a0 + 3) (M.1 a0 4).toNatClampNeg x1) fun M2 =>
ck (inn (M2.1 a0 4) 8) <|
wr (wI M2 (a0 + 4) (M2.1 a0 4).toNatClampNeg x2) fun M5 =>
wr (wI M5 a0 4 ((M5.1 a0 4) + (1 : Int32))) fun M8 =>
f_X4_putHouse_39 M8)
def f_X4_ownerOf_40 (M : Mm) (s_0 : Int32) : Option Int32 :=
some s_0
def f_X4_ownerOf (M : Mm) (a0 : Nat) (x1 : Int32) (a2 : Nat) : Option Int32 :=
ck (inn x1 8) <|
ck (inn (M.1 (a0 + 3) x1.toNatClampNeg) 10) <|
nm ((M.1 (a2 + 4) (M.1 (a0 + 3) x1.toNatClampNeg).toNatClampNeg)) fun v3 =>
if (M.1 (a0 + 4) x1.toNatClampNeg) = v3 then
(some (-4 : Int32))
else
(if v3 ≤ (M.1 (a0 + 4) x1.toNatClampNeg) then
(f_X4_ownerOf_40 M (1 : Int32))
else
(f_X4_ownerOf_40 M (0 : Int32)))
def f_X4_counting_54 (k5 : Int32 → Int32 → Option Int32) (M : Mm) (a0 : Nat) (a1 : Nat) (x2 : Int32) (x3 : Int32) (x4 : Int32) : Option Int32 :=
k5 x3 (x4 + (1 : Int32))
def b_X4_counting_5 (k5 : Int32 → Int32 → Option Int32) (M : Mm) (a0 : Nat) (a1 : Nat) (x2 : Int32) (x3 : Int32) (x4 : Int32) : Option Int32 :=
if (2 : Int32) ≤ x4 then
(some x3)
else
(bd (f_X7_manOf M a1 x4 x2) fun p3 =>
bd (f_X5_suits M (a0 + 2) p3) fun p5 =>
if p5 = 0 then
(f_X4_counting_54 k5 M a0 a1 x2 x3 x4)
else
(if (M.1 p3 4) < (M.1 (a0 + 2) 0) then
(f_X4_counting_54 k5 M a0 a1 x2 x3 x4)
else
(nm ((x3 ||| ((1 : Int32) <<< (x4 &&& 31)))) fun v8 =>
f_X4_counting_54 k5 M a0 a1 x2 v8 x4)))
def f_X4_counting_5 (M : Mm) (a0 : Nat) (a1 : Nat) (x2 : Int32) : Nat → Int32 → Int32 → Option Int32
  | 0, _, _ => none
  | n + 1, x3, x4 => b_X4_counting_5 (fun x3 x4 => f_X4_counting_5 M a0 a1 x2 n x3 x4) M a0 a1 x2 x3 x4
def f_X4_counting (M : Mm) (a0 : Nat) (a1 : Nat) (x2 : Int32) : Option Int32 :=
f_X4_counting_5 M a0 a1 x2 FU (0 : Int32) (0 : Int32)
def f_X4_strengthBy_50 (k5 : Int32 → Int32 → Option Int32) (M : Mm) (a0 : Nat) (x1 : Int32) (x2 : Int32) (x3 : Int32) (x4 : Int32) : Option Int32 :=
k5 x3 (x4 + (1 : Int32))
def b_X4_strengthBy_5 (k5 : Int32 → Int32 → Option Int32) (M : Mm) (a0 : Nat) (x1 : Int32) (x2 : Int32) (x3 : Int32) (x4 : Int32) : Option Int32 :=
if (M.1 a0 0) ≤ x4 then
(some x3)
else
(bd (f_X7_manOf M (a0 + 5) x1 x4) fun p3 =>
bd (f_X5_suits M (a0 + 2) p3) fun p5 =>
if p5 = 0 then
(f_X4_strengthBy_50 k5 M a0 x1 x2 x3 x4)
else
(if (M.1 p3 4) < x2 then
(f_X4_strengthBy_50 k5 M a0 x1 x2 x3 x4)
else
(f_X4_strengthBy_50 k5 M a0 x1 x2 (x3 + (1 : Int32)) x4)))
def f_X4_strengthBy_5 (M : Mm) (a0 : Nat) (x1 : Int32) (x2 : Int32) : Nat → Int32 → Int32 → Option Int32
  | 0, _, _ => none
  | n + 1, x3, x4 => b_X4_strengthBy_5 (fun x3 x4 => f_X4_strengthBy_5 M a0 x1 x2 n x3 x4) M a0 x1 x2 x3 x4
def f_X4_strengthBy (M : Mm) (a0 : Nat) (x1 : Int32) (x2 : Int32) : Option Int32 :=
f_X4_strengthBy_5 M a0 x1 x2 FU (0 : Int32) (0 : Int32)
def f_X4_moveLine_58 (M : Mm) : Option Mm :=
some M
def f_X4_moveLine (M : Mm) (a0 : Nat) (a1 : Nat) (x2 : Int32) : Option Mm :=
bd (f_X4_counting M a0 a1 x2) fun p2 =>
if p2 = (1 : Int32) then
(ck (inn x2 10) <|
wr (wI M (a1 + 4) x2.toNatClampNeg (iMin (9 : Int32) ((M.1 (a1 + 4) x2.toNatClampNeg) + (1 : Int32)))) fun M9 =>
f_X4_moveLine_58 M9)
else
(if p2 = (2 : Int32) then
(ck (inn x2 10) <|
wr (wI M (a1 + 4) x2.toNatClampNeg (iMax (-9 : Int32) ((M.1 (a1 + 4) x2.toNatClampNeg) - (1 : Int32)))) fun M6 =>
f_X4_moveLine_58 M6)
else
(f_X4_moveLine_58 M))
def f_X4_passTill_60 (k5 : Mm → Int32 → Option Mm) (M : Mm) (a0 : Nat) (a1 : Nat) (x2 : Int32) (x3 : Int32) : Option Mm :=
wr (wI M a1 0 (x3 + (1 : Int32))) fun M1 =>
k5 M1 (x3 + (1 : Int32))
def b_X4_passTill_19 (k5 : Mm → Int32 → Option Mm) (k19 : Mm → Int32 → Option Mm) (a0 : Nat) (a1 : Nat) (x2 : Int32) (x3 : Int32) (M : Mm) (x4 : Int32) : Option Mm :=
if (M.1 a0 0) ≤ x4 then
(f_X4_passTill_60 k5 M a0 a1 x2 x3)
else
(bd (f_X7_meltOn M a1 x4 x3) fun p3 =>
ck (inn x3 12) <|
bd (f_X7_freezeOn p3 a1 x4 (p3.1 (a0 + 1) x3.toNatClampNeg)) fun p6 =>
bd (f_X4_moveLine p6 a0 a1 x4) fun p8 =>
k19 p8 (x4 + (1 : Int32)))
def f_X4_passTill_19 (k5 : Mm → Int32 → Option Mm) (a0 : Nat) (a1 : Nat) (x2 : Int32) (x3 : Int32) : Nat → Mm → Int32 → Option Mm
  | 0, _, _ => none
  | n + 1, M, x4 => b_X4_passTill_19 k5 (fun M x4 => f_X4_passTill_19 k5 a0 a1 x2 x3 n M x4) a0 a1 x2 x3 M x4
def f_X4_passTill_73 (M : Mm) : Option Mm :=
some M
def b_X4_passTill_5 (k5 : Mm → Int32 → Option Mm) (a0 : Nat) (a1 : Nat) (x2 : Int32) (M : Mm) (x3 : Int32) : Option Mm :=
if x2 ≤ x3 then
(f_X4_passTill_73 M)
else
(if (12 : Int32) ≤ x3 then
(f_X4_passTill_73 M)
else
(f_X4_passTill_19 k5 a0 a1 x2 x3 FU M (0 : Int32)))
def f_X4_passTill_5 (a0 : Nat) (a1 : Nat) (x2 : Int32) : Nat → Mm → Int32 → Option Mm
  | 0, _, _ => none
  | n + 1, M, x3 => b_X4_passTill_5 (fun M x3 => f_X4_passTill_5 a0 a1 x2 n M x3) a0 a1 x2 M x3
def f_X4_passTill (M : Mm) (a0 : Nat) (a1 : Nat) (x2 : Int32) : Option Mm :=
nm ((M.1 a1 0)) fun v1 =>
f_X4_passTill_5 a0 a1 x2 FU M v1
def f_X4_holders_32 (k5 : Int32 → Int32 → Option Int32) (M : Mm) (a0 : Nat) (x1 : Int32) (x2 : Int32) (x3 : Int32) (x4 : Int32) : Option Int32 :=
k5 x3 (x4 + (1 : Int32))
def b_X4_holders_5 (k5 : Int32 → Int32 → Option Int32) (M : Mm) (a0 : Nat) (x1 : Int32) (x2 : Int32) (x3 : Int32) (x4 : Int32) : Option Int32 :=
if (M.1 a0 0) ≤ x4 then
(some x3)
else
(bd (f_X4_needOf M a0 x1 x4 x2) fun p3 =>
if p3 = 0 then
(nm ((x3 ||| ((1 : Int32) <<< (x4 &&& 31)))) fun v5 =>
f_X4_holders_32 k5 M a0 x1 x2 v5 x4)
else
(f_X4_holders_32 k5 M a0 x1 x2 x3 x4))
def f_X4_holders_5 (M : Mm) (a0 : Nat) (x1 : Int32) (x2 : Int32) : Nat → Int32 → Int32 → Option Int32
  | 0, _, _ => none
  | n + 1, x3, x4 => b_X4_holders_5 (fun x3 x4 => f_X4_holders_5 M a0 x1 x2 n x3 x4) M a0 x1 x2 x3 x4
def f_X4_holders (M : Mm) (a0 : Nat) (x1 : Int32) (x2 : Int32) : Option Int32 :=
f_X4_holders_5 M a0 x1 x2 FU (0 : Int32) (0 : Int32)
-- SnowSentries$Land.lackOf(LSnowSentries$Man;II)I
set_option maxRecDepth 4000 in
theorem k_X4_lackOf_74 {p : Program} {l : Launch} {e : Env} {s : State} {m : MethodId} {args : Array Value} {below : List Frame} {meth : Method} {c : Code} {G : GG} {M : Mm} {x4 : Int32} {r : Int32} (C : CX p s m args c prog_6_method_9_code 6 "SnowSentries$Land" 0 G) (hlk : meth.locks = false) (hr : meth.sig.returnType = (some .int)) : f_X4_lackOf_74 M x4 = some r → Z p l e { frames := 3, cells := 0, slots := 0, locals := 67 } s m args below meth c 0 G 6 (MQ below (QC 0 G (some (.int r)) M) args s 0 0 (AU 0 G)) 74 [(4, .int x4)] [] M := by
  intro h
  unfold f_X4_lackOf_74 at h
  refine z_iconst (v := (0 : Int32)) C d_X4_lackOf_74 (by decide) ?_
  refine z_iload 0 C d_X4_lackOf_75 rfl ?_
  refine z_mmax C wm_X4_97 wMs_max wMi wMc_max (Nat.le_of_ble_eq_true rfl) (Nat.le_of_ble_eq_true rfl) d_X4_lackOf_77 ?_
  obtain rfl := o_some h
  exact z_iret C hlk hr d_X4_lackOf_80
set_option maxRecDepth 4000 in
theorem kb_X4_lackOf_23 {p : Program} {l : Launch} {e : Env} {s : State} {m : MethodId} {args : Array Value} {below : List Frame} {meth : Method} {c : Code} {G : GG} {k23 : Int32 → Int32 → Option Int32} {M : Mm} {a0 : Nat} {a1 : Nat} {x2 : Int32} {x3 : Int32} {x4 : Int32} {x5 : Int32} {r : Int32} (C : CX p s m args c prog_6_method_9_code 6 "SnowSentries$Land" 0 G) (hlk : meth.locks = false) (hr : meth.sig.returnType = (some .int)) (ha0 : kU 0 a0 = 4) (ha1 : kU 0 a1 = 6) (hk23 : ∀ (x4 : Int32) (x5 : Int32), k23 x4 x5 = some r → Z p l e { frames := 3, cells := 0, slots := 0, locals := 67 } s m args below meth c 0 G 6 (MQ below (QC 0 G (some (.int r)) M) args s 0 0 (AU 0 G)) 23 [(0, .ref (gB G + a0)), (1, .ref (gB G + a1)), (2, .int x2), (3, .int x3), (4, .int x4), (5, .int x5)] [] M) : b_X4_lackOf_23 k23 M a0 a1 x2 x3 x4 x5 = some r → Z p l e { frames := 3, cells := 0, slots := 0, locals := 67 } s m args below meth c 0 G 6 (MQ below (QC 0 G (some (.int r)) M) args s 0 0 (AU 0 G)) 23 [(0, .ref (gB G + a0)), (1, .ref (gB G + a1)), (2, .int x2), (3, .int x3), (4, .int x4), (5, .int x5)] [] M := by
  intro h
  unfold b_X4_lackOf_23 at h
  refine z_iload 5 C d_X4_lackOf_23 rfl ?_
  refine z_iload_n 3 C d_X4_lackOf_25 rfl rfl ?_
  refine z_icmp_ge C d_X4_lackOf_26 (fun q1 => ?_) (fun q1 => ?_)
  · have h := o_t q1 h
    exact z_sub [4] rfl (k_X4_lackOf_74 C hlk hr h)
  · have h := o_f q1 h
    refine z_iload 5 C d_X4_lackOf_29 rfl ?_
    refine z_bipush (v := (12 : Int32)) C d_X4_lackOf_31 (by decide) ?_
    refine z_icmp_ge C d_X4_lackOf_33 (fun q2 => ?_) (fun q2 => ?_)
    · have h := o_t q2 h
      exact z_sub [4] rfl (k_X4_lackOf_74 C hlk hr h)
    · have h := o_f q2 h
      refine z_iload 4 C d_X4_lackOf_36 rfl ?_
      refine z_aload_n 1 C d_X4_lackOf_38 rfl rfl ?_
      refine z_aload_n 0 C d_X4_lackOf_39 rfl rfl ?_
      refine z_get (k := 7) (v := .ref (gB G + (a0 + 5))) C ((E_4 ha0 G) _ _) (kU_in ha0 (by decide)) rfl inX4 (by decide) wf_X4_31 rfl d_X4_lackOf_40 ?_
      refine z_get (k := 6) (v := .ref (gB G + ((a0 + 5) + 6))) C ((E_7 (k_4_7 ha0) G) _ _) (kU_in (k_4_7 ha0) (by decide)) rfl inX7 (by decide) wf_X4_100 rfl d_X4_lackOf_43 ?_
      refine z_iload_n 2 C d_X4_lackOf_46 rfl rfl ?_
      refine z_iload 5 C d_X4_lackOf_47 rfl ?_
      obtain ⟨p4, e3, h⟩ := o_bd h
      refine z_V (S := [.ref (gB G + a1), .int x4]) (As := [.int x2, .int x5]) C (c_X0_warmthOn l G (k_7_6 (k_4_7 ha0)) e3) ((E_0 (k_7_6 (k_4_7 ha0)) G) _ _) (kU_in (k_7_6 (k_4_7 ha0)) (by decide)) rfl wc_X0_warmthOn wm_X4_104 ws_X0_warmthOn wl_X0_warmthOn wi_X0 hy_X0_warmthOn ⟨Nat.le_of_ble_eq_true rfl, Nat.le_of_ble_eq_true rfl⟩ rfl rfl (Nat.le_of_ble_eq_true rfl) d_X4_lackOf_49 ?_
      refine z_aload_n 0 C d_X4_lackOf_52 rfl rfl ?_
      refine z_get (k := 7) (v := .ref (gB G + (a0 + 5))) C ((E_4 ha0 G) _ _) (kU_in ha0 (by decide)) rfl inX4 (by decide) wf_X4_31 rfl d_X4_lackOf_53 ?_
      refine z_get (k := 5) (v := .ref (gB G + ((a0 + 5) + 5))) C ((E_7 (k_4_7 ha0) G) _ _) (kU_in (k_4_7 ha0) (by decide)) rfl inX7 (by decide) wf_X4_109 rfl d_X4_lackOf_56 ?_
      refine z_iload 5 C d_X4_lackOf_59 rfl ?_
      obtain ⟨q5, h⟩ := o_ck h
      refine z_ald ((E_22 (k_7_5 (k_4_7 ha0)) G) _ _) C (kU_in (k_7_5 (k_4_7 ha0)) (by decide)) q5 d_X4_lackOf_61 ?_
      obtain ⟨p7, e6, h⟩ := o_bd h
      refine z_V (S := [.int x4]) (As := [.int p4, .int (M.1 ((a0 + 5) + 5) x5.toNatClampNeg)]) C (c_X6_lossBy l G ha1 e6) ((E_6 ha1 G) _ _) (kU_in ha1 (by decide)) rfl wc_X6_lossBy wm_X4_112 ws_X6_lossBy wl_X6_lossBy wi_X6 hy_X6_lossBy ⟨Nat.le_of_ble_eq_true rfl, Nat.le_of_ble_eq_true rfl⟩ rfl rfl (Nat.le_of_ble_eq_true rfl) d_X4_lackOf_62 ?_
      refine z_iadd C d_X4_lackOf_65 ?_
      obtain ⟨v8, e9, h⟩ := o_nm h
      refine z_nI e9 ?_
      refine z_istore (L' := [(4, .int v8), (0, .ref (gB G + a0)), (1, .ref (gB G + a1)), (2, .int x2), (3, .int x3), (5, .int x5)]) C d_X4_lackOf_66 (by decide) rfl ?_
      refine z_iinc (v := (1 : Int32)) (L' := [(5, .int (x5 + (1 : Int32))), (4, .int v8), (0, .ref (gB G + a0)), (1, .ref (gB G + a1)), (2, .int x2), (3, .int x3)]) 5 C d_X4_lackOf_68 rfl (by decide) (by decide) rfl ?_
      refine z_goto C d_X4_lackOf_71 ?_
      exact z_sub [2, 3, 4, 5, 1, 0] rfl (hk23 _ _  h)
theorem k_X4_lackOf_23 {p : Program} {l : Launch} {e : Env} {s : State} {m : MethodId} {args : Array Value} {below : List Frame} {meth : Method} {c : Code} {G : GG} {M : Mm} {a0 : Nat} {a1 : Nat} {x2 : Int32} {x3 : Int32} {r : Int32} (C : CX p s m args c prog_6_method_9_code 6 "SnowSentries$Land" 0 G) (hlk : meth.locks = false) (hr : meth.sig.returnType = (some .int)) (ha0 : kU 0 a0 = 4) (ha1 : kU 0 a1 = 6) : ∀ (n : Nat) (x4 : Int32) (x5 : Int32), f_X4_lackOf_23 M a0 a1 x2 x3 n x4 x5 = some r → Z p l e { frames := 3, cells := 0, slots := 0, locals := 67 } s m args below meth c 0 G 6 (MQ below (QC 0 G (some (.int r)) M) args s 0 0 (AU 0 G)) 23 [(0, .ref (gB G + a0)), (1, .ref (gB G + a1)), (2, .int x2), (3, .int x3), (4, .int x4), (5, .int x5)] [] M := by
  intro n
  induction n with
  | zero =>
    intro x4 x5  h
    exact absurd h (fun z => by cases z)
  | succ n ih =>
    intro x4 x5  h
    exact kb_X4_lackOf_23 C hlk hr ha0 ha1 (fun x4 x5 h => ih x4 x5 h) h
set_option maxRecDepth 4000 in
theorem k_X4_lackOf_0 {p : Program} {l : Launch} {e : Env} {s : State} {m : MethodId} {args : Array Value} {below : List Frame} {meth : Method} {c : Code} {G : GG} {M : Mm} {a0 : Nat} {a1 : Nat} {x2 : Int32} {x3 : Int32} {r : Int32} (C : CX p s m args c prog_6_method_9_code 6 "SnowSentries$Land" 0 G) (hlk : meth.locks = false) (hr : meth.sig.returnType = (some .int)) (ha0 : kU 0 a0 = 4) (ha1 : kU 0 a1 = 6) : f_X4_lackOf M a0 a1 x2 x3 = some r → Z p l e { frames := 3, cells := 0, slots := 0, locals := 67 } s m args below meth c 0 G 6 (MQ below (QC 0 G (some (.int r)) M) args s 0 0 (AU 0 G)) 0 [(0, .ref (gB G + a0)), (1, .ref (gB G + a1)), (2, .int x2), (3, .int x3)] [] M := by
  intro h
  unfold f_X4_lackOf at h
  refine z_aload_n 0 C d_X4_lackOf_0 rfl rfl ?_
  refine z_get (k := 3) (v := .ref (gB G + (a0 + 2))) C ((E_4 ha0 G) _ _) (kU_in ha0 (by decide)) rfl inX4 (by decide) wf_X4_18 rfl d_X4_lackOf_1 ?_
  refine z_get (k := 0) (v := .int (M.1 (a0 + 2) 0)) C ((E_5 (k_4_3 ha0) G) _ _) (kU_in (k_4_3 ha0) (by decide)) rfl inX5 (by decide) wf_X4_72 rfl d_X4_lackOf_4 ?_
  refine z_aload_n 1 C d_X4_lackOf_7 rfl rfl ?_
  refine z_get (k := 4) (v := .int (M.1 a1 4)) C ((E_6 ha1 G) _ _) (kU_in ha1 (by decide)) rfl inX6 (by decide) wf_X4_67 rfl d_X4_lackOf_8 ?_
  refine z_isub C d_X4_lackOf_11 ?_
  obtain ⟨v1, e2, h⟩ := o_nm h
  refine z_nI e2 ?_
  refine z_istore (L' := [(4, .int v1), (0, .ref (gB G + a0)), (1, .ref (gB G + a1)), (2, .int x2), (3, .int x3)]) C d_X4_lackOf_12 (by decide) rfl ?_
  refine z_aload_n 1 C d_X4_lackOf_14 rfl rfl ?_
  refine z_get (k := 7) (v := .ref (gB G + (a0 + 5))) C ((E_4 ha0 G) _ _) (kU_in ha0 (by decide)) rfl inX4 (by decide) wf_X4_31 rfl d_X4_lackOf_15 ?_
  refine z_get (k := 0) (v := .int (M.1 (a0 + 5) 0)) C ((E_7 (k_4_7 ha0) G) _ _) (kU_in (k_4_7 ha0) (by decide)) rfl inX7 (by decide) wf_X4_73 rfl d_X4_lackOf_18 ?_
  obtain ⟨v3, e4, h⟩ := o_nm h
  refine z_nI e4 ?_
  refine z_istore (L' := [(5, .int v3), (4, .int v1), (0, .ref (gB G + a0)), (1, .ref (gB G + a1)), (2, .int x2), (3, .int x3)]) C d_X4_lackOf_21 (by decide) rfl ?_
  exact z_sub [2, 3, 4, 5, 1, 0] rfl (k_X4_lackOf_23 C hlk hr ha0 ha1 _ _ _ h)
theorem c_X4_lackOf (l : Launch) (G : GG) {M : Mm} {a0 : Nat} {a1 : Nat} {x2 : Int32} {x3 : Int32} {r : Int32} (ha0 : kU 0 a0 = 4) (ha1 : kU 0 a1 = 6) (h : f_X4_lackOf M a0 a1 x2 x3 = some r) : CT l 0 G y_X4_lackOf prog_6_method_9_code 6 (some .int) 3 67 [.ref (gB G + a0), .ref (gB G + a1), .int x2, .int x3] M (some (.int r)) M :=
  CT.of (by decide +kernel) (Nat.le_of_ble_eq_true rfl) rfl (fun p e s m args below meth c C hlk hr => k_X4_lackOf_0 C hlk hr ha0 ha1 h)
-- SnowSentries$Land.needOf(III)I
set_option maxRecDepth 4000 in
theorem k_X4_needOf_56 {p : Program} {l : Launch} {e : Env} {s : State} {m : MethodId} {args : Array Value} {below : List Frame} {meth : Method} {c : Code} {G : GG} {M : Mm} {s_0 : Int32} {r : Int32} (C : CX p s m args c prog_6_method_10_code 6 "SnowSentries$Land" 0 G) (hlk : meth.locks = false) (hr : meth.sig.returnType = (some .int)) : f_X4_needOf_56 M s_0 = some r → Z p l e { frames := 4, cells := 0, slots := 0, locals := 92 } s m args below meth c 0 G 6 (MQ below (QC 0 G (some (.int r)) M) args s 0 0 (AU 0 G)) 56 [] [.int s_0] M := by
  intro h
  unfold f_X4_needOf_56 at h
  obtain rfl := o_some h
  exact z_iret C hlk hr d_X4_needOf_56
set_option maxRecDepth 4000 in
theorem k_X4_needOf_0 {p : Program} {l : Launch} {e : Env} {s : State} {m : MethodId} {args : Array Value} {below : List Frame} {meth : Method} {c : Code} {G : GG} {M : Mm} {a0 : Nat} {x1 : Int32} {x2 : Int32} {x3 : Int32} {r : Int32} (C : CX p s m args c prog_6_method_10_code 6 "SnowSentries$Land" 0 G) (hlk : meth.locks = false) (hr : meth.sig.returnType = (some .int)) (ha0 : kU 0 a0 = 4) : f_X4_needOf M a0 x1 x2 x3 = some r → Z p l e { frames := 4, cells := 0, slots := 0, locals := 92 } s m args below meth c 0 G 6 (MQ below (QC 0 G (some (.int r)) M) args s 0 0 (AU 0 G)) 0 [(0, .ref (gB G + a0)), (1, .int x1), (2, .int x2), (3, .int x3)] [] M := by
  intro h
  unfold f_X4_needOf at h
  refine z_aload_n 0 C d_X4_needOf_0 rfl rfl ?_
  refine z_get (k := 7) (v := .ref (gB G + (a0 + 5))) C ((E_4 ha0 G) _ _) (kU_in ha0 (by decide)) rfl inX4 (by decide) wf_X4_31 rfl d_X4_needOf_1 ?_
  refine z_iload_n 1 C d_X4_needOf_4 rfl rfl ?_
  refine z_iload_n 2 C d_X4_needOf_5 rfl rfl ?_
  obtain ⟨p2, e1, h⟩ := o_bd h
  refine z_V (S := []) (As := [.int x1, .int x2]) C (c_X7_manOf l G (k_4_7 ha0) e1) ((E_7 (k_4_7 ha0) G) _ _) (kU_in (k_4_7 ha0) (by decide)) rfl wc_X7_manOf wm_X4_59 ws_X7_manOf wl_X7_manOf wi_X7 hy_X7_manOf ⟨Nat.le_of_ble_eq_true rfl, Nat.le_of_ble_eq_true rfl⟩ rfl rfl (Nat.le_of_ble_eq_true rfl) d_X4_needOf_6 ?_
  refine z_astore (L' := [(4, .ref (gB G + p2)), (0, .ref (gB G + a0)), (1, .int x1), (2, .int x2), (3, .int x3)]) C d_X4_needOf_9 (by decide) rfl ?_
  refine z_aload_n 1 C d_X4_needOf_11 rfl rfl ?_
  refine z_get (k := 3) (v := .ref (gB G + (a0 + 2))) C ((E_4 ha0 G) _ _) (kU_in ha0 (by decide)) rfl inX4 (by decide) wf_X4_18 rfl d_X4_needOf_12 ?_
  refine z_aload 0 C d_X4_needOf_15 rfl ?_
  obtain ⟨p4, e3, h⟩ := o_bd h
  refine z_V (S := []) (As := [.ref (gB G + p2)]) C (c_X5_suits l G (k_4_3 ha0) (kr_X7_manOf (k_4_7 ha0) e1) e3) ((E_5 (k_4_3 ha0) G) _ _) (kU_in (k_4_3 ha0) (by decide)) rfl wc_X5_suits wm_X4_63 ws_X5_suits wl_X5_suits wi_X5 hy_X5_suits ⟨Nat.le_of_ble_eq_true rfl, Nat.le_of_ble_eq_true rfl⟩ rfl rfl (Nat.le_of_ble_eq_true rfl) d_X4_needOf_17 ?_
  refine z_if_ne C d_X4_needOf_20 (fun q5 => ?_) (fun q5 => ?_)
  · have h := o_f q5 h
    refine z_aload_n 1 C d_X4_needOf_26 rfl rfl ?_
    refine z_aload 0 C d_X4_needOf_27 rfl ?_
    refine z_iload_n 3 C d_X4_needOf_29 rfl rfl ?_
    refine z_iload_n 4 C d_X4_needOf_30 rfl rfl ?_
    obtain ⟨p7, e6, h⟩ := o_bd h
    refine z_V (S := []) (As := [.ref (gB G + p2), .int x2, .int x3]) C (c_X4_lackOf l G ha0 (kr_X7_manOf (k_4_7 ha0) e1) e6) ((E_4 ha0 G) _ _) (kU_in ha0 (by decide)) rfl wc_X4_lackOf wm_X4_115 ws_X4_lackOf wl_X4_lackOf wi_X4 hy_X4_lackOf ⟨Nat.le_of_ble_eq_true rfl, Nat.le_of_ble_eq_true rfl⟩ rfl rfl (Nat.le_of_ble_eq_true rfl) d_X4_needOf_31 ?_
    refine z_istore (L' := [(5, .int p7), (4, .ref (gB G + p2)), (0, .ref (gB G + a0)), (1, .int x1), (2, .int x2), (3, .int x3)]) C d_X4_needOf_34 (by decide) rfl ?_
    refine z_aload 1 C d_X4_needOf_36 rfl ?_
    refine z_get (k := 4) (v := .int (M.1 p2 4)) C ((E_6 (kr_X7_manOf (k_4_7 ha0) e1) G) _ _) (kU_in (kr_X7_manOf (k_4_7 ha0) e1) (by decide)) rfl inX6 (by decide) wf_X4_67 rfl d_X4_needOf_38 ?_
    refine z_iload 0 C d_X4_needOf_41 rfl ?_
    refine z_iadd C d_X4_needOf_43 ?_
    refine z_bipush (v := (99 : Int32)) C d_X4_needOf_44 (by decide) ?_
    refine z_icmp_le C d_X4_needOf_46 (fun q8 => ?_) (fun q8 => ?_)
    · have h := o_t q8 h
      refine z_iload 0 C d_X4_needOf_54 rfl ?_
      exact z_sub [] rfl (k_X4_needOf_56 C hlk hr h)
    · have h := o_f q8 h
      refine z_bipush (v := (-4 : Int32)) C d_X4_needOf_49 (by decide) ?_
      refine z_goto C d_X4_needOf_51 ?_
      exact z_sub [] rfl (k_X4_needOf_56 C hlk hr h)
  · have h := o_t q5 h
    refine z_bipush (v := (-4 : Int32)) C d_X4_needOf_23 (by decide) ?_
    obtain rfl := o_some h
    exact z_iret C hlk hr d_X4_needOf_25
theorem c_X4_needOf (l : Launch) (G : GG) {M : Mm} {a0 : Nat} {x1 : Int32} {x2 : Int32} {x3 : Int32} {r : Int32} (ha0 : kU 0 a0 = 4) (h : f_X4_needOf M a0 x1 x2 x3 = some r) : CT l 0 G y_X4_needOf prog_6_method_10_code 6 (some .int) 4 92 [.ref (gB G + a0), .int x1, .int x2, .int x3] M (some (.int r)) M :=
  CT.of (by decide +kernel) (Nat.le_of_ble_eq_true rfl) rfl (fun p e s m args below meth c C hlk hr => k_X4_needOf_0 C hlk hr ha0 h)
-- SnowSentries$Land.wipe()V
set_option maxRecDepth 4000 in
theorem k_X4_wipe_0 {p : Program} {l : Launch} {e : Env} {s : State} {m : MethodId} {args : Array Value} {below : List Frame} {meth : Method} {c : Code} {G : GG} {u : Nat} {M : Mm} {a0 : Nat} {M2 : Mm} (C : CX p s m args c prog_6_method_2_code 1 "SnowSentries$Land" u G) (hlk : meth.locks = false) (hr : meth.sig.returnType = none) (ha0 : kU u a0 = 4) : f_X4_wipe M a0 = some M2 → Z p l e { frames := 2, cells := 0, slots := 0, locals := 44 } s m args below meth c u G 1 (MQ below (QC u G none M2) args s 0 0 (AU u G)) 0 [(0, .ref (gB G + a0))] [] M := by
  intro h
  unfold f_X4_wipe at h
  refine z_aload_n 0 C d_X4_wipe_0 rfl rfl ?_
  refine z_iconst (v := (5 : Int32)) C d_X4_wipe_1 (by decide) ?_
  obtain ⟨M1, e2, h⟩ := o_wr h
  refine z_pI (k := 0) (ty := .int) C (fun r q => (E_4 ha0 G) r q) (fun _ _ => rfl) (kU_in ha0 (by decide)) rfl inX4 tyX4 tyX4_ok nmX4 (by decide) wf_X4_38 rfl (by decide +kernel) rfl rfl (Nat.le_of_ble_eq_true rfl) d_X4_wipe_2 ?_
  refine z_nM e2 ?_
  refine z_aload_n 0 C d_X4_wipe_5 rfl rfl ?_
  refine z_iconst (v := (3 : Int32)) C d_X4_wipe_6 (by decide) ?_
  obtain ⟨M3, e4, h⟩ := o_wr h
  refine z_pI (k := 1) (ty := .int) C (fun r q => (E_4 ha0 G) r q) (fun _ _ => rfl) (kU_in ha0 (by decide)) rfl inX4 tyX4 tyX4_ok nmX4 (by decide) wf_X4_42 rfl (by decide +kernel) rfl rfl (Nat.le_of_ble_eq_true rfl) d_X4_wipe_7 ?_
  refine z_nM e4 ?_
  refine z_aload_n 0 C d_X4_wipe_10 rfl rfl ?_
  refine z_get (k := 2) (v := .ref (gB G + (a0 + 1))) C ((E_4 ha0 G) _ _) (kU_in ha0 (by decide)) rfl inX4 (by decide) wf_X4_9 rfl d_X4_wipe_11 ?_
  refine z_iconst (v := (0 : Int32)) C d_X4_wipe_14 (by decide) ?_
  obtain ⟨M5, e6, h⟩ := o_wr h
  refine z_S (S := []) (As := [.ref (gB G + (a0 + 1)), .int (0 : Int32)]) C (c_J7_fill_53178 l G (n := 12) (fun r q => (E_22 (k_4_2 ha0) G) r q) (kU_in (k_4_2 ha0) (by decide)) (by decide)) wc_J7_fill_53178 wm_X4_45 ws_J7_fill_53178 wi_J7 hy_J7_fill_53178 ⟨Nat.le_of_ble_eq_true rfl, Nat.le_of_ble_eq_true rfl⟩ rfl rfl (Nat.le_of_ble_eq_true rfl) d_X4_wipe_15 ?_
  refine z_nM e6 ?_
  refine z_aload_n 0 C d_X4_wipe_18 rfl rfl ?_
  refine z_get (k := 3) (v := .ref (gB G + (a0 + 2))) C ((E_4 ha0 G) _ _) (kU_in ha0 (by decide)) rfl inX4 (by decide) wf_X4_18 rfl d_X4_wipe_19 ?_
  obtain ⟨p8, e7, h⟩ := o_bd h
  refine z_V (S := []) (As := []) C (c_X5_wipe l G (k_4_3 ha0) e7) ((E_5 (k_4_3 ha0) G) _ _) (kU_in (k_4_3 ha0) (by decide)) rfl wc_X5_wipe wm_X4_51 ws_X5_wipe wl_X5_wipe wi_X5 hy_X5_wipe ⟨Nat.le_of_ble_eq_true rfl, Nat.le_of_ble_eq_true rfl⟩ rfl rfl (Nat.le_of_ble_eq_true rfl) d_X4_wipe_22 ?_
  refine z_aload_n 0 C d_X4_wipe_25 rfl rfl ?_
  refine z_iconst (v := (0 : Int32)) C d_X4_wipe_26 (by decide) ?_
  obtain ⟨M9, e10, h⟩ := o_wr h
  refine z_pI (k := 4) (ty := .int) C (fun r q => (E_4 ha0 G) r q) (fun _ _ => rfl) (kU_in ha0 (by decide)) rfl inX4 tyX4 tyX4_ok nmX4 (by decide) wf_X4_52 rfl (by decide +kernel) rfl rfl (Nat.le_of_ble_eq_true rfl) d_X4_wipe_27 ?_
  refine z_nM e10 ?_
  refine z_aload_n 0 C d_X4_wipe_30 rfl rfl ?_
  refine z_get (k := 7) (v := .ref (gB G + (a0 + 5))) C ((E_4 ha0 G) _ _) (kU_in ha0 (by decide)) rfl inX4 (by decide) wf_X4_31 rfl d_X4_wipe_31 ?_
  obtain ⟨p12, e11, h⟩ := o_bd h
  refine z_V (S := []) (As := []) C (c_X7_wipe l G (k_4_7 ha0) e11) ((E_7 (k_4_7 ha0) G) _ _) (kU_in (k_4_7 ha0) (by decide)) rfl wc_X7_wipe wm_X4_55 ws_X7_wipe wl_X7_wipe wi_X7 hy_X7_wipe ⟨Nat.le_of_ble_eq_true rfl, Nat.le_of_ble_eq_true rfl⟩ rfl rfl (Nat.le_of_ble_eq_true rfl) d_X4_wipe_34 ?_
  obtain rfl := o_some h
  exact z_vret C hlk hr d_X4_wipe_37
theorem c_X4_wipe (l : Launch) (G : GG) {u : Nat} {M : Mm} {a0 : Nat} {M2 : Mm} (ha0 : kU u a0 = 4) (h : f_X4_wipe M a0 = some M2) : CT l u G y_X4_wipe prog_6_method_2_code 1 none 2 44 [.ref (gB G + a0)] M none M2 :=
  CT.of (by decide +kernel) (Nat.le_of_ble_eq_true rfl) rfl (fun p e s m args below meth c C hlk hr => k_X4_wipe_0 C hlk hr ha0 h)
-- SnowSentries$Land.putHouse(II)V
set_option maxRecDepth 4000 in
theorem k_X4_putHouse_39 {p : Program} {l : Launch} {e : Env} {s : State} {m : MethodId} {args : Array Value} {below : List Frame} {meth : Method} {c : Code} {G : GG} {M : Mm} {M2 : Mm} (C : CX p s m args c prog_6_method_3_code 3 "SnowSentries$Land" 0 G) (hlk : meth.locks = false) (hr : meth.sig.returnType = none) : f_X4_putHouse_39 M = some M2 → Z p l e { frames := 0, cells := 0, slots := 0, locals := 0 } s m args below meth c 0 G 3 (MQ below (QC 0 G none M2) args s 0 0 (AU 0 G)) 39 [] [] M := by
  intro h
  unfold f_X4_putHouse_39 at h
  obtain rfl := o_some h
  exact z_vret C hlk hr d_X4_putHouse_39
set_option maxRecDepth 4000 in
theorem k_X4_putHouse_0 {p : Program} {l : Launch} {e : Env} {s : State} {m : MethodId} {args : Array Value} {below : List Frame} {meth : Method} {c : Code} {G : GG} {M : Mm} {a0 : Nat} {x1 : Int32} {x2 : Int32} {M2 : Mm} (C : CX p s m args c prog_6_method_3_code 3 "SnowSentries$Land" 0 G) (hlk : meth.locks = false) (hr : meth.sig.returnType = none) (ha0 : kU 0 a0 = 4) : f_X4_putHouse M a0 x1 x2 = some M2 → Z p l e { frames := 0, cells := 0, slots := 0, locals := 0 } s m args below meth c 0 G 3 (MQ below (QC 0 G none M2) args s 0 0 (AU 0 G)) 0 [(0, .ref (gB G + a0)), (1, .int x1), (2, .int x2)] [] M := by
  intro h
  unfold f_X4_putHouse at h
  refine z_aload_n 0 C d_X4_putHouse_0 rfl rfl ?_
  refine z_get (k := 4) (v := .int (M.1 a0 4)) C ((E_4 ha0 G) _ _) (kU_in ha0 (by decide)) rfl inX4 (by decide) wf_X4_52 rfl d_X4_putHouse_1 ?_
  refine z_bipush (v := (8 : Int32)) C d_X4_putHouse_4 (by decide) ?_
  refine z_icmp_ge C d_X4_putHouse_6 (fun q1 => ?_) (fun q1 => ?_)
  · have h := o_t q1 h
    exact z_sub [] rfl (k_X4_putHouse_39 C hlk hr h)
  · have h := o_f q1 h
    refine z_aload_n 0 C d_X4_putHouse_9 rfl rfl ?_
    refine z_get (k := 5) (v := .ref (gB G + (a0 + 3))) C ((E_4 ha0 G) _ _) (kU_in ha0 (by decide)) rfl inX4 (by decide) wf_X4_22 rfl d_X4_putHouse_10 ?_
    refine z_aload_n 0 C d_X4_putHouse_13 rfl rfl ?_
    refine z_get (k := 4) (v := .int (M.1 a0 4)) C ((E_4 ha0 G) _ _) (kU_in ha0 (by decide)) rfl inX4 (by decide) wf_X4_52 rfl d_X4_putHouse_14 ?_
    refine z_iload_n 1 C d_X4_putHouse_17 rfl rfl ?_
    obtain ⟨q4, h⟩ := o_ck h
    obtain ⟨M2, e3, h⟩ := o_wr h
    refine z_ast (fun r q => (E_23 (k_4_5 ha0) G) r q) C (kU_in (k_4_5 ha0) (by decide)) q4 d_X4_putHouse_18 ?_
    refine z_nM e3 ?_
    refine z_aload_n 0 C d_X4_putHouse_19 rfl rfl ?_
    refine z_get (k := 6) (v := .ref (gB G + (a0 + 4))) C ((E_4 ha0 G) _ _) (kU_in ha0 (by decide)) rfl inX4 (by decide) wf_X4_25 rfl d_X4_putHouse_20 ?_
    refine z_aload_n 0 C d_X4_putHouse_23 rfl rfl ?_
    refine z_get (k := 4) (v := .int (M2.1 a0 4)) C ((E_4 ha0 G) _ _) (kU_in ha0 (by decide)) rfl inX4 (by decide) wf_X4_52 rfl d_X4_putHouse_24 ?_
    refine z_iload_n 2 C d_X4_putHouse_27 rfl rfl ?_
    obtain ⟨q7, h⟩ := o_ck h
    obtain ⟨M5, e6, h⟩ := o_wr h
    refine z_ast (fun r q => (E_23 (k_4_6 ha0) G) r q) C (kU_in (k_4_6 ha0) (by decide)) q7 d_X4_putHouse_28 ?_
    refine z_nM e6 ?_
    refine z_aload_n 0 C d_X4_putHouse_29 rfl rfl ?_
    refine z_dup C d_X4_putHouse_30 rfl ?_
    refine z_get (k := 4) (v := .int (M5.1 a0 4)) C ((E_4 ha0 G) _ _) (kU_in ha0 (by decide)) rfl inX4 (by decide) wf_X4_52 rfl d_X4_putHouse_31 ?_
    refine z_iconst (v := (1 : Int32)) C d_X4_putHouse_34 (by decide) ?_
    refine z_iadd C d_X4_putHouse_35 ?_
    obtain ⟨M8, e9, h⟩ := o_wr h
    refine z_pI (k := 4) (ty := .int) C (fun r q => (E_4 ha0 G) r q) (fun _ _ => rfl) (kU_in ha0 (by decide)) rfl inX4 tyX4 tyX4_ok nmX4 (by decide) wf_X4_52 rfl (by decide +kernel) rfl rfl (Nat.le_of_ble_eq_true rfl) d_X4_putHouse_36 ?_
    refine z_nM e9 ?_
    exact z_sub [] rfl (k_X4_putHouse_39 C hlk hr h)
theorem c_X4_putHouse (l : Launch) (G : GG) {M : Mm} {a0 : Nat} {x1 : Int32} {x2 : Int32} {M2 : Mm} (ha0 : kU 0 a0 = 4) (h : f_X4_putHouse M a0 x1 x2 = some M2) : CT l 0 G y_X4_putHouse prog_6_method_3_code 3 none 0 0 [.ref (gB G + a0), .int x1, .int x2] M none M2 :=
  CT.of (by decide +kernel) (Nat.le_of_ble_eq_true rfl) rfl (fun p e s m args below meth c C hlk hr => k_X4_putHouse_0 C hlk hr ha0 h)
-- SnowSentries$Land.ownerOf(ILSnowSentries$Scene;)I
set_option maxRecDepth 4000 in
theorem k_X4_ownerOf_40 {p : Program} {l : Launch} {e : Env} {s : State} {m : MethodId} {args : Array Value} {below : List Frame} {meth : Method} {c : Code} {G : GG} {M : Mm} {s_0 : Int32} {r : Int32} (C : CX p s m args c prog_6_method_4_code 4 "SnowSentries$Land" 0 G) (hlk : meth.locks = false) (hr : meth.sig.returnType = (some .int)) : f_X4_ownerOf_40 M s_0 = some r → Z p l e { frames := 0, cells := 0, slots := 0, locals := 0 } s m args below meth c 0 G 4 (MQ below (QC 0 G (some (.int r)) M) args s 0 0 (AU 0 G)) 40 [] [.int s_0] M := by
  intro h
  unfold f_X4_ownerOf_40 at h
  obtain rfl := o_some h
  exact z_iret C hlk hr d_X4_ownerOf_40
set_option maxRecDepth 4000 in
theorem k_X4_ownerOf_0 {p : Program} {l : Launch} {e : Env} {s : State} {m : MethodId} {args : Array Value} {below : List Frame} {meth : Method} {c : Code} {G : GG} {M : Mm} {a0 : Nat} {x1 : Int32} {a2 : Nat} {r : Int32} (C : CX p s m args c prog_6_method_4_code 4 "SnowSentries$Land" 0 G) (hlk : meth.locks = false) (hr : meth.sig.returnType = (some .int)) (ha0 : kU 0 a0 = 4) (ha2 : kU 0 a2 = 7) : f_X4_ownerOf M a0 x1 a2 = some r → Z p l e { frames := 0, cells := 0, slots := 0, locals := 0 } s m args below meth c 0 G 4 (MQ below (QC 0 G (some (.int r)) M) args s 0 0 (AU 0 G)) 0 [(0, .ref (gB G + a0)), (1, .int x1), (2, .ref (gB G + a2))] [] M := by
  intro h
  unfold f_X4_ownerOf at h
  refine z_aload_n 2 C d_X4_ownerOf_0 rfl rfl ?_
  refine z_get (k := 4) (v := .ref (gB G + (a2 + 4))) C ((E_7 ha2 G) _ _) (kU_in ha2 (by decide)) rfl inX7 (by decide) wf_X4_56 rfl d_X4_ownerOf_1 ?_
  refine z_aload_n 0 C d_X4_ownerOf_4 rfl rfl ?_
  refine z_get (k := 5) (v := .ref (gB G + (a0 + 3))) C ((E_4 ha0 G) _ _) (kU_in ha0 (by decide)) rfl inX4 (by decide) wf_X4_22 rfl d_X4_ownerOf_5 ?_
  refine z_iload_n 1 C d_X4_ownerOf_8 rfl rfl ?_
  obtain ⟨q1, h⟩ := o_ck h
  refine z_ald ((E_23 (k_4_5 ha0) G) _ _) C (kU_in (k_4_5 ha0) (by decide)) q1 d_X4_ownerOf_9 ?_
  obtain ⟨q2, h⟩ := o_ck h
  refine z_ald ((E_21 (k_7_4 ha2) G) _ _) C (kU_in (k_7_4 ha2) (by decide)) q2 d_X4_ownerOf_10 ?_
  obtain ⟨v3, e4, h⟩ := o_nm h
  refine z_nI e4 ?_
  refine z_istore_n (L' := [(3, .int v3), (0, .ref (gB G + a0)), (1, .int x1), (2, .ref (gB G + a2))]) C d_X4_ownerOf_11 rfl (by decide) rfl ?_
  refine z_aload_n 1 C d_X4_ownerOf_12 rfl rfl ?_
  refine z_get (k := 6) (v := .ref (gB G + (a0 + 4))) C ((E_4 ha0 G) _ _) (kU_in ha0 (by decide)) rfl inX4 (by decide) wf_X4_25 rfl d_X4_ownerOf_13 ?_
  refine z_iload_n 2 C d_X4_ownerOf_16 rfl rfl ?_
  refine z_ald ((E_23 (k_4_6 ha0) G) _ _) C (kU_in (k_4_6 ha0) (by decide)) q1 d_X4_ownerOf_17 ?_
  refine z_iload_n 0 C d_X4_ownerOf_18 rfl rfl ?_
  refine z_icmp_ne C d_X4_ownerOf_19 (fun q5 => ?_) (fun q5 => ?_)
  · have h := o_f q5 h
    refine z_aload_n 1 C d_X4_ownerOf_25 rfl rfl ?_
    refine z_get (k := 6) (v := .ref (gB G + (a0 + 4))) C ((E_4 ha0 G) _ _) (kU_in ha0 (by decide)) rfl inX4 (by decide) wf_X4_25 rfl d_X4_ownerOf_26 ?_
    refine z_iload_n 2 C d_X4_ownerOf_29 rfl rfl ?_
    refine z_ald ((E_23 (k_4_6 ha0) G) _ _) C (kU_in (k_4_6 ha0) (by decide)) q1 d_X4_ownerOf_30 ?_
    refine z_iload_n 0 C d_X4_ownerOf_31 rfl rfl ?_
    refine z_icmp_ge C d_X4_ownerOf_32 (fun q6 => ?_) (fun q6 => ?_)
    · have h := o_t q6 h
      refine z_iconst (v := (1 : Int32)) C d_X4_ownerOf_39 (by decide) ?_
      exact z_sub [] rfl (k_X4_ownerOf_40 C hlk hr h)
    · have h := o_f q6 h
      refine z_iconst (v := (0 : Int32)) C d_X4_ownerOf_35 (by decide) ?_
      refine z_goto C d_X4_ownerOf_36 ?_
      exact z_sub [] rfl (k_X4_ownerOf_40 C hlk hr h)
  · have h := o_t q5 h
    refine z_bipush (v := (-4 : Int32)) C d_X4_ownerOf_22 (by decide) ?_
    obtain rfl := o_some h
    exact z_iret C hlk hr d_X4_ownerOf_24
theorem c_X4_ownerOf (l : Launch) (G : GG) {M : Mm} {a0 : Nat} {x1 : Int32} {a2 : Nat} {r : Int32} (ha0 : kU 0 a0 = 4) (ha2 : kU 0 a2 = 7) (h : f_X4_ownerOf M a0 x1 a2 = some r) : CT l 0 G y_X4_ownerOf prog_6_method_4_code 4 (some .int) 0 0 [.ref (gB G + a0), .int x1, .ref (gB G + a2)] M (some (.int r)) M :=
  CT.of (by decide +kernel) (Nat.le_of_ble_eq_true rfl) rfl (fun p e s m args below meth c C hlk hr => k_X4_ownerOf_0 C hlk hr ha0 ha2 h)
-- SnowSentries$Land.counting(LSnowSentries$Scene;I)I
set_option maxRecDepth 4000 in
theorem k_X4_counting_54 {p : Program} {l : Launch} {e : Env} {s : State} {m : MethodId} {args : Array Value} {below : List Frame} {meth : Method} {c : Code} {G : GG} {k5 : Int32 → Int32 → Option Int32} {M : Mm} {a0 : Nat} {a1 : Nat} {x2 : Int32} {x3 : Int32} {x4 : Int32} {r : Int32} (C : CX p s m args c prog_6_method_5_code 6 "SnowSentries$Land" 0 G) (hlk : meth.locks = false) (hr : meth.sig.returnType = (some .int)) (ha0 : kU 0 a0 = 4) (ha1 : kU 0 a1 = 7) (hk5 : ∀ (x3 : Int32) (x4 : Int32), k5 x3 x4 = some r → Z p l e { frames := 1, cells := 0, slots := 0, locals := 22 } s m args below meth c 0 G 6 (MQ below (QC 0 G (some (.int r)) M) args s 0 0 (AU 0 G)) 5 [(0, .ref (gB G + a0)), (1, .ref (gB G + a1)), (2, .int x2), (3, .int x3), (4, .int x4)] [] M) : f_X4_counting_54 k5 M a0 a1 x2 x3 x4 = some r → Z p l e { frames := 1, cells := 0, slots := 0, locals := 22 } s m args below meth c 0 G 6 (MQ below (QC 0 G (some (.int r)) M) args s 0 0 (AU 0 G)) 54 [(0, .ref (gB G + a0)), (1, .ref (gB G + a1)), (2, .int x2), (3, .int x3), (4, .int x4)] [] M := by
  intro h
  unfold f_X4_counting_54 at h
  refine z_iinc (v := (1 : Int32)) (L' := [(4, .int (x4 + (1 : Int32))), (0, .ref (gB G + a0)), (1, .ref (gB G + a1)), (2, .int x2), (3, .int x3)]) 4 C d_X4_counting_54 rfl (by decide) (by decide) rfl ?_
  refine z_goto C d_X4_counting_57 ?_
  exact z_sub [1, 2, 3, 4, 0] rfl (hk5 _ _  h)
set_option maxRecDepth 4000 in
theorem kb_X4_counting_5 {p : Program} {l : Launch} {e : Env} {s : State} {m : MethodId} {args : Array Value} {below : List Frame} {meth : Method} {c : Code} {G : GG} {k5 : Int32 → Int32 → Option Int32} {M : Mm} {a0 : Nat} {a1 : Nat} {x2 : Int32} {x3 : Int32} {x4 : Int32} {r : Int32} (C : CX p s m args c prog_6_method_5_code 6 "SnowSentries$Land" 0 G) (hlk : meth.locks = false) (hr : meth.sig.returnType = (some .int)) (ha0 : kU 0 a0 = 4) (ha1 : kU 0 a1 = 7) (hk5 : ∀ (x3 : Int32) (x4 : Int32), k5 x3 x4 = some r → Z p l e { frames := 1, cells := 0, slots := 0, locals := 22 } s m args below meth c 0 G 6 (MQ below (QC 0 G (some (.int r)) M) args s 0 0 (AU 0 G)) 5 [(0, .ref (gB G + a0)), (1, .ref (gB G + a1)), (2, .int x2), (3, .int x3), (4, .int x4)] [] M) : b_X4_counting_5 k5 M a0 a1 x2 x3 x4 = some r → Z p l e { frames := 1, cells := 0, slots := 0, locals := 22 } s m args below meth c 0 G 6 (MQ below (QC 0 G (some (.int r)) M) args s 0 0 (AU 0 G)) 5 [(0, .ref (gB G + a0)), (1, .ref (gB G + a1)), (2, .int x2), (3, .int x3), (4, .int x4)] [] M := by
  intro h
  unfold b_X4_counting_5 at h
  refine z_iload 4 C d_X4_counting_5 rfl ?_
  refine z_iconst (v := (2 : Int32)) C d_X4_counting_7 (by decide) ?_
  refine z_icmp_ge C d_X4_counting_8 (fun q1 => ?_) (fun q1 => ?_)
  · have h := o_t q1 h
    refine z_iload_n 3 C d_X4_counting_60 rfl rfl ?_
    obtain rfl := o_some h
    exact z_iret C hlk hr d_X4_counting_61
  · have h := o_f q1 h
    refine z_aload_n 1 C d_X4_counting_11 rfl rfl ?_
    refine z_iload 4 C d_X4_counting_12 rfl ?_
    refine z_iload_n 2 C d_X4_counting_14 rfl rfl ?_
    obtain ⟨p3, e2, h⟩ := o_bd h
    refine z_V (S := []) (As := [.int x4, .int x2]) C (c_X7_manOf l G ha1 e2) ((E_7 ha1 G) _ _) (kU_in ha1 (by decide)) rfl wc_X7_manOf wm_X4_59 ws_X7_manOf wl_X7_manOf wi_X7 hy_X7_manOf ⟨Nat.le_of_ble_eq_true rfl, Nat.le_of_ble_eq_true rfl⟩ rfl rfl (Nat.le_of_ble_eq_true rfl) d_X4_counting_15 ?_
    refine z_astore (L' := [(5, .ref (gB G + p3)), (0, .ref (gB G + a0)), (1, .ref (gB G + a1)), (2, .int x2), (3, .int x3), (4, .int x4)]) C d_X4_counting_18 (by decide) rfl ?_
    refine z_aload_n 1 C d_X4_counting_20 rfl rfl ?_
    refine z_get (k := 3) (v := .ref (gB G + (a0 + 2))) C ((E_4 ha0 G) _ _) (kU_in ha0 (by decide)) rfl inX4 (by decide) wf_X4_18 rfl d_X4_counting_21 ?_
    refine z_aload 0 C d_X4_counting_24 rfl ?_
    obtain ⟨p5, e4, h⟩ := o_bd h
    refine z_V (S := []) (As := [.ref (gB G + p3)]) C (c_X5_suits l G (k_4_3 ha0) (kr_X7_manOf ha1 e2) e4) ((E_5 (k_4_3 ha0) G) _ _) (kU_in (k_4_3 ha0) (by decide)) rfl wc_X5_suits wm_X4_63 ws_X5_suits wl_X5_suits wi_X5 hy_X5_suits ⟨Nat.le_of_ble_eq_true rfl, Nat.le_of_ble_eq_true rfl⟩ rfl rfl (Nat.le_of_ble_eq_true rfl) d_X4_counting_26 ?_
    refine z_if_eq C d_X4_counting_29 (fun q6 => ?_) (fun q6 => ?_)
    · have h := o_t q6 h
      exact z_sub [1, 2, 3, 4, 5] rfl (k_X4_counting_54 C hlk hr ha0 ha1 hk5 h)
    · have h := o_f q6 h
      refine z_aload 0 C d_X4_counting_32 rfl ?_
      refine z_get (k := 4) (v := .int (M.1 p3 4)) C ((E_6 (kr_X7_manOf ha1 e2) G) _ _) (kU_in (kr_X7_manOf ha1 e2) (by decide)) rfl inX6 (by decide) wf_X4_67 rfl d_X4_counting_34 ?_
      refine z_aload_n 1 C d_X4_counting_37 rfl rfl ?_
      refine z_get (k := 3) (v := .ref (gB G + (a0 + 2))) C ((E_4 ha0 G) _ _) (kU_in ha0 (by decide)) rfl inX4 (by decide) wf_X4_18 rfl d_X4_counting_38 ?_
      refine z_get (k := 0) (v := .int (M.1 (a0 + 2) 0)) C ((E_5 (k_4_3 ha0) G) _ _) (kU_in (k_4_3 ha0) (by decide)) rfl inX5 (by decide) wf_X4_72 rfl d_X4_counting_41 ?_
      refine z_icmp_lt C d_X4_counting_44 (fun q7 => ?_) (fun q7 => ?_)
      · have h := o_t q7 h
        exact z_sub [1, 2, 3, 4, 5] rfl (k_X4_counting_54 C hlk hr ha0 ha1 hk5 h)
      · have h := o_f q7 h
        refine z_iload_n 4 C d_X4_counting_47 rfl rfl ?_
        refine z_iconst (v := (1 : Int32)) C d_X4_counting_48 (by decide) ?_
        refine z_iload 5 C d_X4_counting_49 rfl ?_
        refine z_ishl C d_X4_counting_51 ?_
        refine z_ior C d_X4_counting_52 ?_
        obtain ⟨v8, e9, h⟩ := o_nm h
        refine z_nI e9 ?_
        refine z_istore_n (L' := [(3, .int v8), (5, .ref (gB G + p3)), (0, .ref (gB G + a0)), (1, .ref (gB G + a1)), (2, .int x2), (4, .int x4)]) C d_X4_counting_53 rfl (by decide) rfl ?_
        exact z_sub [2, 3, 4, 0, 5] rfl (k_X4_counting_54 C hlk hr ha0 ha1 hk5 h)
theorem k_X4_counting_5 {p : Program} {l : Launch} {e : Env} {s : State} {m : MethodId} {args : Array Value} {below : List Frame} {meth : Method} {c : Code} {G : GG} {M : Mm} {a0 : Nat} {a1 : Nat} {x2 : Int32} {r : Int32} (C : CX p s m args c prog_6_method_5_code 6 "SnowSentries$Land" 0 G) (hlk : meth.locks = false) (hr : meth.sig.returnType = (some .int)) (ha0 : kU 0 a0 = 4) (ha1 : kU 0 a1 = 7) : ∀ (n : Nat) (x3 : Int32) (x4 : Int32), f_X4_counting_5 M a0 a1 x2 n x3 x4 = some r → Z p l e { frames := 1, cells := 0, slots := 0, locals := 22 } s m args below meth c 0 G 6 (MQ below (QC 0 G (some (.int r)) M) args s 0 0 (AU 0 G)) 5 [(0, .ref (gB G + a0)), (1, .ref (gB G + a1)), (2, .int x2), (3, .int x3), (4, .int x4)] [] M := by
  intro n
  induction n with
  | zero =>
    intro x3 x4  h
    exact absurd h (fun z => by cases z)
  | succ n ih =>
    intro x3 x4  h
    exact kb_X4_counting_5 C hlk hr ha0 ha1 (fun x3 x4 h => ih x3 x4 h) h
set_option maxRecDepth 4000 in
theorem k_X4_counting_0 {p : Program} {l : Launch} {e : Env} {s : State} {m : MethodId} {args : Array Value} {below : List Frame} {meth : Method} {c : Code} {G : GG} {M : Mm} {a0 : Nat} {a1 : Nat} {x2 : Int32} {r : Int32} (C : CX p s m args c prog_6_method_5_code 6 "SnowSentries$Land" 0 G) (hlk : meth.locks = false) (hr : meth.sig.returnType = (some .int)) (ha0 : kU 0 a0 = 4) (ha1 : kU 0 a1 = 7) : f_X4_counting M a0 a1 x2 = some r → Z p l e { frames := 1, cells := 0, slots := 0, locals := 22 } s m args below meth c 0 G 6 (MQ below (QC 0 G (some (.int r)) M) args s 0 0 (AU 0 G)) 0 [(0, .ref (gB G + a0)), (1, .ref (gB G + a1)), (2, .int x2)] [] M := by
  intro h
  unfold f_X4_counting at h
  refine z_iconst (v := (0 : Int32)) C d_X4_counting_0 (by decide) ?_
  refine z_istore_n (L' := [(3, .int (0 : Int32)), (0, .ref (gB G + a0)), (1, .ref (gB G + a1)), (2, .int x2)]) C d_X4_counting_1 rfl (by decide) rfl ?_
  refine z_iconst (v := (0 : Int32)) C d_X4_counting_2 (by decide) ?_
  refine z_istore (L' := [(4, .int (0 : Int32)), (3, .int (0 : Int32)), (0, .ref (gB G + a0)), (1, .ref (gB G + a1)), (2, .int x2)]) C d_X4_counting_3 (by decide) rfl ?_
  exact z_sub [2, 3, 4, 1, 0] rfl (k_X4_counting_5 C hlk hr ha0 ha1 _ _ _ h)
theorem c_X4_counting (l : Launch) (G : GG) {M : Mm} {a0 : Nat} {a1 : Nat} {x2 : Int32} {r : Int32} (ha0 : kU 0 a0 = 4) (ha1 : kU 0 a1 = 7) (h : f_X4_counting M a0 a1 x2 = some r) : CT l 0 G y_X4_counting prog_6_method_5_code 6 (some .int) 1 22 [.ref (gB G + a0), .ref (gB G + a1), .int x2] M (some (.int r)) M :=
  CT.of (by decide +kernel) (Nat.le_of_ble_eq_true rfl) rfl (fun p e s m args below meth c C hlk hr => k_X4_counting_0 C hlk hr ha0 ha1 h)
-- SnowSentries$Land.strengthBy(II)I
set_option maxRecDepth 4000 in
theorem k_X4_strengthBy_50 {p : Program} {l : Launch} {e : Env} {s : State} {m : MethodId} {args : Array Value} {below : List Frame} {meth : Method} {c : Code} {G : GG} {k5 : Int32 → Int32 → Option Int32} {M : Mm} {a0 : Nat} {x1 : Int32} {x2 : Int32} {x3 : Int32} {x4 : Int32} {r : Int32} (C : CX p s m args c prog_6_method_6_code 6 "SnowSentries$Land" 0 G) (hlk : meth.locks = false) (hr : meth.sig.returnType = (some .int)) (ha0 : kU 0 a0 = 4) (hk5 : ∀ (x3 : Int32) (x4 : Int32), k5 x3 x4 = some r → Z p l e { frames := 1, cells := 0, slots := 0, locals := 22 } s m args below meth c 0 G 6 (MQ below (QC 0 G (some (.int r)) M) args s 0 0 (AU 0 G)) 5 [(0, .ref (gB G + a0)), (1, .int x1), (2, .int x2), (3, .int x3), (4, .int x4)] [] M) : f_X4_strengthBy_50 k5 M a0 x1 x2 x3 x4 = some r → Z p l e { frames := 1, cells := 0, slots := 0, locals := 22 } s m args below meth c 0 G 6 (MQ below (QC 0 G (some (.int r)) M) args s 0 0 (AU 0 G)) 50 [(0, .ref (gB G + a0)), (1, .int x1), (2, .int x2), (3, .int x3), (4, .int x4)] [] M := by
  intro h
  unfold f_X4_strengthBy_50 at h
  refine z_iinc (v := (1 : Int32)) (L' := [(4, .int (x4 + (1 : Int32))), (0, .ref (gB G + a0)), (1, .int x1), (2, .int x2), (3, .int x3)]) 4 C d_X4_strengthBy_50 rfl (by decide) (by decide) rfl ?_
  refine z_goto C d_X4_strengthBy_53 ?_
  exact z_sub [1, 2, 3, 4, 0] rfl (hk5 _ _  h)
set_option maxRecDepth 4000 in
theorem kb_X4_strengthBy_5 {p : Program} {l : Launch} {e : Env} {s : State} {m : MethodId} {args : Array Value} {below : List Frame} {meth : Method} {c : Code} {G : GG} {k5 : Int32 → Int32 → Option Int32} {M : Mm} {a0 : Nat} {x1 : Int32} {x2 : Int32} {x3 : Int32} {x4 : Int32} {r : Int32} (C : CX p s m args c prog_6_method_6_code 6 "SnowSentries$Land" 0 G) (hlk : meth.locks = false) (hr : meth.sig.returnType = (some .int)) (ha0 : kU 0 a0 = 4) (hk5 : ∀ (x3 : Int32) (x4 : Int32), k5 x3 x4 = some r → Z p l e { frames := 1, cells := 0, slots := 0, locals := 22 } s m args below meth c 0 G 6 (MQ below (QC 0 G (some (.int r)) M) args s 0 0 (AU 0 G)) 5 [(0, .ref (gB G + a0)), (1, .int x1), (2, .int x2), (3, .int x3), (4, .int x4)] [] M) : b_X4_strengthBy_5 k5 M a0 x1 x2 x3 x4 = some r → Z p l e { frames := 1, cells := 0, slots := 0, locals := 22 } s m args below meth c 0 G 6 (MQ below (QC 0 G (some (.int r)) M) args s 0 0 (AU 0 G)) 5 [(0, .ref (gB G + a0)), (1, .int x1), (2, .int x2), (3, .int x3), (4, .int x4)] [] M := by
  intro h
  unfold b_X4_strengthBy_5 at h
  refine z_iload 4 C d_X4_strengthBy_5 rfl ?_
  refine z_aload_n 0 C d_X4_strengthBy_7 rfl rfl ?_
  refine z_get (k := 0) (v := .int (M.1 a0 0)) C ((E_4 ha0 G) _ _) (kU_in ha0 (by decide)) rfl inX4 (by decide) wf_X4_38 rfl d_X4_strengthBy_8 ?_
  refine z_icmp_ge C d_X4_strengthBy_11 (fun q1 => ?_) (fun q1 => ?_)
  · have h := o_t q1 h
    refine z_iload_n 3 C d_X4_strengthBy_56 rfl rfl ?_
    obtain rfl := o_some h
    exact z_iret C hlk hr d_X4_strengthBy_57
  · have h := o_f q1 h
    refine z_aload_n 0 C d_X4_strengthBy_14 rfl rfl ?_
    refine z_get (k := 7) (v := .ref (gB G + (a0 + 5))) C ((E_4 ha0 G) _ _) (kU_in ha0 (by decide)) rfl inX4 (by decide) wf_X4_31 rfl d_X4_strengthBy_15 ?_
    refine z_iload_n 1 C d_X4_strengthBy_18 rfl rfl ?_
    refine z_iload 4 C d_X4_strengthBy_19 rfl ?_
    obtain ⟨p3, e2, h⟩ := o_bd h
    refine z_V (S := []) (As := [.int x1, .int x4]) C (c_X7_manOf l G (k_4_7 ha0) e2) ((E_7 (k_4_7 ha0) G) _ _) (kU_in (k_4_7 ha0) (by decide)) rfl wc_X7_manOf wm_X4_59 ws_X7_manOf wl_X7_manOf wi_X7 hy_X7_manOf ⟨Nat.le_of_ble_eq_true rfl, Nat.le_of_ble_eq_true rfl⟩ rfl rfl (Nat.le_of_ble_eq_true rfl) d_X4_strengthBy_21 ?_
    refine z_astore (L' := [(5, .ref (gB G + p3)), (0, .ref (gB G + a0)), (1, .int x1), (2, .int x2), (3, .int x3), (4, .int x4)]) C d_X4_strengthBy_24 (by decide) rfl ?_
    refine z_aload_n 1 C d_X4_strengthBy_26 rfl rfl ?_
    refine z_get (k := 3) (v := .ref (gB G + (a0 + 2))) C ((E_4 ha0 G) _ _) (kU_in ha0 (by decide)) rfl inX4 (by decide) wf_X4_18 rfl d_X4_strengthBy_27 ?_
    refine z_aload 0 C d_X4_strengthBy_30 rfl ?_
    obtain ⟨p5, e4, h⟩ := o_bd h
    refine z_V (S := []) (As := [.ref (gB G + p3)]) C (c_X5_suits l G (k_4_3 ha0) (kr_X7_manOf (k_4_7 ha0) e2) e4) ((E_5 (k_4_3 ha0) G) _ _) (kU_in (k_4_3 ha0) (by decide)) rfl wc_X5_suits wm_X4_63 ws_X5_suits wl_X5_suits wi_X5 hy_X5_suits ⟨Nat.le_of_ble_eq_true rfl, Nat.le_of_ble_eq_true rfl⟩ rfl rfl (Nat.le_of_ble_eq_true rfl) d_X4_strengthBy_32 ?_
    refine z_if_eq C d_X4_strengthBy_35 (fun q6 => ?_) (fun q6 => ?_)
    · have h := o_t q6 h
      exact z_sub [1, 2, 3, 4, 5] rfl (k_X4_strengthBy_50 C hlk hr ha0 hk5 h)
    · have h := o_f q6 h
      refine z_aload 0 C d_X4_strengthBy_38 rfl ?_
      refine z_get (k := 4) (v := .int (M.1 p3 4)) C ((E_6 (kr_X7_manOf (k_4_7 ha0) e2) G) _ _) (kU_in (kr_X7_manOf (k_4_7 ha0) e2) (by decide)) rfl inX6 (by decide) wf_X4_67 rfl d_X4_strengthBy_40 ?_
      refine z_iload_n 3 C d_X4_strengthBy_43 rfl rfl ?_
      refine z_icmp_lt C d_X4_strengthBy_44 (fun q7 => ?_) (fun q7 => ?_)
      · have h := o_t q7 h
        exact z_sub [1, 2, 3, 4, 5] rfl (k_X4_strengthBy_50 C hlk hr ha0 hk5 h)
      · have h := o_f q7 h
        refine z_iinc (v := (1 : Int32)) (L' := [(3, .int (x3 + (1 : Int32))), (5, .ref (gB G + p3)), (0, .ref (gB G + a0)), (1, .int x1), (2, .int x2), (4, .int x4)]) 4 C d_X4_strengthBy_47 rfl (by decide) (by decide) rfl ?_
        exact z_sub [2, 3, 4, 0, 5] rfl (k_X4_strengthBy_50 C hlk hr ha0 hk5 h)
theorem k_X4_strengthBy_5 {p : Program} {l : Launch} {e : Env} {s : State} {m : MethodId} {args : Array Value} {below : List Frame} {meth : Method} {c : Code} {G : GG} {M : Mm} {a0 : Nat} {x1 : Int32} {x2 : Int32} {r : Int32} (C : CX p s m args c prog_6_method_6_code 6 "SnowSentries$Land" 0 G) (hlk : meth.locks = false) (hr : meth.sig.returnType = (some .int)) (ha0 : kU 0 a0 = 4) : ∀ (n : Nat) (x3 : Int32) (x4 : Int32), f_X4_strengthBy_5 M a0 x1 x2 n x3 x4 = some r → Z p l e { frames := 1, cells := 0, slots := 0, locals := 22 } s m args below meth c 0 G 6 (MQ below (QC 0 G (some (.int r)) M) args s 0 0 (AU 0 G)) 5 [(0, .ref (gB G + a0)), (1, .int x1), (2, .int x2), (3, .int x3), (4, .int x4)] [] M := by
  intro n
  induction n with
  | zero =>
    intro x3 x4  h
    exact absurd h (fun z => by cases z)
  | succ n ih =>
    intro x3 x4  h
    exact kb_X4_strengthBy_5 C hlk hr ha0 (fun x3 x4 h => ih x3 x4 h) h
set_option maxRecDepth 4000 in
theorem k_X4_strengthBy_0 {p : Program} {l : Launch} {e : Env} {s : State} {m : MethodId} {args : Array Value} {below : List Frame} {meth : Method} {c : Code} {G : GG} {M : Mm} {a0 : Nat} {x1 : Int32} {x2 : Int32} {r : Int32} (C : CX p s m args c prog_6_method_6_code 6 "SnowSentries$Land" 0 G) (hlk : meth.locks = false) (hr : meth.sig.returnType = (some .int)) (ha0 : kU 0 a0 = 4) : f_X4_strengthBy M a0 x1 x2 = some r → Z p l e { frames := 1, cells := 0, slots := 0, locals := 22 } s m args below meth c 0 G 6 (MQ below (QC 0 G (some (.int r)) M) args s 0 0 (AU 0 G)) 0 [(0, .ref (gB G + a0)), (1, .int x1), (2, .int x2)] [] M := by
  intro h
  unfold f_X4_strengthBy at h
  refine z_iconst (v := (0 : Int32)) C d_X4_strengthBy_0 (by decide) ?_
  refine z_istore_n (L' := [(3, .int (0 : Int32)), (0, .ref (gB G + a0)), (1, .int x1), (2, .int x2)]) C d_X4_strengthBy_1 rfl (by decide) rfl ?_
  refine z_iconst (v := (0 : Int32)) C d_X4_strengthBy_2 (by decide) ?_
  refine z_istore (L' := [(4, .int (0 : Int32)), (3, .int (0 : Int32)), (0, .ref (gB G + a0)), (1, .int x1), (2, .int x2)]) C d_X4_strengthBy_3 (by decide) rfl ?_
  exact z_sub [2, 3, 4, 1, 0] rfl (k_X4_strengthBy_5 C hlk hr ha0 _ _ _ h)
theorem c_X4_strengthBy (l : Launch) (G : GG) {M : Mm} {a0 : Nat} {x1 : Int32} {x2 : Int32} {r : Int32} (ha0 : kU 0 a0 = 4) (h : f_X4_strengthBy M a0 x1 x2 = some r) : CT l 0 G y_X4_strengthBy prog_6_method_6_code 6 (some .int) 1 22 [.ref (gB G + a0), .int x1, .int x2] M (some (.int r)) M :=
  CT.of (by decide +kernel) (Nat.le_of_ble_eq_true rfl) rfl (fun p e s m args below meth c C hlk hr => k_X4_strengthBy_0 C hlk hr ha0 h)
-- SnowSentries$Land.moveLine(LSnowSentries$Scene;I)V
set_option maxRecDepth 4000 in
theorem k_X4_moveLine_58 {p : Program} {l : Launch} {e : Env} {s : State} {m : MethodId} {args : Array Value} {below : List Frame} {meth : Method} {c : Code} {G : GG} {M : Mm} {M2 : Mm} (C : CX p s m args c prog_6_method_8_code 4 "SnowSentries$Land" 0 G) (hlk : meth.locks = false) (hr : meth.sig.returnType = none) : f_X4_moveLine_58 M = some M2 → Z p l e { frames := 2, cells := 0, slots := 0, locals := 47 } s m args below meth c 0 G 4 (MQ below (QC 0 G none M2) args s 0 0 (AU 0 G)) 58 [] [] M := by
  intro h
  unfold f_X4_moveLine_58 at h
  obtain rfl := o_some h
  exact z_vret C hlk hr d_X4_moveLine_58
set_option maxRecDepth 4000 in
theorem k_X4_moveLine_0 {p : Program} {l : Launch} {e : Env} {s : State} {m : MethodId} {args : Array Value} {below : List Frame} {meth : Method} {c : Code} {G : GG} {M : Mm} {a0 : Nat} {a1 : Nat} {x2 : Int32} {M2 : Mm} (C : CX p s m args c prog_6_method_8_code 4 "SnowSentries$Land" 0 G) (hlk : meth.locks = false) (hr : meth.sig.returnType = none) (ha0 : kU 0 a0 = 4) (ha1 : kU 0 a1 = 7) : f_X4_moveLine M a0 a1 x2 = some M2 → Z p l e { frames := 2, cells := 0, slots := 0, locals := 47 } s m args below meth c 0 G 4 (MQ below (QC 0 G none M2) args s 0 0 (AU 0 G)) 0 [(0, .ref (gB G + a0)), (1, .ref (gB G + a1)), (2, .int x2)] [] M := by
  intro h
  unfold f_X4_moveLine at h
  refine z_aload_n 0 C d_X4_moveLine_0 rfl rfl ?_
  refine z_aload_n 1 C d_X4_moveLine_1 rfl rfl ?_
  refine z_iload_n 2 C d_X4_moveLine_2 rfl rfl ?_
  obtain ⟨p2, e1, h⟩ := o_bd h
  refine z_V (S := []) (As := [.ref (gB G + a1), .int x2]) C (c_X4_counting l G ha0 ha1 e1) ((E_4 ha0 G) _ _) (kU_in ha0 (by decide)) rfl wc_X4_counting wm_X4_87 ws_X4_counting wl_X4_counting wi_X4 hy_X4_counting ⟨Nat.le_of_ble_eq_true rfl, Nat.le_of_ble_eq_true rfl⟩ rfl rfl (Nat.le_of_ble_eq_true rfl) d_X4_moveLine_3 ?_
  refine z_istore_n (L' := [(3, .int p2), (0, .ref (gB G + a0)), (1, .ref (gB G + a1)), (2, .int x2)]) C d_X4_moveLine_6 rfl (by decide) rfl ?_
  refine z_iload_n 0 C d_X4_moveLine_7 rfl rfl ?_
  refine z_iconst (v := (1 : Int32)) C d_X4_moveLine_8 (by decide) ?_
  refine z_icmp_ne C d_X4_moveLine_9 (fun q3 => ?_) (fun q3 => ?_)
  · have h := o_f q3 h
    refine z_iload_n 0 C d_X4_moveLine_34 rfl rfl ?_
    refine z_iconst (v := (2 : Int32)) C d_X4_moveLine_35 (by decide) ?_
    refine z_icmp_ne C d_X4_moveLine_36 (fun q4 => ?_) (fun q4 => ?_)
    · have h := o_f q4 h
      exact z_sub [] rfl (k_X4_moveLine_58 C hlk hr h)
    · have h := o_t q4 h
      refine z_aload_n 2 C d_X4_moveLine_39 rfl rfl ?_
      refine z_get (k := 4) (v := .ref (gB G + (a1 + 4))) C ((E_7 ha1 G) _ _) (kU_in ha1 (by decide)) rfl inX7 (by decide) wf_X4_56 rfl d_X4_moveLine_40 ?_
      refine z_iload_n 3 C d_X4_moveLine_43 rfl rfl ?_
      refine z_bipush (v := (-9 : Int32)) C d_X4_moveLine_44 (by decide) ?_
      refine z_aload_n 2 C d_X4_moveLine_46 rfl rfl ?_
      refine z_get (k := 4) (v := .ref (gB G + (a1 + 4))) C ((E_7 ha1 G) _ _) (kU_in ha1 (by decide)) rfl inX7 (by decide) wf_X4_56 rfl d_X4_moveLine_47 ?_
      refine z_iload_n 3 C d_X4_moveLine_50 rfl rfl ?_
      obtain ⟨q5, h⟩ := o_ck h
      refine z_ald ((E_21 (k_7_4 ha1) G) _ _) C (kU_in (k_7_4 ha1) (by decide)) q5 d_X4_moveLine_51 ?_
      refine z_iconst (v := (1 : Int32)) C d_X4_moveLine_52 (by decide) ?_
      refine z_isub C d_X4_moveLine_53 ?_
      refine z_mmax C wm_X4_97 wMs_max wMi wMc_max (Nat.le_of_ble_eq_true rfl) (Nat.le_of_ble_eq_true rfl) d_X4_moveLine_54 ?_
      obtain ⟨M6, e7, h⟩ := o_wr h
      refine z_ast (fun r q => (E_21 (k_7_4 ha1) G) r q) C (kU_in (k_7_4 ha1) (by decide)) q5 d_X4_moveLine_57 ?_
      refine z_nM e7 ?_
      exact z_sub [] rfl (k_X4_moveLine_58 C hlk hr h)
  · have h := o_t q3 h
    refine z_aload_n 2 C d_X4_moveLine_12 rfl rfl ?_
    refine z_get (k := 4) (v := .ref (gB G + (a1 + 4))) C ((E_7 ha1 G) _ _) (kU_in ha1 (by decide)) rfl inX7 (by decide) wf_X4_56 rfl d_X4_moveLine_13 ?_
    refine z_iload_n 3 C d_X4_moveLine_16 rfl rfl ?_
    refine z_bipush (v := (9 : Int32)) C d_X4_moveLine_17 (by decide) ?_
    refine z_aload_n 2 C d_X4_moveLine_19 rfl rfl ?_
    refine z_get (k := 4) (v := .ref (gB G + (a1 + 4))) C ((E_7 ha1 G) _ _) (kU_in ha1 (by decide)) rfl inX7 (by decide) wf_X4_56 rfl d_X4_moveLine_20 ?_
    refine z_iload_n 3 C d_X4_moveLine_23 rfl rfl ?_
    obtain ⟨q8, h⟩ := o_ck h
    refine z_ald ((E_21 (k_7_4 ha1) G) _ _) C (kU_in (k_7_4 ha1) (by decide)) q8 d_X4_moveLine_24 ?_
    refine z_iconst (v := (1 : Int32)) C d_X4_moveLine_25 (by decide) ?_
    refine z_iadd C d_X4_moveLine_26 ?_
    refine z_mmin C wm_X4_91 wMs_min wMi wMc_min (Nat.le_of_ble_eq_true rfl) (Nat.le_of_ble_eq_true rfl) d_X4_moveLine_27 ?_
    obtain ⟨M9, e10, h⟩ := o_wr h
    refine z_ast (fun r q => (E_21 (k_7_4 ha1) G) r q) C (kU_in (k_7_4 ha1) (by decide)) q8 d_X4_moveLine_30 ?_
    refine z_nM e10 ?_
    refine z_goto C d_X4_moveLine_31 ?_
    exact z_sub [] rfl (k_X4_moveLine_58 C hlk hr h)
theorem c_X4_moveLine (l : Launch) (G : GG) {M : Mm} {a0 : Nat} {a1 : Nat} {x2 : Int32} {M2 : Mm} (ha0 : kU 0 a0 = 4) (ha1 : kU 0 a1 = 7) (h : f_X4_moveLine M a0 a1 x2 = some M2) : CT l 0 G y_X4_moveLine prog_6_method_8_code 4 none 2 47 [.ref (gB G + a0), .ref (gB G + a1), .int x2] M none M2 :=
  CT.of (by decide +kernel) (Nat.le_of_ble_eq_true rfl) rfl (fun p e s m args below meth c C hlk hr => k_X4_moveLine_0 C hlk hr ha0 ha1 h)
-- SnowSentries$Land.passTill(LSnowSentries$Scene;I)V
set_option maxRecDepth 4000 in
theorem k_X4_passTill_60 {p : Program} {l : Launch} {e : Env} {s : State} {m : MethodId} {args : Array Value} {below : List Frame} {meth : Method} {c : Code} {G : GG} {k5 : Mm → Int32 → Option Mm} {M : Mm} {a0 : Nat} {a1 : Nat} {x2 : Int32} {x3 : Int32} {M2 : Mm} (C : CX p s m args c prog_6_method_7_code 5 "SnowSentries$Land" 0 G) (hlk : meth.locks = false) (hr : meth.sig.returnType = none) (ha0 : kU 0 a0 = 4) (ha1 : kU 0 a1 = 7) (hk5 : ∀ (M : Mm) (x3 : Int32), k5 M x3 = some M2 → Z p l e { frames := 4, cells := 0, slots := 0, locals := 94 } s m args below meth c 0 G 5 (MQ below (QC 0 G none M2) args s 0 0 (AU 0 G)) 5 [(0, .ref (gB G + a0)), (1, .ref (gB G + a1)), (2, .int x2), (3, .int x3)] [] M) : f_X4_passTill_60 k5 M a0 a1 x2 x3 = some M2 → Z p l e { frames := 4, cells := 0, slots := 0, locals := 94 } s m args below meth c 0 G 5 (MQ below (QC 0 G none M2) args s 0 0 (AU 0 G)) 60 [(0, .ref (gB G + a0)), (1, .ref (gB G + a1)), (2, .int x2), (3, .int x3)] [] M := by
  intro h
  unfold f_X4_passTill_60 at h
  refine z_aload_n 1 C d_X4_passTill_60 rfl rfl ?_
  refine z_iload_n 3 C d_X4_passTill_61 rfl rfl ?_
  refine z_iconst (v := (1 : Int32)) C d_X4_passTill_62 (by decide) ?_
  refine z_iadd C d_X4_passTill_63 ?_
  obtain ⟨M1, e2, h⟩ := o_wr h
  refine z_pI (k := 0) (ty := .int) C (fun r q => (E_7 ha1 G) r q) (fun _ _ => rfl) (kU_in ha1 (by decide)) rfl inX7 tyX7 tyX7_ok nmX7 (by decide) wf_X4_73 rfl (by decide +kernel) rfl rfl (Nat.le_of_ble_eq_true rfl) d_X4_passTill_64 ?_
  refine z_nM e2 ?_
  refine z_iinc (v := (1 : Int32)) (L' := [(3, .int (x3 + (1 : Int32))), (0, .ref (gB G + a0)), (1, .ref (gB G + a1)), (2, .int x2)]) 3 C d_X4_passTill_67 rfl (by decide) (by decide) rfl ?_
  refine z_goto C d_X4_passTill_70 ?_
  exact z_sub [1, 2, 3, 0] rfl (hk5 _ _  h)
set_option maxRecDepth 4000 in
theorem kb_X4_passTill_19 {p : Program} {l : Launch} {e : Env} {s : State} {m : MethodId} {args : Array Value} {below : List Frame} {meth : Method} {c : Code} {G : GG} {k5 : Mm → Int32 → Option Mm} {k19 : Mm → Int32 → Option Mm} {a0 : Nat} {a1 : Nat} {x2 : Int32} {x3 : Int32} {M : Mm} {x4 : Int32} {M2 : Mm} (C : CX p s m args c prog_6_method_7_code 5 "SnowSentries$Land" 0 G) (hlk : meth.locks = false) (hr : meth.sig.returnType = none) (ha0 : kU 0 a0 = 4) (ha1 : kU 0 a1 = 7) (hk5 : ∀ (M : Mm) (x3 : Int32), k5 M x3 = some M2 → Z p l e { frames := 4, cells := 0, slots := 0, locals := 94 } s m args below meth c 0 G 5 (MQ below (QC 0 G none M2) args s 0 0 (AU 0 G)) 5 [(0, .ref (gB G + a0)), (1, .ref (gB G + a1)), (2, .int x2), (3, .int x3)] [] M) (hk19 : ∀ (M : Mm) (x4 : Int32), k19 M x4 = some M2 → Z p l e { frames := 4, cells := 0, slots := 0, locals := 94 } s m args below meth c 0 G 5 (MQ below (QC 0 G none M2) args s 0 0 (AU 0 G)) 19 [(0, .ref (gB G + a0)), (1, .ref (gB G + a1)), (2, .int x2), (3, .int x3), (4, .int x4)] [] M) : b_X4_passTill_19 k5 k19 a0 a1 x2 x3 M x4 = some M2 → Z p l e { frames := 4, cells := 0, slots := 0, locals := 94 } s m args below meth c 0 G 5 (MQ below (QC 0 G none M2) args s 0 0 (AU 0 G)) 19 [(0, .ref (gB G + a0)), (1, .ref (gB G + a1)), (2, .int x2), (3, .int x3), (4, .int x4)] [] M := by
  intro h
  unfold b_X4_passTill_19 at h
  refine z_iload 4 C d_X4_passTill_19 rfl ?_
  refine z_aload_n 0 C d_X4_passTill_21 rfl rfl ?_
  refine z_get (k := 0) (v := .int (M.1 a0 0)) C ((E_4 ha0 G) _ _) (kU_in ha0 (by decide)) rfl inX4 (by decide) wf_X4_38 rfl d_X4_passTill_22 ?_
  refine z_icmp_ge C d_X4_passTill_25 (fun q1 => ?_) (fun q1 => ?_)
  · have h := o_t q1 h
    exact z_sub [0, 1, 2, 3] rfl (k_X4_passTill_60 C hlk hr ha0 ha1 hk5 h)
  · have h := o_f q1 h
    refine z_aload_n 1 C d_X4_passTill_28 rfl rfl ?_
    refine z_iload 4 C d_X4_passTill_29 rfl ?_
    refine z_iload_n 3 C d_X4_passTill_31 rfl rfl ?_
    obtain ⟨p3, e2, h⟩ := o_bd h
    refine z_V (S := []) (As := [.int x4, .int x3]) C (c_X7_meltOn l G ha1 e2) ((E_7 ha1 G) _ _) (kU_in ha1 (by decide)) rfl wc_X7_meltOn wm_X4_76 ws_X7_meltOn wl_X7_meltOn wi_X7 hy_X7_meltOn ⟨Nat.le_of_ble_eq_true rfl, Nat.le_of_ble_eq_true rfl⟩ rfl rfl (Nat.le_of_ble_eq_true rfl) d_X4_passTill_32 ?_
    refine z_aload_n 1 C d_X4_passTill_35 rfl rfl ?_
    refine z_iload 4 C d_X4_passTill_36 rfl ?_
    refine z_aload_n 0 C d_X4_passTill_38 rfl rfl ?_
    refine z_get (k := 2) (v := .ref (gB G + (a0 + 1))) C ((E_4 ha0 G) _ _) (kU_in ha0 (by decide)) rfl inX4 (by decide) wf_X4_9 rfl d_X4_passTill_39 ?_
    refine z_iload_n 3 C d_X4_passTill_42 rfl rfl ?_
    obtain ⟨q4, h⟩ := o_ck h
    refine z_ald ((E_22 (k_4_2 ha0) G) _ _) C (kU_in (k_4_2 ha0) (by decide)) q4 d_X4_passTill_43 ?_
    obtain ⟨p6, e5, h⟩ := o_bd h
    refine z_V (S := []) (As := [.int x4, .int (p3.1 (a0 + 1) x3.toNatClampNeg)]) C (c_X7_freezeOn l G ha1 e5) ((E_7 ha1 G) _ _) (kU_in ha1 (by decide)) rfl wc_X7_freezeOn wm_X4_80 ws_X7_freezeOn wl_X7_freezeOn wi_X7 hy_X7_freezeOn ⟨Nat.le_of_ble_eq_true rfl, Nat.le_of_ble_eq_true rfl⟩ rfl rfl (Nat.le_of_ble_eq_true rfl) d_X4_passTill_44 ?_
    refine z_aload_n 0 C d_X4_passTill_47 rfl rfl ?_
    refine z_aload_n 1 C d_X4_passTill_48 rfl rfl ?_
    refine z_iload 4 C d_X4_passTill_49 rfl ?_
    obtain ⟨p8, e7, h⟩ := o_bd h
    refine z_V (S := []) (As := [.ref (gB G + a1), .int x4]) C (c_X4_moveLine l G ha0 ha1 e7) ((E_4 ha0 G) _ _) (kU_in ha0 (by decide)) rfl wc_X4_moveLine wm_X4_83 ws_X4_moveLine wl_X4_moveLine wi_X4 hy_X4_moveLine ⟨Nat.le_of_ble_eq_true rfl, Nat.le_of_ble_eq_true rfl⟩ rfl rfl (Nat.le_of_ble_eq_true rfl) d_X4_passTill_51 ?_
    refine z_iinc (v := (1 : Int32)) (L' := [(4, .int (x4 + (1 : Int32))), (0, .ref (gB G + a0)), (1, .ref (gB G + a1)), (2, .int x2), (3, .int x3)]) 4 C d_X4_passTill_54 rfl (by decide) (by decide) rfl ?_
    refine z_goto C d_X4_passTill_57 ?_
    exact z_sub [1, 2, 3, 4, 0] rfl (hk19 _ _  h)
theorem k_X4_passTill_19 {p : Program} {l : Launch} {e : Env} {s : State} {m : MethodId} {args : Array Value} {below : List Frame} {meth : Method} {c : Code} {G : GG} {k5 : Mm → Int32 → Option Mm} {a0 : Nat} {a1 : Nat} {x2 : Int32} {x3 : Int32} {M2 : Mm} (C : CX p s m args c prog_6_method_7_code 5 "SnowSentries$Land" 0 G) (hlk : meth.locks = false) (hr : meth.sig.returnType = none) (ha0 : kU 0 a0 = 4) (ha1 : kU 0 a1 = 7) (hk5 : ∀ (M : Mm) (x3 : Int32), k5 M x3 = some M2 → Z p l e { frames := 4, cells := 0, slots := 0, locals := 94 } s m args below meth c 0 G 5 (MQ below (QC 0 G none M2) args s 0 0 (AU 0 G)) 5 [(0, .ref (gB G + a0)), (1, .ref (gB G + a1)), (2, .int x2), (3, .int x3)] [] M) : ∀ (n : Nat) (M : Mm) (x4 : Int32), f_X4_passTill_19 k5 a0 a1 x2 x3 n M x4 = some M2 → Z p l e { frames := 4, cells := 0, slots := 0, locals := 94 } s m args below meth c 0 G 5 (MQ below (QC 0 G none M2) args s 0 0 (AU 0 G)) 19 [(0, .ref (gB G + a0)), (1, .ref (gB G + a1)), (2, .int x2), (3, .int x3), (4, .int x4)] [] M := by
  intro n
  induction n with
  | zero =>
    intro M x4  h
    exact absurd h (fun z => by cases z)
  | succ n ih =>
    intro M x4  h
    exact kb_X4_passTill_19 C hlk hr ha0 ha1 hk5 (fun M x4 h => ih M x4 h) h
set_option maxRecDepth 4000 in
theorem k_X4_passTill_73 {p : Program} {l : Launch} {e : Env} {s : State} {m : MethodId} {args : Array Value} {below : List Frame} {meth : Method} {c : Code} {G : GG} {M : Mm} {M2 : Mm} (C : CX p s m args c prog_6_method_7_code 5 "SnowSentries$Land" 0 G) (hlk : meth.locks = false) (hr : meth.sig.returnType = none) : f_X4_passTill_73 M = some M2 → Z p l e { frames := 4, cells := 0, slots := 0, locals := 94 } s m args below meth c 0 G 5 (MQ below (QC 0 G none M2) args s 0 0 (AU 0 G)) 73 [] [] M := by
  intro h
  unfold f_X4_passTill_73 at h
  obtain rfl := o_some h
  exact z_vret C hlk hr d_X4_passTill_73
set_option maxRecDepth 4000 in
theorem kb_X4_passTill_5 {p : Program} {l : Launch} {e : Env} {s : State} {m : MethodId} {args : Array Value} {below : List Frame} {meth : Method} {c : Code} {G : GG} {k5 : Mm → Int32 → Option Mm} {a0 : Nat} {a1 : Nat} {x2 : Int32} {M : Mm} {x3 : Int32} {M2 : Mm} (C : CX p s m args c prog_6_method_7_code 5 "SnowSentries$Land" 0 G) (hlk : meth.locks = false) (hr : meth.sig.returnType = none) (ha0 : kU 0 a0 = 4) (ha1 : kU 0 a1 = 7) (hk5 : ∀ (M : Mm) (x3 : Int32), k5 M x3 = some M2 → Z p l e { frames := 4, cells := 0, slots := 0, locals := 94 } s m args below meth c 0 G 5 (MQ below (QC 0 G none M2) args s 0 0 (AU 0 G)) 5 [(0, .ref (gB G + a0)), (1, .ref (gB G + a1)), (2, .int x2), (3, .int x3)] [] M) : b_X4_passTill_5 k5 a0 a1 x2 M x3 = some M2 → Z p l e { frames := 4, cells := 0, slots := 0, locals := 94 } s m args below meth c 0 G 5 (MQ below (QC 0 G none M2) args s 0 0 (AU 0 G)) 5 [(0, .ref (gB G + a0)), (1, .ref (gB G + a1)), (2, .int x2), (3, .int x3)] [] M := by
  intro h
  unfold b_X4_passTill_5 at h
  refine z_iload_n 3 C d_X4_passTill_5 rfl rfl ?_
  refine z_iload_n 2 C d_X4_passTill_6 rfl rfl ?_
  refine z_icmp_ge C d_X4_passTill_7 (fun q1 => ?_) (fun q1 => ?_)
  · have h := o_t q1 h
    exact z_sub [] rfl (k_X4_passTill_73 C hlk hr h)
  · have h := o_f q1 h
    refine z_iload_n 3 C d_X4_passTill_10 rfl rfl ?_
    refine z_bipush (v := (12 : Int32)) C d_X4_passTill_11 (by decide) ?_
    refine z_icmp_ge C d_X4_passTill_13 (fun q2 => ?_) (fun q2 => ?_)
    · have h := o_t q2 h
      exact z_sub [] rfl (k_X4_passTill_73 C hlk hr h)
    · have h := o_f q2 h
      refine z_iconst (v := (0 : Int32)) C d_X4_passTill_16 (by decide) ?_
      refine z_istore (L' := [(4, .int (0 : Int32)), (0, .ref (gB G + a0)), (1, .ref (gB G + a1)), (2, .int x2), (3, .int x3)]) C d_X4_passTill_17 (by decide) rfl ?_
      exact z_sub [1, 2, 3, 4, 0] rfl (k_X4_passTill_19 C hlk hr ha0 ha1 hk5 _ _ _ h)
theorem k_X4_passTill_5 {p : Program} {l : Launch} {e : Env} {s : State} {m : MethodId} {args : Array Value} {below : List Frame} {meth : Method} {c : Code} {G : GG} {a0 : Nat} {a1 : Nat} {x2 : Int32} {M2 : Mm} (C : CX p s m args c prog_6_method_7_code 5 "SnowSentries$Land" 0 G) (hlk : meth.locks = false) (hr : meth.sig.returnType = none) (ha0 : kU 0 a0 = 4) (ha1 : kU 0 a1 = 7) : ∀ (n : Nat) (M : Mm) (x3 : Int32), f_X4_passTill_5 a0 a1 x2 n M x3 = some M2 → Z p l e { frames := 4, cells := 0, slots := 0, locals := 94 } s m args below meth c 0 G 5 (MQ below (QC 0 G none M2) args s 0 0 (AU 0 G)) 5 [(0, .ref (gB G + a0)), (1, .ref (gB G + a1)), (2, .int x2), (3, .int x3)] [] M := by
  intro n
  induction n with
  | zero =>
    intro M x3  h
    exact absurd h (fun z => by cases z)
  | succ n ih =>
    intro M x3  h
    exact kb_X4_passTill_5 C hlk hr ha0 ha1 (fun M x3 h => ih M x3 h) h
set_option maxRecDepth 4000 in
theorem k_X4_passTill_0 {p : Program} {l : Launch} {e : Env} {s : State} {m : MethodId} {args : Array Value} {below : List Frame} {meth : Method} {c : Code} {G : GG} {M : Mm} {a0 : Nat} {a1 : Nat} {x2 : Int32} {M2 : Mm} (C : CX p s m args c prog_6_method_7_code 5 "SnowSentries$Land" 0 G) (hlk : meth.locks = false) (hr : meth.sig.returnType = none) (ha0 : kU 0 a0 = 4) (ha1 : kU 0 a1 = 7) : f_X4_passTill M a0 a1 x2 = some M2 → Z p l e { frames := 4, cells := 0, slots := 0, locals := 94 } s m args below meth c 0 G 5 (MQ below (QC 0 G none M2) args s 0 0 (AU 0 G)) 0 [(0, .ref (gB G + a0)), (1, .ref (gB G + a1)), (2, .int x2)] [] M := by
  intro h
  unfold f_X4_passTill at h
  refine z_aload_n 1 C d_X4_passTill_0 rfl rfl ?_
  refine z_get (k := 0) (v := .int (M.1 a1 0)) C ((E_7 ha1 G) _ _) (kU_in ha1 (by decide)) rfl inX7 (by decide) wf_X4_73 rfl d_X4_passTill_1 ?_
  obtain ⟨v1, e2, h⟩ := o_nm h
  refine z_nI e2 ?_
  refine z_istore_n (L' := [(3, .int v1), (0, .ref (gB G + a0)), (1, .ref (gB G + a1)), (2, .int x2)]) C d_X4_passTill_4 rfl (by decide) rfl ?_
  exact z_sub [1, 2, 3, 0] rfl (k_X4_passTill_5 C hlk hr ha0 ha1 _ _ _ h)
theorem c_X4_passTill (l : Launch) (G : GG) {M : Mm} {a0 : Nat} {a1 : Nat} {x2 : Int32} {M2 : Mm} (ha0 : kU 0 a0 = 4) (ha1 : kU 0 a1 = 7) (h : f_X4_passTill M a0 a1 x2 = some M2) : CT l 0 G y_X4_passTill prog_6_method_7_code 5 none 4 94 [.ref (gB G + a0), .ref (gB G + a1), .int x2] M none M2 :=
  CT.of (by decide +kernel) (Nat.le_of_ble_eq_true rfl) rfl (fun p e s m args below meth c C hlk hr => k_X4_passTill_0 C hlk hr ha0 ha1 h)
-- SnowSentries$Land.holders(II)I
set_option maxRecDepth 4000 in
theorem k_X4_holders_32 {p : Program} {l : Launch} {e : Env} {s : State} {m : MethodId} {args : Array Value} {below : List Frame} {meth : Method} {c : Code} {G : GG} {k5 : Int32 → Int32 → Option Int32} {M : Mm} {a0 : Nat} {x1 : Int32} {x2 : Int32} {x3 : Int32} {x4 : Int32} {r : Int32} (C : CX p s m args c prog_6_method_11_code 5 "SnowSentries$Land" 0 G) (hlk : meth.locks = false) (hr : meth.sig.returnType = (some .int)) (ha0 : kU 0 a0 = 4) (hk5 : ∀ (x3 : Int32) (x4 : Int32), k5 x3 x4 = some r → Z p l e { frames := 5, cells := 0, slots := 0, locals := 117 } s m args below meth c 0 G 5 (MQ below (QC 0 G (some (.int r)) M) args s 0 0 (AU 0 G)) 5 [(0, .ref (gB G + a0)), (1, .int x1), (2, .int x2), (3, .int x3), (4, .int x4)] [] M) : f_X4_holders_32 k5 M a0 x1 x2 x3 x4 = some r → Z p l e { frames := 5, cells := 0, slots := 0, locals := 117 } s m args below meth c 0 G 5 (MQ below (QC 0 G (some (.int r)) M) args s 0 0 (AU 0 G)) 32 [(0, .ref (gB G + a0)), (1, .int x1), (2, .int x2), (3, .int x3), (4, .int x4)] [] M := by
  intro h
  unfold f_X4_holders_32 at h
  refine z_iinc (v := (1 : Int32)) (L' := [(4, .int (x4 + (1 : Int32))), (0, .ref (gB G + a0)), (1, .int x1), (2, .int x2), (3, .int x3)]) 4 C d_X4_holders_32 rfl (by decide) (by decide) rfl ?_
  refine z_goto C d_X4_holders_35 ?_
  exact z_sub [1, 2, 3, 4, 0] rfl (hk5 _ _  h)
set_option maxRecDepth 4000 in
theorem kb_X4_holders_5 {p : Program} {l : Launch} {e : Env} {s : State} {m : MethodId} {args : Array Value} {below : List Frame} {meth : Method} {c : Code} {G : GG} {k5 : Int32 → Int32 → Option Int32} {M : Mm} {a0 : Nat} {x1 : Int32} {x2 : Int32} {x3 : Int32} {x4 : Int32} {r : Int32} (C : CX p s m args c prog_6_method_11_code 5 "SnowSentries$Land" 0 G) (hlk : meth.locks = false) (hr : meth.sig.returnType = (some .int)) (ha0 : kU 0 a0 = 4) (hk5 : ∀ (x3 : Int32) (x4 : Int32), k5 x3 x4 = some r → Z p l e { frames := 5, cells := 0, slots := 0, locals := 117 } s m args below meth c 0 G 5 (MQ below (QC 0 G (some (.int r)) M) args s 0 0 (AU 0 G)) 5 [(0, .ref (gB G + a0)), (1, .int x1), (2, .int x2), (3, .int x3), (4, .int x4)] [] M) : b_X4_holders_5 k5 M a0 x1 x2 x3 x4 = some r → Z p l e { frames := 5, cells := 0, slots := 0, locals := 117 } s m args below meth c 0 G 5 (MQ below (QC 0 G (some (.int r)) M) args s 0 0 (AU 0 G)) 5 [(0, .ref (gB G + a0)), (1, .int x1), (2, .int x2), (3, .int x3), (4, .int x4)] [] M := by
  intro h
  unfold b_X4_holders_5 at h
  refine z_iload 4 C d_X4_holders_5 rfl ?_
  refine z_aload_n 0 C d_X4_holders_7 rfl rfl ?_
  refine z_get (k := 0) (v := .int (M.1 a0 0)) C ((E_4 ha0 G) _ _) (kU_in ha0 (by decide)) rfl inX4 (by decide) wf_X4_38 rfl d_X4_holders_8 ?_
  refine z_icmp_ge C d_X4_holders_11 (fun q1 => ?_) (fun q1 => ?_)
  · have h := o_t q1 h
    refine z_iload_n 3 C d_X4_holders_38 rfl rfl ?_
    obtain rfl := o_some h
    exact z_iret C hlk hr d_X4_holders_39
  · have h := o_f q1 h
    refine z_aload_n 0 C d_X4_holders_14 rfl rfl ?_
    refine z_iload_n 1 C d_X4_holders_15 rfl rfl ?_
    refine z_iload 4 C d_X4_holders_16 rfl ?_
    refine z_iload_n 2 C d_X4_holders_18 rfl rfl ?_
    obtain ⟨p3, e2, h⟩ := o_bd h
    refine z_V (S := []) (As := [.int x1, .int x4, .int x2]) C (c_X4_needOf l G ha0 e2) ((E_4 ha0 G) _ _) (kU_in ha0 (by decide)) rfl wc_X4_needOf wm_X4_119 ws_X4_needOf wl_X4_needOf wi_X4 hy_X4_needOf ⟨Nat.le_of_ble_eq_true rfl, Nat.le_of_ble_eq_true rfl⟩ rfl rfl (Nat.le_of_ble_eq_true rfl) d_X4_holders_19 ?_
    refine z_if_ne C d_X4_holders_22 (fun q4 => ?_) (fun q4 => ?_)
    · have h := o_f q4 h
      exact z_sub [0, 1, 2, 3, 4] rfl (k_X4_holders_32 C hlk hr ha0 hk5 h)
    · have h := o_t q4 h
      refine z_iload_n 3 C d_X4_holders_25 rfl rfl ?_
      refine z_iconst (v := (1 : Int32)) C d_X4_holders_26 (by decide) ?_
      refine z_iload 4 C d_X4_holders_27 rfl ?_
      refine z_ishl C d_X4_holders_29 ?_
      refine z_ior C d_X4_holders_30 ?_
      obtain ⟨v5, e6, h⟩ := o_nm h
      refine z_nI e6 ?_
      refine z_istore_n (L' := [(3, .int v5), (0, .ref (gB G + a0)), (1, .int x1), (2, .int x2), (4, .int x4)]) C d_X4_holders_31 rfl (by decide) rfl ?_
      exact z_sub [1, 2, 3, 0, 4] rfl (k_X4_holders_32 C hlk hr ha0 hk5 h)
theorem k_X4_holders_5 {p : Program} {l : Launch} {e : Env} {s : State} {m : MethodId} {args : Array Value} {below : List Frame} {meth : Method} {c : Code} {G : GG} {M : Mm} {a0 : Nat} {x1 : Int32} {x2 : Int32} {r : Int32} (C : CX p s m args c prog_6_method_11_code 5 "SnowSentries$Land" 0 G) (hlk : meth.locks = false) (hr : meth.sig.returnType = (some .int)) (ha0 : kU 0 a0 = 4) : ∀ (n : Nat) (x3 : Int32) (x4 : Int32), f_X4_holders_5 M a0 x1 x2 n x3 x4 = some r → Z p l e { frames := 5, cells := 0, slots := 0, locals := 117 } s m args below meth c 0 G 5 (MQ below (QC 0 G (some (.int r)) M) args s 0 0 (AU 0 G)) 5 [(0, .ref (gB G + a0)), (1, .int x1), (2, .int x2), (3, .int x3), (4, .int x4)] [] M := by
  intro n
  induction n with
  | zero =>
    intro x3 x4  h
    exact absurd h (fun z => by cases z)
  | succ n ih =>
    intro x3 x4  h
    exact kb_X4_holders_5 C hlk hr ha0 (fun x3 x4 h => ih x3 x4 h) h
set_option maxRecDepth 4000 in
theorem k_X4_holders_0 {p : Program} {l : Launch} {e : Env} {s : State} {m : MethodId} {args : Array Value} {below : List Frame} {meth : Method} {c : Code} {G : GG} {M : Mm} {a0 : Nat} {x1 : Int32} {x2 : Int32} {r : Int32} (C : CX p s m args c prog_6_method_11_code 5 "SnowSentries$Land" 0 G) (hlk : meth.locks = false) (hr : meth.sig.returnType = (some .int)) (ha0 : kU 0 a0 = 4) : f_X4_holders M a0 x1 x2 = some r → Z p l e { frames := 5, cells := 0, slots := 0, locals := 117 } s m args below meth c 0 G 5 (MQ below (QC 0 G (some (.int r)) M) args s 0 0 (AU 0 G)) 0 [(0, .ref (gB G + a0)), (1, .int x1), (2, .int x2)] [] M := by
  intro h
  unfold f_X4_holders at h
  refine z_iconst (v := (0 : Int32)) C d_X4_holders_0 (by decide) ?_
  refine z_istore_n (L' := [(3, .int (0 : Int32)), (0, .ref (gB G + a0)), (1, .int x1), (2, .int x2)]) C d_X4_holders_1 rfl (by decide) rfl ?_
  refine z_iconst (v := (0 : Int32)) C d_X4_holders_2 (by decide) ?_
  refine z_istore (L' := [(4, .int (0 : Int32)), (3, .int (0 : Int32)), (0, .ref (gB G + a0)), (1, .int x1), (2, .int x2)]) C d_X4_holders_3 (by decide) rfl ?_
  exact z_sub [2, 3, 4, 1, 0] rfl (k_X4_holders_5 C hlk hr ha0 _ _ _ h)
theorem c_X4_holders (l : Launch) (G : GG) {M : Mm} {a0 : Nat} {x1 : Int32} {x2 : Int32} {r : Int32} (ha0 : kU 0 a0 = 4) (h : f_X4_holders M a0 x1 x2 = some r) : CT l 0 G y_X4_holders prog_6_method_11_code 5 (some .int) 5 117 [.ref (gB G + a0), .int x1, .int x2] M (some (.int r)) M :=
  CT.of (by decide +kernel) (Nat.le_of_ble_eq_true rfl) rfl (fun p e s m args below meth c C hlk hr => k_X4_holders_0 C hlk hr ha0 h)
