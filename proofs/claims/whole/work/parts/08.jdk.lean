def y_J7_fill_53178 : MethodName := ⟨"java/util/Arrays", "fill", "([II)V"⟩
def y_J7_fill_d0a16 : MethodName := ⟨"java/util/Arrays", "fill", "([JJ)V"⟩
def y_J0_coder_7d493 : MethodName := ⟨"java/lang/String", "coder", "()B"⟩
def y_J0_isLatin1_aae02 : MethodName := ⟨"java/lang/String", "isLatin1", "()Z"⟩
def y_J0_length_8abf5 : MethodName := ⟨"java/lang/String", "length", "()I"⟩
def y_J3_checkIndex_8e157 : MethodName := ⟨"jdk/internal/util/Preconditions", "checkIndex", "(IILjava/util/function/BiFunction;)I"⟩
def y_J0_checkIndex_df160 : MethodName := ⟨"java/lang/String", "checkIndex", "(II)V"⟩
def y_J1_charAt_3b067 : MethodName := ⟨"java/lang/StringLatin1", "charAt", "([BI)C"⟩
def y_J0_charAt_5068e : MethodName := ⟨"java/lang/String", "charAt", "(I)C"⟩
theorem wc_J7_fill_53178 : Cond.code y_J7_fill_53178 prog_20_method_103_code 4 none ∈ TB := it_2 (List.mem_of_getElem? (i := 122) rfl) rfl
theorem hy_J7_fill_53178 : (y_J7_fill_53178).cls ≠ "java/lang/invoke/MethodHandle" ∧ (y_J7_fill_53178).cls ≠ "java/lang/invoke/VarHandle" ∧ (parseMethodDescriptor (y_J7_fill_53178).desc).map (fun d => d.parameters.length) = some 2 := by decide +kernel
theorem wi_J7 : Cond.initialized "java/util/Arrays" ∈ TB := it_1 (List.mem_of_getElem? (i := 13) rfl) rfl
theorem ws_J7_fill_53178 : Cond.static y_J7_fill_53178 ∈ TB := it_2 (List.mem_of_getElem? (i := 121) rfl) rfl
theorem wc_J7_fill_d0a16 : Cond.code y_J7_fill_d0a16 prog_20_method_101_code 5 none ∈ TB := it_5 (List.mem_of_getElem? (i := 20) rfl) rfl
theorem hy_J7_fill_d0a16 : (y_J7_fill_d0a16).cls ≠ "java/lang/invoke/MethodHandle" ∧ (y_J7_fill_d0a16).cls ≠ "java/lang/invoke/VarHandle" ∧ (parseMethodDescriptor (y_J7_fill_d0a16).desc).map (fun d => d.parameters.length) = some 2 := by decide +kernel
theorem ws_J7_fill_d0a16 : Cond.static y_J7_fill_d0a16 ∈ TB := it_5 (List.mem_of_getElem? (i := 19) rfl) rfl
theorem wc_J0_coder_7d493 : Cond.code y_J0_coder_7d493 prog_16_method_152_code 1 (some .byte) ∈ TB := it_3 (List.mem_of_getElem? (i := 26) rfl) rfl
theorem hy_J0_coder_7d493 : (y_J0_coder_7d493).cls ≠ "java/lang/invoke/MethodHandle" ∧ (y_J0_coder_7d493).cls ≠ "java/lang/invoke/VarHandle" ∧ (parseMethodDescriptor (y_J0_coder_7d493).desc).map (fun d => d.parameters.length) = some 0 := by decide +kernel
theorem wi_J0 : Cond.initialized "java/lang/String" ∈ TB := it_1 (List.mem_of_getElem? (i := 15) rfl) rfl
theorem ws_J0_coder_7d493 : Cond.instanceMethod y_J0_coder_7d493 ∈ TB := it_3 (List.mem_of_getElem? (i := 24) rfl) rfl
theorem wl_J0_coder_7d493 : Cond.selects "java/lang/String" y_J0_coder_7d493 y_J0_coder_7d493 ∈ TB := it_3 (List.mem_of_getElem? (i := 25) rfl) rfl
theorem wf_J0_38 : Cond.fieldLink "java/lang/String" 38 "java/lang/String" "COMPACT_STRINGS" "Z" ∈ TB := it_3 (List.mem_of_getElem? (i := 27) rfl) rfl
theorem wf_J0_15 : Cond.fieldLink "java/lang/String" 15 "java/lang/String" "coder" "B" ∈ TB := it_7 (List.mem_of_getElem? (i := 84) rfl) rfl
theorem wc_J0_isLatin1_aae02 : Cond.code y_J0_isLatin1_aae02 prog_16_method_154_code 1 (some .boolean) ∈ TB := it_3 (List.mem_of_getElem? (i := 36) rfl) rfl
theorem hy_J0_isLatin1_aae02 : (y_J0_isLatin1_aae02).cls ≠ "java/lang/invoke/MethodHandle" ∧ (y_J0_isLatin1_aae02).cls ≠ "java/lang/invoke/VarHandle" ∧ (parseMethodDescriptor (y_J0_isLatin1_aae02).desc).map (fun d => d.parameters.length) = some 0 := by decide +kernel
theorem ws_J0_isLatin1_aae02 : Cond.instanceMethod y_J0_isLatin1_aae02 ∈ TB := it_3 (List.mem_of_getElem? (i := 34) rfl) rfl
theorem wl_J0_isLatin1_aae02 : Cond.selects "java/lang/String" y_J0_isLatin1_aae02 y_J0_isLatin1_aae02 ∈ TB := it_3 (List.mem_of_getElem? (i := 35) rfl) rfl
theorem wc_J0_length_8abf5 : Cond.code y_J0_length_8abf5 prog_16_method_54_code 1 (some .int) ∈ TB := it_3 (List.mem_of_getElem? (i := 22) rfl) rfl
theorem hy_J0_length_8abf5 : (y_J0_length_8abf5).cls ≠ "java/lang/invoke/MethodHandle" ∧ (y_J0_length_8abf5).cls ≠ "java/lang/invoke/VarHandle" ∧ (parseMethodDescriptor (y_J0_length_8abf5).desc).map (fun d => d.parameters.length) = some 0 := by decide +kernel
theorem ws_J0_length_8abf5 : Cond.instanceMethod y_J0_length_8abf5 ∈ TB := it_3 (List.mem_of_getElem? (i := 20) rfl) rfl
theorem wl_J0_length_8abf5 : Cond.selects "java/lang/String" y_J0_length_8abf5 y_J0_length_8abf5 ∈ TB := it_3 (List.mem_of_getElem? (i := 21) rfl) rfl
theorem wf_J0_9 : Cond.fieldLink "java/lang/String" 9 "java/lang/String" "value" "[B" ∈ TB := it_7 (List.mem_of_getElem? (i := 83) rfl) rfl
theorem wm_J0_335 : Cond.methodLink "java/lang/String" 335 y_J0_coder_7d493 ∈ TB := it_3 (List.mem_of_getElem? (i := 23) rfl) rfl
theorem wc_J3_checkIndex_8e157 : Cond.code y_J3_checkIndex_8e157 prog_21_method_11_code 3 (some .int) ∈ TB := it_3 (List.mem_of_getElem? (i := 47) rfl) rfl
theorem hy_J3_checkIndex_8e157 : (y_J3_checkIndex_8e157).cls ≠ "java/lang/invoke/MethodHandle" ∧ (y_J3_checkIndex_8e157).cls ≠ "java/lang/invoke/VarHandle" ∧ (parseMethodDescriptor (y_J3_checkIndex_8e157).desc).map (fun d => d.parameters.length) = some 3 := by decide +kernel
theorem wi_J3 : Cond.initialized "jdk/internal/util/Preconditions" ∈ TB := it_1 (List.mem_of_getElem? (i := 17) rfl) rfl
theorem ws_J3_checkIndex_8e157 : Cond.static y_J3_checkIndex_8e157 ∈ TB := it_3 (List.mem_of_getElem? (i := 46) rfl) rfl
theorem wc_J0_checkIndex_df160 : Cond.code y_J0_checkIndex_df160 prog_16_method_155_code 2 none ∈ TB := it_3 (List.mem_of_getElem? (i := 42) rfl) rfl
theorem hy_J0_checkIndex_df160 : (y_J0_checkIndex_df160).cls ≠ "java/lang/invoke/MethodHandle" ∧ (y_J0_checkIndex_df160).cls ≠ "java/lang/invoke/VarHandle" ∧ (parseMethodDescriptor (y_J0_checkIndex_df160).desc).map (fun d => d.parameters.length) = some 2 := by decide +kernel
theorem ws_J0_checkIndex_df160 : Cond.static y_J0_checkIndex_df160 ∈ TB := it_3 (List.mem_of_getElem? (i := 41) rfl) rfl
theorem wf_J0_1053 : Cond.fieldLink "java/lang/String" 1053 "jdk/internal/util/Preconditions" "SIOOBE_FORMATTER" "Ljava/util/function/BiFunction;" ∈ TB := it_3 (List.mem_of_getElem? (i := 43) rfl) rfl
theorem wm_J0_1059 : Cond.methodLink "java/lang/String" 1059 y_J3_checkIndex_8e157 ∈ TB := it_3 (List.mem_of_getElem? (i := 45) rfl) rfl
theorem wc_J1_charAt_3b067 : Cond.code y_J1_charAt_3b067 prog_17_method_2_code 2 (some .char) ∈ TB := it_3 (List.mem_of_getElem? (i := 39) rfl) rfl
theorem hy_J1_charAt_3b067 : (y_J1_charAt_3b067).cls ≠ "java/lang/invoke/MethodHandle" ∧ (y_J1_charAt_3b067).cls ≠ "java/lang/invoke/VarHandle" ∧ (parseMethodDescriptor (y_J1_charAt_3b067).desc).map (fun d => d.parameters.length) = some 2 := by decide +kernel
theorem wi_J1 : Cond.initialized "java/lang/StringLatin1" ∈ TB := it_1 (List.mem_of_getElem? (i := 16) rfl) rfl
theorem ws_J1_charAt_3b067 : Cond.static y_J1_charAt_3b067 ∈ TB := it_3 (List.mem_of_getElem? (i := 38) rfl) rfl
theorem wm_J1_9 : Cond.methodLink "java/lang/StringLatin1" 9 y_J0_checkIndex_df160 ∈ TB := it_3 (List.mem_of_getElem? (i := 40) rfl) rfl
theorem wc_J0_charAt_5068e : Cond.code y_J0_charAt_5068e prog_16_method_56_code 2 (some .char) ∈ TB := it_3 (List.mem_of_getElem? (i := 32) rfl) rfl
theorem hy_J0_charAt_5068e : (y_J0_charAt_5068e).cls ≠ "java/lang/invoke/MethodHandle" ∧ (y_J0_charAt_5068e).cls ≠ "java/lang/invoke/VarHandle" ∧ (parseMethodDescriptor (y_J0_charAt_5068e).desc).map (fun d => d.parameters.length) = some 1 := by decide +kernel
theorem ws_J0_charAt_5068e : Cond.instanceMethod y_J0_charAt_5068e ∈ TB := it_3 (List.mem_of_getElem? (i := 30) rfl) rfl
theorem wl_J0_charAt_5068e : Cond.selects "java/lang/String" y_J0_charAt_5068e y_J0_charAt_5068e ∈ TB := it_3 (List.mem_of_getElem? (i := 31) rfl) rfl
theorem wm_J0_492 : Cond.methodLink "java/lang/String" 492 y_J0_isLatin1_aae02 ∈ TB := it_3 (List.mem_of_getElem? (i := 33) rfl) rfl
theorem wm_J0_495 : Cond.methodLink "java/lang/String" 495 y_J1_charAt_3b067 ∈ TB := it_3 (List.mem_of_getElem? (i := 37) rfl) rfl
theorem d_J7_fill_53178_0 : DD prog_20_method_103_code 0 (.iconst 0) 1 1 := ⟨by decide +kernel, rfl⟩
theorem d_J7_fill_53178_1 : DD prog_20_method_103_code 1 (.istore_n 2) 1 2 := ⟨by decide +kernel, rfl⟩
theorem d_J7_fill_53178_2 : DD prog_20_method_103_code 2 (.aload_n 0) 1 3 := ⟨by decide +kernel, rfl⟩
theorem d_J7_fill_53178_3 : DD prog_20_method_103_code 3 (.arraylength) 1 4 := ⟨by decide +kernel, rfl⟩
theorem d_J7_fill_53178_4 : DD prog_20_method_103_code 4 (.istore_n 3) 1 5 := ⟨by decide +kernel, rfl⟩
theorem d_J7_fill_53178_5 : DD prog_20_method_103_code 5 (.iload_n 2) 1 6 := ⟨by decide +kernel, rfl⟩
theorem d_J7_fill_53178_6 : DD prog_20_method_103_code 6 (.iload_n 3) 1 7 := ⟨by decide +kernel, rfl⟩
theorem d_J7_fill_53178_7 : DJ prog_20_method_103_code 7 (fun o => .if_icmp .ge o) 20 3 10 := ⟨by decide +kernel, rfl⟩
theorem d_J7_fill_53178_10 : DD prog_20_method_103_code 10 (.aload_n 0) 1 11 := ⟨by decide +kernel, rfl⟩
theorem d_J7_fill_53178_11 : DD prog_20_method_103_code 11 (.iload_n 2) 1 12 := ⟨by decide +kernel, rfl⟩
theorem d_J7_fill_53178_12 : DD prog_20_method_103_code 12 (.iload_n 1) 1 13 := ⟨by decide +kernel, rfl⟩
theorem d_J7_fill_53178_13 : DD prog_20_method_103_code 13 (.iastore) 1 14 := ⟨by decide +kernel, rfl⟩
theorem d_J7_fill_53178_14 : DD prog_20_method_103_code 14 (.iinc 2 1) 3 17 := ⟨by decide +kernel, rfl⟩
theorem d_J7_fill_53178_17 : DJ prog_20_method_103_code 17 (fun o => .goto o) 5 3 20 := ⟨by decide +kernel, rfl⟩
theorem d_J7_fill_53178_20 : DD prog_20_method_103_code 20 (.return_) 1 21 := ⟨by decide +kernel, rfl⟩
theorem d_J7_fill_d0a16_0 : DD prog_20_method_101_code 0 (.iconst 0) 1 1 := ⟨by decide +kernel, rfl⟩
theorem d_J7_fill_d0a16_1 : DD prog_20_method_101_code 1 (.istore_n 3) 1 2 := ⟨by decide +kernel, rfl⟩
theorem d_J7_fill_d0a16_2 : DD prog_20_method_101_code 2 (.aload_n 0) 1 3 := ⟨by decide +kernel, rfl⟩
theorem d_J7_fill_d0a16_3 : DD prog_20_method_101_code 3 (.arraylength) 1 4 := ⟨by decide +kernel, rfl⟩
theorem d_J7_fill_d0a16_4 : DD prog_20_method_101_code 4 (.istore 4) 2 6 := ⟨by decide +kernel, rfl⟩
theorem d_J7_fill_d0a16_6 : DD prog_20_method_101_code 6 (.iload_n 3) 1 7 := ⟨by decide +kernel, rfl⟩
theorem d_J7_fill_d0a16_7 : DD prog_20_method_101_code 7 (.iload 4) 2 9 := ⟨by decide +kernel, rfl⟩
theorem d_J7_fill_d0a16_9 : DJ prog_20_method_101_code 9 (fun o => .if_icmp .ge o) 22 3 12 := ⟨by decide +kernel, rfl⟩
theorem d_J7_fill_d0a16_12 : DD prog_20_method_101_code 12 (.aload_n 0) 1 13 := ⟨by decide +kernel, rfl⟩
theorem d_J7_fill_d0a16_13 : DD prog_20_method_101_code 13 (.iload_n 3) 1 14 := ⟨by decide +kernel, rfl⟩
theorem d_J7_fill_d0a16_14 : DD prog_20_method_101_code 14 (.lload_n 1) 1 15 := ⟨by decide +kernel, rfl⟩
theorem d_J7_fill_d0a16_15 : DD prog_20_method_101_code 15 (.lastore) 1 16 := ⟨by decide +kernel, rfl⟩
theorem d_J7_fill_d0a16_16 : DD prog_20_method_101_code 16 (.iinc 3 1) 3 19 := ⟨by decide +kernel, rfl⟩
theorem d_J7_fill_d0a16_19 : DJ prog_20_method_101_code 19 (fun o => .goto o) 6 3 22 := ⟨by decide +kernel, rfl⟩
theorem d_J7_fill_d0a16_22 : DD prog_20_method_101_code 22 (.return_) 1 23 := ⟨by decide +kernel, rfl⟩
theorem d_J0_coder_7d493_0 : DD prog_16_method_152_code 0 (.getstatic 38) 3 3 := ⟨by decide +kernel, rfl⟩
theorem d_J0_coder_7d493_3 : DJ prog_16_method_152_code 3 (fun o => .ifCond .eq o) 13 3 6 := ⟨by decide +kernel, rfl⟩
theorem d_J0_coder_7d493_6 : DD prog_16_method_152_code 6 (.aload_n 0) 1 7 := ⟨by decide +kernel, rfl⟩
theorem d_J0_coder_7d493_7 : DD prog_16_method_152_code 7 (.getfield 15) 3 10 := ⟨by decide +kernel, rfl⟩
theorem d_J0_coder_7d493_10 : DJ prog_16_method_152_code 10 (fun o => .goto o) 14 3 13 := ⟨by decide +kernel, rfl⟩
theorem d_J0_coder_7d493_13 : DD prog_16_method_152_code 13 (.iconst 1) 1 14 := ⟨by decide +kernel, rfl⟩
theorem d_J0_coder_7d493_14 : DD prog_16_method_152_code 14 (.ireturn) 1 15 := ⟨by decide +kernel, rfl⟩
theorem d_J0_isLatin1_aae02_0 : DD prog_16_method_154_code 0 (.getstatic 38) 3 3 := ⟨by decide +kernel, rfl⟩
theorem d_J0_isLatin1_aae02_3 : DJ prog_16_method_154_code 3 (fun o => .ifCond .eq o) 17 3 6 := ⟨by decide +kernel, rfl⟩
theorem d_J0_isLatin1_aae02_6 : DD prog_16_method_154_code 6 (.aload_n 0) 1 7 := ⟨by decide +kernel, rfl⟩
theorem d_J0_isLatin1_aae02_7 : DD prog_16_method_154_code 7 (.getfield 15) 3 10 := ⟨by decide +kernel, rfl⟩
theorem d_J0_isLatin1_aae02_10 : DJ prog_16_method_154_code 10 (fun o => .ifCond .ne o) 17 3 13 := ⟨by decide +kernel, rfl⟩
theorem d_J0_isLatin1_aae02_13 : DD prog_16_method_154_code 13 (.iconst 1) 1 14 := ⟨by decide +kernel, rfl⟩
theorem d_J0_isLatin1_aae02_14 : DJ prog_16_method_154_code 14 (fun o => .goto o) 18 3 17 := ⟨by decide +kernel, rfl⟩
theorem d_J0_isLatin1_aae02_17 : DD prog_16_method_154_code 17 (.iconst 0) 1 18 := ⟨by decide +kernel, rfl⟩
theorem d_J0_isLatin1_aae02_18 : DD prog_16_method_154_code 18 (.ireturn) 1 19 := ⟨by decide +kernel, rfl⟩
theorem d_J0_length_8abf5_0 : DD prog_16_method_54_code 0 (.aload_n 0) 1 1 := ⟨by decide +kernel, rfl⟩
theorem d_J0_length_8abf5_1 : DD prog_16_method_54_code 1 (.getfield 9) 3 4 := ⟨by decide +kernel, rfl⟩
theorem d_J0_length_8abf5_4 : DD prog_16_method_54_code 4 (.arraylength) 1 5 := ⟨by decide +kernel, rfl⟩
theorem d_J0_length_8abf5_5 : DD prog_16_method_54_code 5 (.aload_n 0) 1 6 := ⟨by decide +kernel, rfl⟩
theorem d_J0_length_8abf5_6 : DD prog_16_method_54_code 6 (.invokevirtual 335) 3 9 := ⟨by decide +kernel, rfl⟩
theorem d_J0_length_8abf5_9 : DD prog_16_method_54_code 9 (.ishr) 1 10 := ⟨by decide +kernel, rfl⟩
theorem d_J0_length_8abf5_10 : DD prog_16_method_54_code 10 (.ireturn) 1 11 := ⟨by decide +kernel, rfl⟩
theorem d_J3_checkIndex_8e157_0 : DD prog_21_method_11_code 0 (.iload_n 0) 1 1 := ⟨by decide +kernel, rfl⟩
theorem d_J3_checkIndex_8e157_1 : DJ prog_21_method_11_code 1 (fun o => .ifCond .lt o) 9 3 4 := ⟨by decide +kernel, rfl⟩
theorem d_J3_checkIndex_8e157_4 : DD prog_21_method_11_code 4 (.iload_n 0) 1 5 := ⟨by decide +kernel, rfl⟩
theorem d_J3_checkIndex_8e157_5 : DD prog_21_method_11_code 5 (.iload_n 1) 1 6 := ⟨by decide +kernel, rfl⟩
theorem d_J3_checkIndex_8e157_6 : DJ prog_21_method_11_code 6 (fun o => .if_icmp .lt o) 16 3 9 := ⟨by decide +kernel, rfl⟩
theorem d_J3_checkIndex_8e157_9 : DD prog_21_method_11_code 9 (.aload_n 2) 1 10 := ⟨by decide +kernel, rfl⟩
theorem d_J3_checkIndex_8e157_10 : DD prog_21_method_11_code 10 (.iload_n 0) 1 11 := ⟨by decide +kernel, rfl⟩
theorem d_J3_checkIndex_8e157_11 : DD prog_21_method_11_code 11 (.iload_n 1) 1 12 := ⟨by decide +kernel, rfl⟩
theorem d_J3_checkIndex_8e157_12 : DD prog_21_method_11_code 12 (.invokestatic 95) 3 15 := ⟨by decide +kernel, rfl⟩
theorem d_J3_checkIndex_8e157_15 : DD prog_21_method_11_code 15 (.athrow) 1 16 := ⟨by decide +kernel, rfl⟩
theorem d_J3_checkIndex_8e157_16 : DD prog_21_method_11_code 16 (.iload_n 0) 1 17 := ⟨by decide +kernel, rfl⟩
theorem d_J3_checkIndex_8e157_17 : DD prog_21_method_11_code 17 (.ireturn) 1 18 := ⟨by decide +kernel, rfl⟩
theorem d_J0_checkIndex_df160_0 : DD prog_16_method_155_code 0 (.iload_n 0) 1 1 := ⟨by decide +kernel, rfl⟩
theorem d_J0_checkIndex_df160_1 : DD prog_16_method_155_code 1 (.iload_n 1) 1 2 := ⟨by decide +kernel, rfl⟩
theorem d_J0_checkIndex_df160_2 : DD prog_16_method_155_code 2 (.getstatic 1053) 3 5 := ⟨by decide +kernel, rfl⟩
theorem d_J0_checkIndex_df160_5 : DD prog_16_method_155_code 5 (.invokestatic 1059) 3 8 := ⟨by decide +kernel, rfl⟩
theorem d_J0_checkIndex_df160_8 : DD prog_16_method_155_code 8 (.pop) 1 9 := ⟨by decide +kernel, rfl⟩
theorem d_J0_checkIndex_df160_9 : DD prog_16_method_155_code 9 (.return_) 1 10 := ⟨by decide +kernel, rfl⟩
theorem d_J1_charAt_3b067_0 : DD prog_17_method_2_code 0 (.iload_n 1) 1 1 := ⟨by decide +kernel, rfl⟩
theorem d_J1_charAt_3b067_1 : DD prog_17_method_2_code 1 (.aload_n 0) 1 2 := ⟨by decide +kernel, rfl⟩
theorem d_J1_charAt_3b067_2 : DD prog_17_method_2_code 2 (.arraylength) 1 3 := ⟨by decide +kernel, rfl⟩
theorem d_J1_charAt_3b067_3 : DD prog_17_method_2_code 3 (.invokestatic 9) 3 6 := ⟨by decide +kernel, rfl⟩
theorem d_J1_charAt_3b067_6 : DD prog_17_method_2_code 6 (.aload_n 0) 1 7 := ⟨by decide +kernel, rfl⟩
theorem d_J1_charAt_3b067_7 : DD prog_17_method_2_code 7 (.iload_n 1) 1 8 := ⟨by decide +kernel, rfl⟩
theorem d_J1_charAt_3b067_8 : DD prog_17_method_2_code 8 (.baload) 1 9 := ⟨by decide +kernel, rfl⟩
theorem d_J1_charAt_3b067_9 : DD prog_17_method_2_code 9 (.sipush 255) 3 12 := ⟨by decide +kernel, rfl⟩
theorem d_J1_charAt_3b067_12 : DD prog_17_method_2_code 12 (.iand) 1 13 := ⟨by decide +kernel, rfl⟩
theorem d_J1_charAt_3b067_13 : DD prog_17_method_2_code 13 (.i2c) 1 14 := ⟨by decide +kernel, rfl⟩
theorem d_J1_charAt_3b067_14 : DD prog_17_method_2_code 14 (.ireturn) 1 15 := ⟨by decide +kernel, rfl⟩
theorem d_J0_charAt_5068e_0 : DD prog_16_method_56_code 0 (.aload_n 0) 1 1 := ⟨by decide +kernel, rfl⟩
theorem d_J0_charAt_5068e_1 : DD prog_16_method_56_code 1 (.invokevirtual 492) 3 4 := ⟨by decide +kernel, rfl⟩
theorem d_J0_charAt_5068e_4 : DJ prog_16_method_56_code 4 (fun o => .ifCond .eq o) 16 3 7 := ⟨by decide +kernel, rfl⟩
theorem d_J0_charAt_5068e_7 : DD prog_16_method_56_code 7 (.aload_n 0) 1 8 := ⟨by decide +kernel, rfl⟩
theorem d_J0_charAt_5068e_8 : DD prog_16_method_56_code 8 (.getfield 9) 3 11 := ⟨by decide +kernel, rfl⟩
theorem d_J0_charAt_5068e_11 : DD prog_16_method_56_code 11 (.iload_n 1) 1 12 := ⟨by decide +kernel, rfl⟩
theorem d_J0_charAt_5068e_12 : DD prog_16_method_56_code 12 (.invokestatic 495) 3 15 := ⟨by decide +kernel, rfl⟩
theorem d_J0_charAt_5068e_15 : DD prog_16_method_56_code 15 (.ireturn) 1 16 := ⟨by decide +kernel, rfl⟩
theorem d_J0_charAt_5068e_16 : DD prog_16_method_56_code 16 (.aload_n 0) 1 17 := ⟨by decide +kernel, rfl⟩
theorem d_J0_charAt_5068e_17 : DD prog_16_method_56_code 17 (.getfield 9) 3 20 := ⟨by decide +kernel, rfl⟩
theorem d_J0_charAt_5068e_20 : DD prog_16_method_56_code 20 (.iload_n 1) 1 21 := ⟨by decide +kernel, rfl⟩
theorem d_J0_charAt_5068e_21 : DD prog_16_method_56_code 21 (.invokestatic 498) 3 24 := ⟨by decide +kernel, rfl⟩
theorem d_J0_charAt_5068e_24 : DD prog_16_method_56_code 24 (.ireturn) 1 25 := ⟨by decide +kernel, rfl⟩
-- java.util.Arrays.fill
section JF
variable {p : Program} {l : Launch} {e : Env} {R : Room} {s : State} {m : MethodId} {args : Array Value} {below : List Frame} {meth : Method} {c : Code} {u : Nat} {G : GG} {nL : Nat} {Q : State → Prop} {pc pc' : Nat} {L L' : List (Nat × Value)} {S : List Value} {M M2 : Mm} {cc : ByteArray} {own : String} {a : Nat} {idx : Nat}
theorem fillI_0 (M : Mm) (a : Nat) (v : Int32) : fillI M a 0 v = M := by
  unfold fillI wR
  refine Prod.ext (funext fun b => ?_) rfl
  by_cases h : b = a
  · subst h
    simp
  · simp [h]
theorem fillI_s (M : Mm) (a i : Nat) (v : Int32) : wI (fillI M a i v) a i v = fillI M a (i + 1) v := by
  unfold fillI wR wI
  refine Prod.ext (funext fun b => ?_) rfl
  by_cases h : b = a
  · subst h
    funext j
    by_cases h1 : j = i
    · subst h1
      simp [upd]
    · by_cases h2 : j < i
      · simp [upd, h1, h2, Nat.lt_succ_of_lt h2]
      · simp [upd, h1, h2, show ¬ j < i + 1 by omega]
  · simp [h]
theorem fillJ_0 (M : Mm) (a : Nat) (v : Int64) : fillJ M a 0 v = M := by
  unfold fillJ wS
  refine Prod.ext rfl (funext fun b => ?_)
  by_cases h : b = a
  · subst h
    simp
  · simp [h]
theorem fillJ_s (M : Mm) (a i : Nat) (v : Int64) : wJ (fillJ M a i v) a i v = fillJ M a (i + 1) v := by
  unfold fillJ wS wJ
  refine Prod.ext rfl (funext fun b => ?_)
  by_cases h : b = a
  · subst h
    funext j
    by_cases h1 : j = i
    · subst h1
      simp [vp_updL]
    · by_cases h2 : j < i
      · simp [vp_updL, h1, h2, Nat.lt_succ_of_lt h2]
      · simp [vp_updL, h1, h2, show ¬ j < i + 1 by omega]
  · simp [h]
theorem fill_loop {n : Nat} {v : Int32} (C : CX p s m args c prog_20_method_103_code 4 "java/util/Arrays" u G) (hlk : meth.locks = false) (hr : meth.sig.returnType = none) (hE : ∀ r q, EV u G a r q = .inl (gC G 0, n, .inl r)) (ha : inW u a) (hn : n < 2 ^ 31) : ∀ k i, i + k = n →
    Z p l e { frames := 0, cells := 0, slots := 0, locals := 0 } s m args below meth c u G 4 (MQ below (QC u G none (fillI M a n v)) args s 0 0 (AU u G)) 5 [(0, .ref (gB G + a)), (1, .int v), (2, .int (nI i)), (3, .int (nI n))] [] (fillI M a i v) := by
  intro k
  induction k with
  | zero =>
    intro i hi
    have hi : i = n := by omega
    subst hi
    refine z_iload_n 2 C d_J7_fill_53178_5 rfl rfl ?_
    refine z_iload_n 3 C d_J7_fill_53178_6 rfl rfl ?_
    refine z_icmp_ge C d_J7_fill_53178_7 (fun _ => ?_) (fun q => ?_)
    · exact z_vret C hlk hr d_J7_fill_53178_20
    · exact absurd (nI_le (Nat.le_refl i) hn) q
  | succ k ih =>
    intro i hi
    refine z_iload_n 2 C d_J7_fill_53178_5 rfl rfl ?_
    refine z_iload_n 3 C d_J7_fill_53178_6 rfl rfl ?_
    refine z_icmp_ge C d_J7_fill_53178_7 (fun q => ?_) (fun _ => ?_)
    · exact absurd q (nI_ge (by omega) hn)
    · refine z_aload_n 0 C d_J7_fill_53178_10 rfl rfl ?_
      refine z_iload_n 2 C d_J7_fill_53178_11 rfl rfl ?_
      refine z_iload_n 1 C d_J7_fill_53178_12 rfl rfl ?_
      refine z_ast hE C ha (nI_in (by omega) hn) d_J7_fill_53178_13 ?_
      rw [nI_clamp (by omega), fillI_s]
      refine z_iinc (v := 1) (L' := [(2, .int (nI i + 1)), (0, .ref (gB G + a)), (1, .int v), (3, .int (nI n))]) 2 C d_J7_fill_53178_14 rfl (by decide) (by decide) rfl ?_
      refine z_goto C d_J7_fill_53178_17 ?_
      rw [nI_1]
      exact z_sub [1, 2, 0, 3] rfl (ih (i + 1) (by omega))
theorem c_J7_fill_53178 (l : Launch) {u : Nat} (G : GG) {M : Mm} {a n : Nat} {v : Int32} (hE : ∀ r q, EV u G a r q = .inl (gC G 0, n, .inl r)) (ha : inW u a) (hn : n < 2 ^ 31) : CT l u G y_J7_fill_53178 prog_20_method_103_code 4 none 0 0 [.ref (gB G + a), .int v] M none (fillI M a n v) := by
  refine CT.of (by decide +kernel) (Nat.le_of_ble_eq_true rfl) rfl (fun p e s m args below meth c C hlk hr => ?_)
  refine z_iconst (v := 0) C d_J7_fill_53178_0 (by decide) ?_
  refine z_istore_n (L' := [(2, .int 0), (0, .ref (gB G + a)), (1, .int v)]) C d_J7_fill_53178_1 rfl (by decide) rfl ?_
  refine z_aload_n 1 C d_J7_fill_53178_2 rfl rfl ?_
  refine z_len (v := nI n) (t := 0) (hE _ _) C ha rfl rfl d_J7_fill_53178_3 ?_
  refine z_istore_n (L' := [(3, .int (nI n)), (2, .int 0), (0, .ref (gB G + a)), (1, .int v)]) C d_J7_fill_53178_4 rfl (by decide) rfl ?_
  have h := fill_loop (l := l) (e := e) (below := below) (M := M) (v := v) C hlk hr hE ha hn n 0 (by omega)
  rw [fillI_0] at h
  exact z_sub [2, 3, 1, 0] rfl h
theorem fillJ_loop {n : Nat} {v : Int64} (C : CX p s m args c prog_20_method_101_code 5 "java/util/Arrays" u G) (hlk : meth.locks = false) (hr : meth.sig.returnType = none) (hE : ∀ r q, EV u G a r q = .inl (gC G 3, n, .inr (.inl q))) (ha : inW u a) (hn : n < 2 ^ 31) : ∀ k i, i + k = n →
    Z p l e { frames := 0, cells := 0, slots := 0, locals := 0 } s m args below meth c u G 5 (MQ below (QC u G none (fillJ M a n v)) args s 0 0 (AU u G)) 6 [(0, .ref (gB G + a)), (1, .long v), (3, .int (nI i)), (4, .int (nI n))] [] (fillJ M a i v) := by
  intro k
  induction k with
  | zero =>
    intro i hi
    have hi : i = n := by omega
    subst hi
    refine z_iload_n 2 C d_J7_fill_d0a16_6 rfl rfl ?_
    refine z_iload 3 C d_J7_fill_d0a16_7 rfl ?_
    refine z_icmp_ge C d_J7_fill_d0a16_9 (fun _ => ?_) (fun q => ?_)
    · exact z_vret C hlk hr d_J7_fill_d0a16_22
    · exact absurd (nI_le (Nat.le_refl i) hn) q
  | succ k ih =>
    intro i hi
    refine z_iload_n 2 C d_J7_fill_d0a16_6 rfl rfl ?_
    refine z_iload 3 C d_J7_fill_d0a16_7 rfl ?_
    refine z_icmp_ge C d_J7_fill_d0a16_9 (fun q => ?_) (fun _ => ?_)
    · exact absurd q (nI_ge (by omega) hn)
    · refine z_aload_n 0 C d_J7_fill_d0a16_12 rfl rfl ?_
      refine z_iload_n 2 C d_J7_fill_d0a16_13 rfl rfl ?_
      refine z_lload_n 1 C d_J7_fill_d0a16_14 rfl rfl ?_
      refine z_lst hE C ha (nI_in (by omega) hn) d_J7_fill_d0a16_15 ?_
      rw [nI_clamp (by omega), fillJ_s]
      refine z_iinc (v := 1) (L' := [(3, .int (nI i + 1)), (0, .ref (gB G + a)), (1, .long v), (4, .int (nI n))]) 2 C d_J7_fill_d0a16_16 rfl (by decide) (by decide) rfl ?_
      refine z_goto C d_J7_fill_d0a16_19 ?_
      rw [nI_1]
      exact z_sub [1, 2, 0, 3] rfl (ih (i + 1) (by omega))
theorem c_J7_fill_d0a16 (l : Launch) {u : Nat} (G : GG) {M : Mm} {a n : Nat} {v : Int64} (hE : ∀ r q, EV u G a r q = .inl (gC G 3, n, .inr (.inl q))) (ha : inW u a) (hn : n < 2 ^ 31) : CT l u G y_J7_fill_d0a16 prog_20_method_101_code 5 none 0 0 [.ref (gB G + a), .long v] M none (fillJ M a n v) := by
  refine CT.of (by decide +kernel) (Nat.le_of_ble_eq_true rfl) rfl (fun p e s m args below meth c C hlk hr => ?_)
  refine z_iconst (v := 0) C d_J7_fill_d0a16_0 (by decide) ?_
  refine z_istore_n (L' := [(3, .int 0), (0, .ref (gB G + a)), (1, .long v)]) C d_J7_fill_d0a16_1 rfl (by decide) rfl ?_
  refine z_aload_n 1 C d_J7_fill_d0a16_2 rfl rfl ?_
  refine z_len (v := nI n) (t := 3) (hE _ _) C ha rfl rfl d_J7_fill_d0a16_3 ?_
  refine z_istore (L' := [(4, .int (nI n)), (3, .int 0), (0, .ref (gB G + a)), (1, .long v)]) C d_J7_fill_d0a16_4 (by decide) rfl ?_
  have h := fillJ_loop (l := l) (e := e) (below := below) (M := M) (v := v) C hlk hr hE ha hn n 0 (by omega)
  rw [fillJ_0] at h
  exact z_sub [2, 3, 1, 0] rfl h
-- Strings that the class names
def sl (w : Nat) : Int32 := nI (sLen.getD w 0)
def sc (w k : Nat) : Int32 := (sByt.getD w []).getD k 0
theorem z_ldcS {i : Nat} (C : CX p s m args c cc nL RX9 0 G) (hi : i < 16) (hx : sIdx.getD i 0 = idx) (hd : DD cc pc (.ldc idx) 2 pc') (h : Z p l e R s m args below meth c 0 G nL Q pc' L (.ref (gK G i) :: S) M) : Z p l e R s m args below meth c 0 G nL Q pc L S M := by
  obtain ⟨d, rfl⟩ := hd
  subst hx
  exact fun H locs ls hP hS hl => va_ldcS C.1 C.2.1 C.2.2.2.1 ((C.2.2.2.2.2.2 rfl).2.2.1 i hi) d (h H locs ls hP hS hl)
theorem z_VS {w : Nat} {y : MethodName} {bytes : ByteArray} {maxL n fr lo : Nat} {ret : Option FieldType} {As S0 : List Value} {o : Option Value} (C : CX p s m args c cc nL own 0 G) (hM : CT l 0 G y bytes maxL ret fr lo (.ref (gK G w) :: As) M o M2) (hw : w < 16) (w1 : Cond.code y bytes maxL ret ∈ TB) (w2 : Cond.methodLink own idx y ∈ TB) (w3 : Cond.instanceMethod y ∈ TB) (w4 : Cond.selects "java/lang/String" y y ∈ TB) (w5 : Cond.initialized y.cls ∈ TB)
    (hy : y.cls ≠ "java/lang/invoke/MethodHandle" ∧ y.cls ≠ "java/lang/invoke/VarHandle" ∧ (parseMethodDescriptor y.desc).map (fun d => d.parameters.length) = some n) (hR : fr + 1 ≤ R.frames ∧ 8 + (maxL + 11) + lo ≤ R.locals) (hn : As.length = n) (hst : S0 = As.reverse ++ .ref (gK G w) :: S) (hW : (S.map fun v => v.category).sum ≤ 8) (hd : DD cc pc (.invokevirtual idx) 3 pc')
    (h : Z p l e R s m args below meth c 0 G nL Q pc' L (o.toList ++ S) M2) : Z p l e R s m args below meth c 0 G nL Q pc L S0 M := by
  obtain ⟨d, rfl⟩ := hd
  intro H locs ls hP hS hl
  have ht := C.2.2.2.2.1
  have hcw : CallW R s args own "java/lang/String" idx y bytes maxL ret (.code y bytes maxL ret :: TB) { frames := fr, cells := 0, slots := 0, locals := lo } 0 0 n := ⟨callB_of n ht (TB_call w1) rfl rfl rfl (ht _ w5) (ht _ w2) hy hR, ht _ w3, ht _ w4⟩
  refine z_cont hS hl (va_runV (As := As) (rest := S) (b := gK G w) (nL := nL) (C := "java/lang/String") ⟨C.1, C.2.1, C.2.2.1, C.2.2.2.1, ht⟩ hM hcw ⟨PC_blind, vk_recv (C.2.2.2.2.2.2 rfl).2.1 hw hS, fun U hU hW => ⟨rfl, by rw [hU]; exact hP, C.2.2.2.2.2.go hS hW hU⟩⟩ rfl hn hl.1 hst (lv_room hW) d ⟨Nat.zero_le _, Nat.zero_le _⟩) h
/-- a field of a String -/
theorem z_getS {w : Nat} {nme de : String} {v : Value} (C : CX p s m args c cc nL own 0 G) (hE : va_OF "java/lang/String" nme de v (gK G w) (AU 0 G) s s.heap) (hw : Cond.fieldLink own idx "java/lang/String" nme de ∈ TB) (hd : DD cc pc (.getfield idx) 3 pc') (h : Z p l e R s m args below meth c 0 G nL Q pc' L (v :: S) M) : Z p l e R s m args below meth c 0 G nL Q pc L (.ref (gK G w) :: S) M := by
  obtain ⟨d, rfl⟩ := hd
  exact fun H locs ls hP hS hl => vk_getf C.1 C.2.1 hE hS C.2.2.2.1 (C.2.2.2.2.1 _ hw) (fun _ h => h) d (h H locs ls hP hS hl)
theorem z_gets {Cn nme de : String} {v : Value} (C : CX p s m args c cc nL own 0 G) (hE : va_Z Cn nme de v (AU 0 G) s s.heap) (hw : Cond.fieldLink own idx Cn nme de ∈ TB) (hd : DD cc pc (.getstatic idx) 3 pc') (h : Z p l e R s m args below meth c 0 G nL Q pc' L (v :: S) M) : Z p l e R s m args below meth c 0 G nL Q pc L S M := by
  obtain ⟨d, rfl⟩ := hd
  exact fun H locs ls hP hS hl => va_gets C.1 C.2.1 hE hS C.2.2.2.1 (C.2.2.2.2.1 _ hw) (fun _ h => h) d (h H locs ls hP hS hl)
theorem z_tlen {t N : Nat} {f : Nat → Value} {v : Int32} (C : CX p s m args c cc nL own 0 G) (hT : va_T .byte t N f (AU 0 G) s s.heap) (hv : Int32.ofNat N = v) (hd : DD cc pc .arraylength 1 pc') (h : Z p l e R s m args below meth c 0 G nL Q pc' L (.int v :: S) M) : Z p l e R s m args below meth c 0 G nL Q pc L (.ref t :: S) M := by
  obtain ⟨d, rfl⟩ := hd
  intro H locs ls hP hS hl
  obtain ⟨cell, h1, h2, h3, h4, h5, h6, h7⟩ := hT.kept hS.2.1
  exact W.alen (n := v) C.1 C.2.1 h1 h2 (h5.trans hv) rfl rfl d (h H locs ls hP hS hl)
theorem z_tb {t N : Nat} {f : Nat → Value} {i : Int32} {v : Value} (C : CX p s m args c cc nL own 0 G) (hT : va_T .byte t N f (AU 0 G) s s.heap) (hi : inn i N) (hv : f i.toNatClampNeg = v) (hd : DD cc pc .baload 1 pc') (h : Z p l e R s m args below meth c 0 G nL Q pc' L (v :: S) M) : Z p l e R s m args below meth c 0 G nL Q pc L (.int i :: .ref t :: S) M := by
  obtain ⟨d, rfl⟩ := hd
  exact fun H locs ls hP hS hl => va_tb C.1 C.2.1 hT hS hi hv d (h H locs ls hP hS hl)
theorem z_i2c {x : Int32} (C : CX p s m args c cc nL own u G) (hd : DD cc pc .i2c 1 pc') (h : Z p l e R s m args below meth c u G nL Q pc' L (.int ((x.toUInt32 % 65536).toInt32) :: S) M) : Z p l e R s m args below meth c u G nL Q pc L (.int x :: S) M := by
  obtain ⟨d, rfl⟩ := hd
  exact fun H locs ls hP hS hl => lv_i2c C.1 C.2.1 d rfl (h H locs ls hP hS hl)
theorem c_J0_coder_7d493 (l : Launch) (G : GG) {M : Mm} {w : Nat} (hw : w < 16) : CT l 0 G y_J0_coder_7d493 prog_16_method_152_code 1 (some .byte) 0 0 [.ref (gK G w)] M (some (.int 0)) M := by
  refine CT.of (by decide +kernel) (Nat.le_of_ble_eq_true rfl) rfl (fun p e s m args below meth c C hlk hr => ?_)
  have hk := (C.2.2.2.2.2.2 rfl).2
  refine z_gets C hk.2.2.1 wf_J0_38 d_J0_coder_7d493_0 ?_
  refine z_if_eq C d_J0_coder_7d493_3 (fun q => absurd q (by decide)) (fun _ => ?_)
  refine z_aload_n 0 C d_J0_coder_7d493_6 rfl rfl ?_
  refine z_getS C (hk.1.1 w hw).2.1 wf_J0_15 d_J0_coder_7d493_7 ?_
  refine z_goto C d_J0_coder_7d493_10 ?_
  exact z_zret C hlk hr (by decide) d_J0_coder_7d493_14
theorem c_J0_isLatin1_aae02 (l : Launch) (G : GG) {M : Mm} {w : Nat} (hw : w < 16) : CT l 0 G y_J0_isLatin1_aae02 prog_16_method_154_code 1 (some .boolean) 0 0 [.ref (gK G w)] M (some (.int 1)) M := by
  refine CT.of (by decide +kernel) (Nat.le_of_ble_eq_true rfl) rfl (fun p e s m args below meth c C hlk hr => ?_)
  have hk := (C.2.2.2.2.2.2 rfl).2
  refine z_gets C hk.2.2.1 wf_J0_38 d_J0_isLatin1_aae02_0 ?_
  refine z_if_eq C d_J0_isLatin1_aae02_3 (fun q => absurd q (by decide)) (fun _ => ?_)
  refine z_aload_n 0 C d_J0_isLatin1_aae02_6 rfl rfl ?_
  refine z_getS C (hk.1.1 w hw).2.1 wf_J0_15 d_J0_isLatin1_aae02_7 ?_
  refine z_if_ne C d_J0_isLatin1_aae02_10 (fun q => absurd rfl q) (fun _ => ?_)
  refine z_iconst (v := 1) C d_J0_isLatin1_aae02_13 (by decide) ?_
  refine z_goto C d_J0_isLatin1_aae02_14 ?_
  exact z_zret C hlk hr (by decide) d_J0_isLatin1_aae02_18
theorem sl_shr {w : Nat} (hw : w < 16) : sl w >>> ((0 : Int32) &&& 31) = sl w := by
  have h : ∀ w < 16, sl w >>> ((0 : Int32) &&& 31) = sl w := by decide +kernel
  exact h w hw
theorem c_J0_length_8abf5 (l : Launch) (G : GG) {M : Mm} {w : Nat} (hw : w < 16) : CT l 0 G y_J0_length_8abf5 prog_16_method_54_code 1 (some .int) 1 20 [.ref (gK G w)] M (some (.int (sl w))) M := by
  refine CT.of (by decide +kernel) (Nat.le_of_ble_eq_true rfl) rfl (fun p e s m args below meth c C hlk hr => ?_)
  have hk := (C.2.2.2.2.2.2 rfl).2
  refine z_aload_n 0 C d_J0_length_8abf5_0 rfl rfl ?_
  refine z_getS C (hk.1.1 w hw).2.2.1 wf_J0_9 d_J0_length_8abf5_1 ?_
  refine z_tlen (v := sl w) C (hk.1.1 w hw).2.2.2 rfl d_J0_length_8abf5_4 ?_
  refine z_aload_n 0 C d_J0_length_8abf5_5 rfl rfl ?_
  refine z_VS (S := [.int (sl w)]) (As := []) (w := w) C (c_J0_coder_7d493 l G hw) hw wc_J0_coder_7d493 wm_J0_335 ws_J0_coder_7d493 wl_J0_coder_7d493 wi_J0 hy_J0_coder_7d493 ⟨Nat.le_of_ble_eq_true rfl, Nat.le_of_ble_eq_true rfl⟩ rfl rfl (Nat.le_of_ble_eq_true rfl) d_J0_length_8abf5_6 ?_
  refine z_ishr C d_J0_length_8abf5_9 ?_
  rw [sl_shr hw]
  exact z_iret C hlk hr d_J0_length_8abf5_10
theorem c_J3_checkIndex_8e157 (l : Launch) (G : GG) {M : Mm} {i n : Int32} {v : Value} (hv : v.category = 1) (h0 : ¬ i < 0) (h1 : i < n) : CT l 0 G y_J3_checkIndex_8e157 prog_21_method_11_code 3 (some .int) 0 0 [.int i, .int n, v] M (some (.int i)) M := by
  refine CT.of (L := [(0, .int i), (1, .int n), (2, v)]) (by decide +kernel) ?_ rfl (fun p e s m args below meth c C hlk hr => ?_)
  · show ([Slot.val (.int i)] ++ ([Slot.val (.int n)] ++ ((if v.category = 2 then [Slot.val v, Slot.second] else [Slot.val v]) ++ []))).length ≤ 3
    rw [if_neg (by rw [hv]; decide)]
    exact Nat.le_of_ble_eq_true rfl
  refine z_iload_n 0 C d_J3_checkIndex_8e157_0 rfl rfl ?_
  refine z_if_lt C d_J3_checkIndex_8e157_1 (fun q => absurd q h0) (fun _ => ?_)
  refine z_iload_n 0 C d_J3_checkIndex_8e157_4 rfl rfl ?_
  refine z_iload_n 1 C d_J3_checkIndex_8e157_5 rfl rfl ?_
  refine z_icmp_lt C d_J3_checkIndex_8e157_6 (fun _ => ?_) (fun q => absurd h1 q)
  refine z_iload_n 0 C d_J3_checkIndex_8e157_16 rfl rfl ?_
  exact z_iret C hlk hr d_J3_checkIndex_8e157_17
theorem c_J0_checkIndex_df160 (l : Launch) (G : GG) {M : Mm} {i n : Int32} (h0 : ¬ i < 0) (h1 : i < n) : CT l 0 G y_J0_checkIndex_df160 prog_16_method_155_code 2 none 1 22 [.int i, .int n] M none M := by
  refine CT.of (by decide +kernel) (Nat.le_of_ble_eq_true rfl) rfl (fun p e s m args below meth c C hlk hr => ?_)
  have hk := (C.2.2.2.2.2.2 rfl).2
  refine z_iload_n 0 C d_J0_checkIndex_df160_0 rfl rfl ?_
  refine z_iload_n 1 C d_J0_checkIndex_df160_1 rfl rfl ?_
  rcases hk.2.2.2 with hz | ⟨t, hz⟩
  · refine z_gets C hz wf_J0_1053 d_J0_checkIndex_df160_2 ?_
    refine z_S (S := []) (As := [.int i, .int n, .null]) C (c_J3_checkIndex_8e157 l G rfl h0 h1) wc_J3_checkIndex_8e157 wm_J0_1059 ws_J3_checkIndex_8e157 wi_J3 hy_J3_checkIndex_8e157 ⟨Nat.le_of_ble_eq_true rfl, Nat.le_of_ble_eq_true rfl⟩ rfl rfl (Nat.le_of_ble_eq_true rfl) d_J0_checkIndex_df160_5 ?_
    refine z_pop C d_J0_checkIndex_df160_8 rfl ?_
    exact z_vret C hlk hr d_J0_checkIndex_df160_9
  · refine z_gets C hz wf_J0_1053 d_J0_checkIndex_df160_2 ?_
    refine z_S (S := []) (As := [.int i, .int n, .ref t]) C (c_J3_checkIndex_8e157 l G rfl h0 h1) wc_J3_checkIndex_8e157 wm_J0_1059 ws_J3_checkIndex_8e157 wi_J3 hy_J3_checkIndex_8e157 ⟨Nat.le_of_ble_eq_true rfl, Nat.le_of_ble_eq_true rfl⟩ rfl rfl (Nat.le_of_ble_eq_true rfl) d_J0_checkIndex_df160_5 ?_
    refine z_pop C d_J0_checkIndex_df160_8 rfl ?_
    exact z_vret C hlk hr d_J0_checkIndex_df160_9
theorem sc_ok {w k : Nat} (hw : w < 16) (hk : k < sLen.getD w 0) : (((sc w k) &&& 255).toUInt32 % 65536).toInt32 = sc w k ∧ narrow .char (.int (sc w k)) = .int (sc w k) := by
  have h : ∀ w < 16, ∀ k < sLen.getD w 0, (((sc w k) &&& 255).toUInt32 % 65536).toInt32 = sc w k ∧ narrow .char (.int (sc w k)) = .int (sc w k) := by decide +kernel
  exact h w hw k hk
theorem sLen_lt {w : Nat} (hw : w < 16) : sLen.getD w 0 < 2 ^ 31 := by
  have h : ∀ w < 16, sLen.getD w 0 < 9 := by decide +kernel
  have := h w hw
  omega
theorem inn_i {i : Int32} {n : Nat} (hn : n < 2 ^ 31) (h : inn i n) : ¬ i < 0 ∧ i < nI n := by
  refine ⟨fun q => h (Or.inl q), ?_⟩
  obtain ⟨j, hj, rfl⟩ := vp_in_of (x := i) (n := n) h hn
  exact nI_lt hj hn
theorem c_J1_charAt_3b067 (l : Launch) (G : GG) {M : Mm} {i : Int32} {w : Nat} (hw : w < 16) (hi : inn i (sLen.getD w 0)) : CT l 0 G y_J1_charAt_3b067 prog_17_method_2_code 2 (some .char) 2 43 [.ref (gV G w), .int i] M (some (.int (sc w i.toNatClampNeg))) M := by
  refine CT.of (by decide +kernel) (Nat.le_of_ble_eq_true rfl) rfl (fun p e s m args below meth c C hlk hr => ?_)
  have hk := (C.2.2.2.2.2.2 rfl).2
  have hin := inn_i (sLen_lt hw) hi
  refine z_iload_n 1 C d_J1_charAt_3b067_0 rfl rfl ?_
  refine z_aload_n 0 C d_J1_charAt_3b067_1 rfl rfl ?_
  refine z_tlen (v := nI (sLen.getD w 0)) C (hk.1.1 w hw).2.2.2 rfl d_J1_charAt_3b067_2 ?_
  refine z_S (S := []) (As := [.int i, .int (nI (sLen.getD w 0))]) C (c_J0_checkIndex_df160 l G hin.1 hin.2) wc_J0_checkIndex_df160 wm_J1_9 ws_J0_checkIndex_df160 wi_J0 hy_J0_checkIndex_df160 ⟨Nat.le_of_ble_eq_true rfl, Nat.le_of_ble_eq_true rfl⟩ rfl rfl (Nat.le_of_ble_eq_true rfl) d_J1_charAt_3b067_3 ?_
  refine z_aload_n 0 C d_J1_charAt_3b067_6 rfl rfl ?_
  refine z_iload_n 1 C d_J1_charAt_3b067_7 rfl rfl ?_
  refine z_tb (v := .int (sc w i.toNatClampNeg)) C (hk.1.1 w hw).2.2.2 hi rfl d_J1_charAt_3b067_8 ?_
  refine z_sipush (v := 255) C d_J1_charAt_3b067_9 (by decide) ?_
  refine z_iand C d_J1_charAt_3b067_12 ?_
  refine z_i2c C d_J1_charAt_3b067_13 ?_
  rw [(sc_ok hw (inn_lt hi)).1]
  exact z_zret C hlk hr (sc_ok hw (inn_lt hi)).2 d_J1_charAt_3b067_14
theorem c_J0_charAt_5068e (l : Launch) (G : GG) {M : Mm} {i : Int32} {w : Nat} (hw : w < 16) (hi : inn i (sLen.getD w 0)) : CT l 0 G y_J0_charAt_5068e prog_16_method_56_code 2 (some .char) 3 64 [.ref (gK G w), .int i] M (some (.int (sc w i.toNatClampNeg))) M := by
  refine CT.of (by decide +kernel) (Nat.le_of_ble_eq_true rfl) rfl (fun p e s m args below meth c C hlk hr => ?_)
  have hk := (C.2.2.2.2.2.2 rfl).2
  refine z_aload_n 0 C d_J0_charAt_5068e_0 rfl rfl ?_
  refine z_VS (S := []) (As := []) (w := w) C (c_J0_isLatin1_aae02 l G hw) hw wc_J0_isLatin1_aae02 wm_J0_492 ws_J0_isLatin1_aae02 wl_J0_isLatin1_aae02 wi_J0 hy_J0_isLatin1_aae02 ⟨Nat.le_of_ble_eq_true rfl, Nat.le_of_ble_eq_true rfl⟩ rfl rfl (Nat.le_of_ble_eq_true rfl) d_J0_charAt_5068e_1 ?_
  refine z_if_eq C d_J0_charAt_5068e_4 (fun q => absurd q (by decide)) (fun _ => ?_)
  refine z_aload_n 0 C d_J0_charAt_5068e_7 rfl rfl ?_
  refine z_getS C (hk.1.1 w hw).2.2.1 wf_J0_9 d_J0_charAt_5068e_8 ?_
  refine z_iload_n 1 C d_J0_charAt_5068e_11 rfl rfl ?_
  refine z_S (S := []) (As := [.ref (gV G w), .int i]) C (c_J1_charAt_3b067 l G hw hi) wc_J1_charAt_3b067 wm_J0_495 ws_J1_charAt_3b067 wi_J1 hy_J1_charAt_3b067 ⟨Nat.le_of_ble_eq_true rfl, Nat.le_of_ble_eq_true rfl⟩ rfl rfl (Nat.le_of_ble_eq_true rfl) d_J0_charAt_5068e_12 ?_
  exact z_zret C hlk hr (sc_ok hw (inn_lt hi)).2 d_J0_charAt_5068e_15
end JF
