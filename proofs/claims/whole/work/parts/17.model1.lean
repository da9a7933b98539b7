def y_X12_house : MethodName := ⟨"SnowSentriesModel", "house", "(II)I"⟩
def y_X12_shine : MethodName := ⟨"SnowSentriesModel", "shine", "(II)I"⟩
def y_X12_treaty : MethodName := ⟨"SnowSentriesModel", "treaty", "(II)I"⟩
def y_X12_chance : MethodName := ⟨"SnowSentriesModel", "chance", "(I)I"⟩
def y_X12_light : MethodName := ⟨"SnowSentriesModel", "light", "(IIII)I"⟩
def y_X12_quench : MethodName := ⟨"SnowSentriesModel", "quench", "(I)I"⟩
def y_X12_mend : MethodName := ⟨"SnowSentriesModel", "mend", "(III)I"⟩
def y_X12_carry : MethodName := ⟨"SnowSentriesModel", "carry", "(III)I"⟩
def y_X12_warms : MethodName := ⟨"SnowSentriesModel", "warms", "(III)I"⟩
def y_X12_fires : MethodName := ⟨"SnowSentriesModel", "fires", "(II)I"⟩
def y_X12_heat : MethodName := ⟨"SnowSentriesModel", "heat", "(IIZ)I"⟩
def y_X12_melts : MethodName := ⟨"SnowSentriesModel", "melts", "(III)I"⟩
def y_X12_melting : MethodName := ⟨"SnowSentriesModel", "melting", "(IIII)V"⟩
def y_X12_goes : MethodName := ⟨"SnowSentriesModel", "goes", "(I)V"⟩
def y_X12_go : MethodName := ⟨"SnowSentriesModel", "go", "(I)I"⟩
def y_X12_dawn : MethodName := ⟨"SnowSentriesModel", "dawn", "()I"⟩
def y_X12_all : MethodName := ⟨"SnowSentriesModel", "all", "()I"⟩
def y_X12_copies : MethodName := ⟨"SnowSentriesModel", "copies", "(II)V"⟩
def y_X12_isAhead : MethodName := ⟨"SnowSentriesModel", "isAhead", "(I)Z"⟩
def y_X12_trialTo : MethodName := ⟨"SnowSentriesModel", "trialTo", "(I)V"⟩
def y_X12_later : MethodName := ⟨"SnowSentriesModel", "later", "(III)I"⟩
def y_X12_line : MethodName := ⟨"SnowSentriesModel", "line", "(II)I"⟩
def y_X12_houses : MethodName := ⟨"SnowSentriesModel", "houses", "(II)I"⟩
def y_X12_holdsTo : MethodName := ⟨"SnowSentriesModel", "holdsTo", "(IIII)I"⟩
def y_X12_holds : MethodName := ⟨"SnowSentriesModel", "holds", "(II)I"⟩
def y_X12_needOf : MethodName := ⟨"SnowSentriesModel", "needOf", "(III)I"⟩
def y_X12_need : MethodName := ⟨"SnowSentriesModel", "need", "(III)I"⟩
def y_X12_bitsOf : MethodName := ⟨"SnowSentriesModel", "bitsOf", "(I)I"⟩
def y_X12_crews : MethodName := ⟨"SnowSentriesModel", "crews", "(IIII)I"⟩
theorem wm_X12_218 : Cond.methodLink "SnowSentriesModel" 218 y_X12_houseOf ∈ TB := it_6 (List.mem_of_getElem? (i := 121) rfl) rfl
theorem wc_X12_houseOf : Cond.code y_X12_houseOf prog_14_method_36_code 5 (some .int) ∈ TB := it_6 (List.mem_of_getElem? (i := 124) rfl) rfl
theorem ws_X12_houseOf : Cond.instanceMethod y_X12_houseOf ∈ TB := it_6 (List.mem_of_getElem? (i := 123) rfl) rfl
theorem hy_X12_houseOf : (y_X12_houseOf).cls ≠ "java/lang/invoke/MethodHandle" ∧ (y_X12_houseOf).cls ≠ "java/lang/invoke/VarHandle" ∧ (parseMethodDescriptor (y_X12_houseOf).desc).map (fun d => d.parameters.length) = some 2 := by decide +kernel
theorem wl_X12_houseOf : Cond.selects "SnowSentriesModel" y_X12_houseOf y_X12_houseOf ∈ TB := TB_in (List.mem_append_left _ (List.mem_of_getElem? (i := 56) rfl)) rfl
theorem wk_X12_221 : Cond.constantLong "SnowSentriesModel" 221 (9 : Int64) ∈ TB := it_6 (List.mem_of_getElem? (i := 129) rfl) rfl
theorem wk_X12_223 : Cond.constantLong "SnowSentriesModel" 223 (99 : Int64) ∈ TB := it_6 (List.mem_of_getElem? (i := 134) rfl) rfl
theorem wk_X12_225 : Cond.constantLong "SnowSentriesModel" 225 (10 : Int64) ∈ TB := it_6 (List.mem_of_getElem? (i := 139) rfl) rfl
theorem wk_X12_227 : Cond.constantLong "SnowSentriesModel" 227 (20 : Int64) ∈ TB := it_6 (List.mem_of_getElem? (i := 144) rfl) rfl
theorem wm_X12_229 : Cond.methodLink "SnowSentriesModel" 229 y_X12_warms ∈ TB := it_6 (List.mem_of_getElem? (i := 165) rfl) rfl
theorem wc_X12_warms : Cond.code y_X12_warms prog_14_method_45_code 4 (some .int) ∈ TB := it_6 (List.mem_of_getElem? (i := 167) rfl) rfl
theorem ws_X12_warms : Cond.static y_X12_warms ∈ TB := it_6 (List.mem_of_getElem? (i := 166) rfl) rfl
theorem hy_X12_warms : (y_X12_warms).cls ≠ "java/lang/invoke/MethodHandle" ∧ (y_X12_warms).cls ≠ "java/lang/invoke/VarHandle" ∧ (parseMethodDescriptor (y_X12_warms).desc).map (fun d => d.parameters.length) = some 3 := by decide +kernel
theorem wm_X12_233 : Cond.methodLink "SnowSentriesModel" 233 y_X12_fires ∈ TB := it_6 (List.mem_of_getElem? (i := 161) rfl) rfl
theorem wc_X12_fires : Cond.code y_X12_fires prog_14_method_46_code 6 (some .int) ∈ TB := it_6 (List.mem_of_getElem? (i := 164) rfl) rfl
theorem ws_X12_fires : Cond.instanceMethod y_X12_fires ∈ TB := it_6 (List.mem_of_getElem? (i := 163) rfl) rfl
theorem hy_X12_fires : (y_X12_fires).cls ≠ "java/lang/invoke/MethodHandle" ∧ (y_X12_fires).cls ≠ "java/lang/invoke/VarHandle" ∧ (parseMethodDescriptor (y_X12_fires).desc).map (fun d => d.parameters.length) = some 2 := by decide +kernel
theorem wl_X12_fires : Cond.selects "SnowSentriesModel" y_X12_fires y_X12_fires ∈ TB := TB_in (List.mem_append_left _ (List.mem_of_getElem? (i := 57) rfl)) rfl
theorem wm_X12_236 : Cond.methodLink "SnowSentriesModel" 236 y_X12_melts ∈ TB := it_6 (List.mem_of_getElem? (i := 181) rfl) rfl
theorem wc_X12_melts : Cond.code y_X12_melts prog_14_method_48_code 9 (some .int) ∈ TB := it_6 (List.mem_of_getElem? (i := 184) rfl) rfl
theorem ws_X12_melts : Cond.instanceMethod y_X12_melts ∈ TB := it_6 (List.mem_of_getElem? (i := 183) rfl) rfl
theorem hy_X12_melts : (y_X12_melts).cls ≠ "java/lang/invoke/MethodHandle" ∧ (y_X12_melts).cls ≠ "java/lang/invoke/VarHandle" ∧ (parseMethodDescriptor (y_X12_melts).desc).map (fun d => d.parameters.length) = some 3 := by decide +kernel
theorem wl_X12_melts : Cond.selects "SnowSentriesModel" y_X12_melts y_X12_melts ∈ TB := TB_in (List.mem_append_left _ (List.mem_of_getElem? (i := 60) rfl)) rfl
theorem wm_X12_239 : Cond.methodLink "SnowSentriesModel" 239 y_X12_melting ∈ TB := it_6 (List.mem_of_getElem? (i := 177) rfl) rfl
theorem wc_X12_melting : Cond.code y_X12_melting prog_14_method_49_code 13 none ∈ TB := it_6 (List.mem_of_getElem? (i := 180) rfl) rfl
theorem ws_X12_melting : Cond.instanceMethod y_X12_melting ∈ TB := it_6 (List.mem_of_getElem? (i := 179) rfl) rfl
theorem hy_X12_melting : (y_X12_melting).cls ≠ "java/lang/invoke/MethodHandle" ∧ (y_X12_melting).cls ≠ "java/lang/invoke/VarHandle" ∧ (parseMethodDescriptor (y_X12_melting).desc).map (fun d => d.parameters.length) = some 4 := by decide +kernel
theorem wl_X12_melting : Cond.selects "SnowSentriesModel" y_X12_melting y_X12_melting ∈ TB := TB_in (List.mem_append_left _ (List.mem_of_getElem? (i := 59) rfl)) rfl
theorem wm_X12_245 : Cond.methodLink "SnowSentriesModel" 245 y_X12_goes ∈ TB := it_6 (List.mem_of_getElem? (i := 173) rfl) rfl
theorem wc_X12_goes : Cond.code y_X12_goes prog_14_method_50_code 4 none ∈ TB := it_6 (List.mem_of_getElem? (i := 176) rfl) rfl
theorem ws_X12_goes : Cond.instanceMethod y_X12_goes ∈ TB := it_6 (List.mem_of_getElem? (i := 175) rfl) rfl
theorem hy_X12_goes : (y_X12_goes).cls ≠ "java/lang/invoke/MethodHandle" ∧ (y_X12_goes).cls ≠ "java/lang/invoke/VarHandle" ∧ (parseMethodDescriptor (y_X12_goes).desc).map (fun d => d.parameters.length) = some 1 := by decide +kernel
theorem wl_X12_goes : Cond.selects "SnowSentriesModel" y_X12_goes y_X12_goes ∈ TB := TB_in (List.mem_append_left _ (List.mem_of_getElem? (i := 58) rfl)) rfl
theorem wk_X12_243 : Cond.constantLong "SnowSentriesModel" 243 (12 : Int64) ∈ TB := it_6 (List.mem_of_getElem? (i := 172) rfl) rfl
theorem wm_X12_248 : Cond.methodLink "SnowSentriesModel" 248 y_X12_copies ∈ TB := it_6 (List.mem_of_getElem? (i := 205) rfl) rfl
theorem wc_X12_copies : Cond.code y_X12_copies prog_14_method_54_code 4 none ∈ TB := it_6 (List.mem_of_getElem? (i := 208) rfl) rfl
theorem ws_X12_copies : Cond.instanceMethod y_X12_copies ∈ TB := it_6 (List.mem_of_getElem? (i := 207) rfl) rfl
theorem hy_X12_copies : (y_X12_copies).cls ≠ "java/lang/invoke/MethodHandle" ∧ (y_X12_copies).cls ≠ "java/lang/invoke/VarHandle" ∧ (parseMethodDescriptor (y_X12_copies).desc).map (fun d => d.parameters.length) = some 2 := by decide +kernel
theorem wl_X12_copies : Cond.selects "SnowSentriesModel" y_X12_copies y_X12_copies ∈ TB := TB_in (List.mem_append_left _ (List.mem_of_getElem? (i := 63) rfl)) rfl
theorem wm_X12_251 : Cond.methodLink "SnowSentriesModel" 251 y_X12_isAhead ∈ TB := it_6 (List.mem_of_getElem? (i := 197) rfl) rfl
theorem wc_X12_isAhead : Cond.code y_X12_isAhead prog_14_method_55_code 2 (some .boolean) ∈ TB := it_6 (List.mem_of_getElem? (i := 200) rfl) rfl
theorem ws_X12_isAhead : Cond.instanceMethod y_X12_isAhead ∈ TB := it_6 (List.mem_of_getElem? (i := 199) rfl) rfl
theorem hy_X12_isAhead : (y_X12_isAhead).cls ≠ "java/lang/invoke/MethodHandle" ∧ (y_X12_isAhead).cls ≠ "java/lang/invoke/VarHandle" ∧ (parseMethodDescriptor (y_X12_isAhead).desc).map (fun d => d.parameters.length) = some 1 := by decide +kernel
theorem wl_X12_isAhead : Cond.selects "SnowSentriesModel" y_X12_isAhead y_X12_isAhead ∈ TB := TB_in (List.mem_append_left _ (List.mem_of_getElem? (i := 61) rfl)) rfl
theorem wm_X12_254 : Cond.methodLink "SnowSentriesModel" 254 y_X12_trialTo ∈ TB := it_6 (List.mem_of_getElem? (i := 201) rfl) rfl
theorem wc_X12_trialTo : Cond.code y_X12_trialTo prog_14_method_56_code 2 none ∈ TB := it_6 (List.mem_of_getElem? (i := 204) rfl) rfl
theorem ws_X12_trialTo : Cond.instanceMethod y_X12_trialTo ∈ TB := it_6 (List.mem_of_getElem? (i := 203) rfl) rfl
theorem hy_X12_trialTo : (y_X12_trialTo).cls ≠ "java/lang/invoke/MethodHandle" ∧ (y_X12_trialTo).cls ≠ "java/lang/invoke/VarHandle" ∧ (parseMethodDescriptor (y_X12_trialTo).desc).map (fun d => d.parameters.length) = some 1 := by decide +kernel
theorem wl_X12_trialTo : Cond.selects "SnowSentriesModel" y_X12_trialTo y_X12_trialTo ∈ TB := TB_in (List.mem_append_left _ (List.mem_of_getElem? (i := 62) rfl)) rfl
theorem wm_X12_257 : Cond.methodLink "SnowSentriesModel" 257 y_X12_holdsTo ∈ TB := it_6 (List.mem_of_getElem? (i := 221) rfl) rfl
theorem wc_X12_holdsTo : Cond.code y_X12_holdsTo prog_14_method_60_code 6 (some .int) ∈ TB := it_6 (List.mem_of_getElem? (i := 224) rfl) rfl
theorem ws_X12_holdsTo : Cond.instanceMethod y_X12_holdsTo ∈ TB := it_6 (List.mem_of_getElem? (i := 223) rfl) rfl
theorem hy_X12_holdsTo : (y_X12_holdsTo).cls ≠ "java/lang/invoke/MethodHandle" ∧ (y_X12_holdsTo).cls ≠ "java/lang/invoke/VarHandle" ∧ (parseMethodDescriptor (y_X12_holdsTo).desc).map (fun d => d.parameters.length) = some 4 := by decide +kernel
theorem wl_X12_holdsTo : Cond.selects "SnowSentriesModel" y_X12_holdsTo y_X12_holdsTo ∈ TB := TB_in (List.mem_append_left _ (List.mem_of_getElem? (i := 64) rfl)) rfl
theorem wm_X12_261 : Cond.methodLink "SnowSentriesModel" 261 y_X12_needOf ∈ TB := it_6 (List.mem_of_getElem? (i := 229) rfl) rfl
theorem wc_X12_needOf : Cond.code y_X12_needOf prog_14_method_62_code 6 (some .int) ∈ TB := it_6 (List.mem_of_getElem? (i := 232) rfl) rfl
theorem ws_X12_needOf : Cond.instanceMethod y_X12_needOf ∈ TB := it_6 (List.mem_of_getElem? (i := 231) rfl) rfl
theorem hy_X12_needOf : (y_X12_needOf).cls ≠ "java/lang/invoke/MethodHandle" ∧ (y_X12_needOf).cls ≠ "java/lang/invoke/VarHandle" ∧ (parseMethodDescriptor (y_X12_needOf).desc).map (fun d => d.parameters.length) = some 3 := by decide +kernel
theorem wl_X12_needOf : Cond.selects "SnowSentriesModel" y_X12_needOf y_X12_needOf ∈ TB := TB_in (List.mem_append_left _ (List.mem_of_getElem? (i := 65) rfl)) rfl
theorem wf_X12_50 : Cond.fieldLink "SnowSentriesModel" 50 "SnowSentriesModel" "needs" "[I" ∈ TB := it_5 (List.mem_of_getElem? (i := 137) rfl) rfl
theorem wm_X12_264 : Cond.methodLink "SnowSentriesModel" 264 y_X12_bitsOf ∈ TB := it_6 (List.mem_of_getElem? (i := 237) rfl) rfl
theorem wc_X12_bitsOf : Cond.code y_X12_bitsOf prog_14_method_64_code 3 (some .int) ∈ TB := it_6 (List.mem_of_getElem? (i := 239) rfl) rfl
theorem ws_X12_bitsOf : Cond.static y_X12_bitsOf ∈ TB := it_6 (List.mem_of_getElem? (i := 238) rfl) rfl
theorem hy_X12_bitsOf : (y_X12_bitsOf).cls ≠ "java/lang/invoke/MethodHandle" ∧ (y_X12_bitsOf).cls ≠ "java/lang/invoke/VarHandle" ∧ (parseMethodDescriptor (y_X12_bitsOf).desc).map (fun d => d.parameters.length) = some 1 := by decide +kernel
theorem d_X12_house_0 : DD prog_14_method_37_code 0 (.iload_n 1) 1 1 := ⟨by decide +kernel, rfl⟩
theorem d_X12_house_1 : DD prog_14_method_37_code 1 (.i2l) 1 2 := ⟨by decide +kernel, rfl⟩
theorem d_X12_house_2 : DD prog_14_method_37_code 2 (.lconst 0) 1 3 := ⟨by decide +kernel, rfl⟩
theorem d_X12_house_3 : DD prog_14_method_37_code 3 (.aload_n 0) 1 4 := ⟨by decide +kernel, rfl⟩
theorem d_X12_house_4 : DD prog_14_method_37_code 4 (.getfield 170) 3 7 := ⟨by decide +kernel, rfl⟩
theorem d_X12_house_7 : DD prog_14_method_37_code 7 (.iconst 1) 1 8 := ⟨by decide +kernel, rfl⟩
theorem d_X12_house_8 : DD prog_14_method_37_code 8 (.isub) 1 9 := ⟨by decide +kernel, rfl⟩
theorem d_X12_house_9 : DD prog_14_method_37_code 9 (.i2l) 1 10 := ⟨by decide +kernel, rfl⟩
theorem d_X12_house_10 : DD prog_14_method_37_code 10 (.invokestatic 75) 3 13 := ⟨by decide +kernel, rfl⟩
theorem d_X12_house_13 : DJ prog_14_method_37_code 13 (fun o => .ifCond .eq o) 28 3 16 := ⟨by decide +kernel, rfl⟩
theorem d_X12_house_16 : DD prog_14_method_37_code 16 (.iload_n 2) 1 17 := ⟨by decide +kernel, rfl⟩
theorem d_X12_house_17 : DD prog_14_method_37_code 17 (.i2l) 1 18 := ⟨by decide +kernel, rfl⟩
theorem d_X12_house_18 : DD prog_14_method_37_code 18 (.lconst 0) 1 19 := ⟨by decide +kernel, rfl⟩
theorem d_X12_house_19 : DD prog_14_method_37_code 19 (.ldc2_w 188) 3 22 := ⟨by decide +kernel, rfl⟩
theorem d_X12_house_22 : DD prog_14_method_37_code 22 (.invokestatic 75) 3 25 := ⟨by decide +kernel, rfl⟩
theorem d_X12_house_25 : DJ prog_14_method_37_code 25 (fun o => .ifCond .ne o) 30 3 28 := ⟨by decide +kernel, rfl⟩
theorem d_X12_house_28 : DD prog_14_method_37_code 28 (.iconst (-1)) 1 29 := ⟨by decide +kernel, rfl⟩
theorem d_X12_house_29 : DD prog_14_method_37_code 29 (.ireturn) 1 30 := ⟨by decide +kernel, rfl⟩
theorem d_X12_house_30 : DD prog_14_method_37_code 30 (.iload_n 2) 1 31 := ⟨by decide +kernel, rfl⟩
theorem d_X12_house_31 : DJ prog_14_method_37_code 31 (fun o => .ifCond .ne o) 45 3 34 := ⟨by decide +kernel, rfl⟩
theorem d_X12_house_34 : DD prog_14_method_37_code 34 (.aload_n 0) 1 35 := ⟨by decide +kernel, rfl⟩
theorem d_X12_house_35 : DD prog_14_method_37_code 35 (.getfield 23) 3 38 := ⟨by decide +kernel, rfl⟩
theorem d_X12_house_38 : DD prog_14_method_37_code 38 (.iconst 2) 1 39 := ⟨by decide +kernel, rfl⟩
theorem d_X12_house_39 : DD prog_14_method_37_code 39 (.iload_n 1) 1 40 := ⟨by decide +kernel, rfl⟩
theorem d_X12_house_40 : DD prog_14_method_37_code 40 (.imul) 1 41 := ⟨by decide +kernel, rfl⟩
theorem d_X12_house_41 : DD prog_14_method_37_code 41 (.iaload) 1 42 := ⟨by decide +kernel, rfl⟩
theorem d_X12_house_42 : DJ prog_14_method_37_code 42 (fun o => .goto o) 72 3 45 := ⟨by decide +kernel, rfl⟩
theorem d_X12_house_45 : DD prog_14_method_37_code 45 (.iload_n 2) 1 46 := ⟨by decide +kernel, rfl⟩
theorem d_X12_house_46 : DD prog_14_method_37_code 46 (.iconst 1) 1 47 := ⟨by decide +kernel, rfl⟩
theorem d_X12_house_47 : DJ prog_14_method_37_code 47 (fun o => .if_icmp .ne o) 66 3 50 := ⟨by decide +kernel, rfl⟩
theorem d_X12_house_50 : DD prog_14_method_37_code 50 (.bipush 100) 2 52 := ⟨by decide +kernel, rfl⟩
theorem d_X12_house_52 : DD prog_14_method_37_code 52 (.aload_n 0) 1 53 := ⟨by decide +kernel, rfl⟩
theorem d_X12_house_53 : DD prog_14_method_37_code 53 (.getfield 23) 3 56 := ⟨by decide +kernel, rfl⟩
theorem d_X12_house_56 : DD prog_14_method_37_code 56 (.iconst 2) 1 57 := ⟨by decide +kernel, rfl⟩
theorem d_X12_house_57 : DD prog_14_method_37_code 57 (.iload_n 1) 1 58 := ⟨by decide +kernel, rfl⟩
theorem d_X12_house_58 : DD prog_14_method_37_code 58 (.imul) 1 59 := ⟨by decide +kernel, rfl⟩
theorem d_X12_house_59 : DD prog_14_method_37_code 59 (.iconst 1) 1 60 := ⟨by decide +kernel, rfl⟩
theorem d_X12_house_60 : DD prog_14_method_37_code 60 (.iadd) 1 61 := ⟨by decide +kernel, rfl⟩
theorem d_X12_house_61 : DD prog_14_method_37_code 61 (.iaload) 1 62 := ⟨by decide +kernel, rfl⟩
theorem d_X12_house_62 : DD prog_14_method_37_code 62 (.iadd) 1 63 := ⟨by decide +kernel, rfl⟩
theorem d_X12_house_63 : DJ prog_14_method_37_code 63 (fun o => .goto o) 72 3 66 := ⟨by decide +kernel, rfl⟩
theorem d_X12_house_66 : DD prog_14_method_37_code 66 (.aload_n 0) 1 67 := ⟨by decide +kernel, rfl⟩
theorem d_X12_house_67 : DD prog_14_method_37_code 67 (.iconst 0) 1 68 := ⟨by decide +kernel, rfl⟩
theorem d_X12_house_68 : DD prog_14_method_37_code 68 (.iload_n 1) 1 69 := ⟨by decide +kernel, rfl⟩
theorem d_X12_house_69 : DD prog_14_method_37_code 69 (.invokevirtual 218) 3 72 := ⟨by decide +kernel, rfl⟩
theorem d_X12_house_72 : DD prog_14_method_37_code 72 (.ireturn) 1 73 := ⟨by decide +kernel, rfl⟩
theorem d_X12_shine_0 : DD prog_14_method_38_code 0 (.iload_n 1) 1 1 := ⟨by decide +kernel, rfl⟩
theorem d_X12_shine_1 : DD prog_14_method_38_code 1 (.invokestatic 194) 3 4 := ⟨by decide +kernel, rfl⟩
theorem d_X12_shine_4 : DJ prog_14_method_38_code 4 (fun o => .ifCond .eq o) 19 3 7 := ⟨by decide +kernel, rfl⟩
theorem d_X12_shine_7 : DD prog_14_method_38_code 7 (.iload_n 2) 1 8 := ⟨by decide +kernel, rfl⟩
theorem d_X12_shine_8 : DD prog_14_method_38_code 8 (.i2l) 1 9 := ⟨by decide +kernel, rfl⟩
theorem d_X12_shine_9 : DD prog_14_method_38_code 9 (.lconst 0) 1 10 := ⟨by decide +kernel, rfl⟩
theorem d_X12_shine_10 : DD prog_14_method_38_code 10 (.ldc2_w 221) 3 13 := ⟨by decide +kernel, rfl⟩
theorem d_X12_shine_13 : DD prog_14_method_38_code 13 (.invokestatic 75) 3 16 := ⟨by decide +kernel, rfl⟩
theorem d_X12_shine_16 : DJ prog_14_method_38_code 16 (fun o => .ifCond .ne o) 21 3 19 := ⟨by decide +kernel, rfl⟩
theorem d_X12_shine_19 : DD prog_14_method_38_code 19 (.iconst (-1)) 1 20 := ⟨by decide +kernel, rfl⟩
theorem d_X12_shine_20 : DD prog_14_method_38_code 20 (.ireturn) 1 21 := ⟨by decide +kernel, rfl⟩
theorem d_X12_shine_21 : DD prog_14_method_38_code 21 (.aload_n 0) 1 22 := ⟨by decide +kernel, rfl⟩
theorem d_X12_shine_22 : DD prog_14_method_38_code 22 (.getfield 7) 3 25 := ⟨by decide +kernel, rfl⟩
theorem d_X12_shine_25 : DD prog_14_method_38_code 25 (.sipush 171) 3 28 := ⟨by decide +kernel, rfl⟩
theorem d_X12_shine_28 : DD prog_14_method_38_code 28 (.iload_n 1) 1 29 := ⟨by decide +kernel, rfl⟩
theorem d_X12_shine_29 : DD prog_14_method_38_code 29 (.iadd) 1 30 := ⟨by decide +kernel, rfl⟩
theorem d_X12_shine_30 : DD prog_14_method_38_code 30 (.iaload) 1 31 := ⟨by decide +kernel, rfl⟩
theorem d_X12_shine_31 : DD prog_14_method_38_code 31 (.istore_n 3) 1 32 := ⟨by decide +kernel, rfl⟩
theorem d_X12_shine_32 : DD prog_14_method_38_code 32 (.aload_n 0) 1 33 := ⟨by decide +kernel, rfl⟩
theorem d_X12_shine_33 : DD prog_14_method_38_code 33 (.getfield 7) 3 36 := ⟨by decide +kernel, rfl⟩
theorem d_X12_shine_36 : DD prog_14_method_38_code 36 (.sipush 171) 3 39 := ⟨by decide +kernel, rfl⟩
theorem d_X12_shine_39 : DD prog_14_method_38_code 39 (.iload_n 1) 1 40 := ⟨by decide +kernel, rfl⟩
theorem d_X12_shine_40 : DD prog_14_method_38_code 40 (.iadd) 1 41 := ⟨by decide +kernel, rfl⟩
theorem d_X12_shine_41 : DD prog_14_method_38_code 41 (.iload_n 2) 1 42 := ⟨by decide +kernel, rfl⟩
theorem d_X12_shine_42 : DD prog_14_method_38_code 42 (.iastore) 1 43 := ⟨by decide +kernel, rfl⟩
theorem d_X12_shine_43 : DD prog_14_method_38_code 43 (.iload_n 3) 1 44 := ⟨by decide +kernel, rfl⟩
theorem d_X12_shine_44 : DD prog_14_method_38_code 44 (.ireturn) 1 45 := ⟨by decide +kernel, rfl⟩
theorem d_X12_treaty_0 : DD prog_14_method_39_code 0 (.iload_n 1) 1 1 := ⟨by decide +kernel, rfl⟩
theorem d_X12_treaty_1 : DD prog_14_method_39_code 1 (.i2l) 1 2 := ⟨by decide +kernel, rfl⟩
theorem d_X12_treaty_2 : DD prog_14_method_39_code 2 (.lconst 0) 1 3 := ⟨by decide +kernel, rfl⟩
theorem d_X12_treaty_3 : DD prog_14_method_39_code 3 (.ldc2_w 188) 3 6 := ⟨by decide +kernel, rfl⟩
theorem d_X12_treaty_6 : DD prog_14_method_39_code 6 (.invokestatic 75) 3 9 := ⟨by decide +kernel, rfl⟩
theorem d_X12_treaty_9 : DJ prog_14_method_39_code 9 (fun o => .ifCond .eq o) 51 3 12 := ⟨by decide +kernel, rfl⟩
theorem d_X12_treaty_12 : DD prog_14_method_39_code 12 (.iload_n 2) 1 13 := ⟨by decide +kernel, rfl⟩
theorem d_X12_treaty_13 : DD prog_14_method_39_code 13 (.i2l) 1 14 := ⟨by decide +kernel, rfl⟩
theorem d_X12_treaty_14 : DD prog_14_method_39_code 14 (.iload_n 1) 1 15 := ⟨by decide +kernel, rfl⟩
theorem d_X12_treaty_15 : DJ prog_14_method_39_code 15 (fun o => .ifCond .ne o) 22 3 18 := ⟨by decide +kernel, rfl⟩
theorem d_X12_treaty_18 : DD prog_14_method_39_code 18 (.lconst 1) 1 19 := ⟨by decide +kernel, rfl⟩
theorem d_X12_treaty_19 : DJ prog_14_method_39_code 19 (fun o => .goto o) 23 3 22 := ⟨by decide +kernel, rfl⟩
theorem d_X12_treaty_22 : DD prog_14_method_39_code 22 (.lconst 0) 1 23 := ⟨by decide +kernel, rfl⟩
theorem d_X12_treaty_23 : DD prog_14_method_39_code 23 (.iload_n 1) 1 24 := ⟨by decide +kernel, rfl⟩
theorem d_X12_treaty_24 : DJ prog_14_method_39_code 24 (fun o => .ifCond .ne o) 33 3 27 := ⟨by decide +kernel, rfl⟩
theorem d_X12_treaty_27 : DD prog_14_method_39_code 27 (.ldc2_w 223) 3 30 := ⟨by decide +kernel, rfl⟩
theorem d_X12_treaty_30 : DJ prog_14_method_39_code 30 (fun o => .goto o) 45 3 33 := ⟨by decide +kernel, rfl⟩
theorem d_X12_treaty_33 : DD prog_14_method_39_code 33 (.iload_n 1) 1 34 := ⟨by decide +kernel, rfl⟩
theorem d_X12_treaty_34 : DD prog_14_method_39_code 34 (.iconst 1) 1 35 := ⟨by decide +kernel, rfl⟩
theorem d_X12_treaty_35 : DJ prog_14_method_39_code 35 (fun o => .if_icmp .ne o) 44 3 38 := ⟨by decide +kernel, rfl⟩
theorem d_X12_treaty_38 : DD prog_14_method_39_code 38 (.ldc2_w 204) 3 41 := ⟨by decide +kernel, rfl⟩
theorem d_X12_treaty_41 : DJ prog_14_method_39_code 41 (fun o => .goto o) 45 3 44 := ⟨by decide +kernel, rfl⟩
theorem d_X12_treaty_44 : DD prog_14_method_39_code 44 (.lconst 1) 1 45 := ⟨by decide +kernel, rfl⟩
theorem d_X12_treaty_45 : DD prog_14_method_39_code 45 (.invokestatic 75) 3 48 := ⟨by decide +kernel, rfl⟩
theorem d_X12_treaty_48 : DJ prog_14_method_39_code 48 (fun o => .ifCond .ne o) 53 3 51 := ⟨by decide +kernel, rfl⟩
theorem d_X12_treaty_51 : DD prog_14_method_39_code 51 (.iconst (-1)) 1 52 := ⟨by decide +kernel, rfl⟩
theorem d_X12_treaty_52 : DD prog_14_method_39_code 52 (.ireturn) 1 53 := ⟨by decide +kernel, rfl⟩
theorem d_X12_treaty_53 : DD prog_14_method_39_code 53 (.aload_n 0) 1 54 := ⟨by decide +kernel, rfl⟩
theorem d_X12_treaty_54 : DD prog_14_method_39_code 54 (.getfield 20) 3 57 := ⟨by decide +kernel, rfl⟩
theorem d_X12_treaty_57 : DD prog_14_method_39_code 57 (.iload_n 1) 1 58 := ⟨by decide +kernel, rfl⟩
theorem d_X12_treaty_58 : DD prog_14_method_39_code 58 (.iaload) 1 59 := ⟨by decide +kernel, rfl⟩
theorem d_X12_treaty_59 : DD prog_14_method_39_code 59 (.istore_n 3) 1 60 := ⟨by decide +kernel, rfl⟩
theorem d_X12_treaty_60 : DD prog_14_method_39_code 60 (.aload_n 0) 1 61 := ⟨by decide +kernel, rfl⟩
theorem d_X12_treaty_61 : DD prog_14_method_39_code 61 (.getfield 20) 3 64 := ⟨by decide +kernel, rfl⟩
theorem d_X12_treaty_64 : DD prog_14_method_39_code 64 (.iload_n 1) 1 65 := ⟨by decide +kernel, rfl⟩
theorem d_X12_treaty_65 : DD prog_14_method_39_code 65 (.iload_n 2) 1 66 := ⟨by decide +kernel, rfl⟩
theorem d_X12_treaty_66 : DD prog_14_method_39_code 66 (.iastore) 1 67 := ⟨by decide +kernel, rfl⟩
theorem d_X12_treaty_67 : DD prog_14_method_39_code 67 (.iload_n 3) 1 68 := ⟨by decide +kernel, rfl⟩
theorem d_X12_treaty_68 : DD prog_14_method_39_code 68 (.ireturn) 1 69 := ⟨by decide +kernel, rfl⟩
theorem d_X12_chance_0 : DD prog_14_method_40_code 0 (.iload_n 1) 1 1 := ⟨by decide +kernel, rfl⟩
theorem d_X12_chance_1 : DD prog_14_method_40_code 1 (.i2l) 1 2 := ⟨by decide +kernel, rfl⟩
theorem d_X12_chance_2 : DD prog_14_method_40_code 2 (.lconst 0) 1 3 := ⟨by decide +kernel, rfl⟩
theorem d_X12_chance_3 : DD prog_14_method_40_code 3 (.ldc2_w 225) 3 6 := ⟨by decide +kernel, rfl⟩
theorem d_X12_chance_6 : DD prog_14_method_40_code 6 (.invokestatic 75) 3 9 := ⟨by decide +kernel, rfl⟩
theorem d_X12_chance_9 : DJ prog_14_method_40_code 9 (fun o => .ifCond .ne o) 14 3 12 := ⟨by decide +kernel, rfl⟩
theorem d_X12_chance_12 : DD prog_14_method_40_code 12 (.iconst (-1)) 1 13 := ⟨by decide +kernel, rfl⟩
theorem d_X12_chance_13 : DD prog_14_method_40_code 13 (.ireturn) 1 14 := ⟨by decide +kernel, rfl⟩
theorem d_X12_chance_14 : DD prog_14_method_40_code 14 (.aload_n 0) 1 15 := ⟨by decide +kernel, rfl⟩
theorem d_X12_chance_15 : DD prog_14_method_40_code 15 (.getfield 26) 3 18 := ⟨by decide +kernel, rfl⟩
theorem d_X12_chance_18 : DD prog_14_method_40_code 18 (.istore_n 2) 1 19 := ⟨by decide +kernel, rfl⟩
theorem d_X12_chance_19 : DD prog_14_method_40_code 19 (.aload_n 0) 1 20 := ⟨by decide +kernel, rfl⟩
theorem d_X12_chance_20 : DD prog_14_method_40_code 20 (.iload_n 1) 1 21 := ⟨by decide +kernel, rfl⟩
theorem d_X12_chance_21 : DD prog_14_method_40_code 21 (.putfield 26) 3 24 := ⟨by decide +kernel, rfl⟩
theorem d_X12_chance_24 : DD prog_14_method_40_code 24 (.iload_n 2) 1 25 := ⟨by decide +kernel, rfl⟩
theorem d_X12_chance_25 : DD prog_14_method_40_code 25 (.ireturn) 1 26 := ⟨by decide +kernel, rfl⟩
theorem d_X12_light_0 : DD prog_14_method_41_code 0 (.aload_n 0) 1 1 := ⟨by decide +kernel, rfl⟩
theorem d_X12_light_1 : DD prog_14_method_41_code 1 (.iload_n 1) 1 2 := ⟨by decide +kernel, rfl⟩
theorem d_X12_light_2 : DD prog_14_method_41_code 2 (.invokevirtual 201) 3 5 := ⟨by decide +kernel, rfl⟩
theorem d_X12_light_5 : DJ prog_14_method_41_code 5 (fun o => .ifCond .eq o) 41 3 8 := ⟨by decide +kernel, rfl⟩
theorem d_X12_light_8 : DD prog_14_method_41_code 8 (.iload_n 2) 1 9 := ⟨by decide +kernel, rfl⟩
theorem d_X12_light_9 : DD prog_14_method_41_code 9 (.i2l) 1 10 := ⟨by decide +kernel, rfl⟩
theorem d_X12_light_10 : DD prog_14_method_41_code 10 (.lconst 1) 1 11 := ⟨by decide +kernel, rfl⟩
theorem d_X12_light_11 : DD prog_14_method_41_code 11 (.ldc2_w 227) 3 14 := ⟨by decide +kernel, rfl⟩
theorem d_X12_light_14 : DD prog_14_method_41_code 14 (.invokestatic 75) 3 17 := ⟨by decide +kernel, rfl⟩
theorem d_X12_light_17 : DJ prog_14_method_41_code 17 (fun o => .ifCond .eq o) 41 3 20 := ⟨by decide +kernel, rfl⟩
theorem d_X12_light_20 : DD prog_14_method_41_code 20 (.iload_n 3) 1 21 := ⟨by decide +kernel, rfl⟩
theorem d_X12_light_21 : DD prog_14_method_41_code 21 (.invokestatic 194) 3 24 := ⟨by decide +kernel, rfl⟩
theorem d_X12_light_24 : DJ prog_14_method_41_code 24 (fun o => .ifCond .eq o) 41 3 27 := ⟨by decide +kernel, rfl⟩
theorem d_X12_light_27 : DD prog_14_method_41_code 27 (.iload 4) 2 29 := ⟨by decide +kernel, rfl⟩
theorem d_X12_light_29 : DD prog_14_method_41_code 29 (.i2l) 1 30 := ⟨by decide +kernel, rfl⟩
theorem d_X12_light_30 : DD prog_14_method_41_code 30 (.iload_n 3) 1 31 := ⟨by decide +kernel, rfl⟩
theorem d_X12_light_31 : DD prog_14_method_41_code 31 (.i2l) 1 32 := ⟨by decide +kernel, rfl⟩
theorem d_X12_light_32 : DD prog_14_method_41_code 32 (.ldc2_w 192) 3 35 := ⟨by decide +kernel, rfl⟩
theorem d_X12_light_35 : DD prog_14_method_41_code 35 (.invokestatic 75) 3 38 := ⟨by decide +kernel, rfl⟩
theorem d_X12_light_38 : DJ prog_14_method_41_code 38 (fun o => .ifCond .ne o) 43 3 41 := ⟨by decide +kernel, rfl⟩
theorem d_X12_light_41 : DD prog_14_method_41_code 41 (.iconst (-1)) 1 42 := ⟨by decide +kernel, rfl⟩
theorem d_X12_light_42 : DD prog_14_method_41_code 42 (.ireturn) 1 43 := ⟨by decide +kernel, rfl⟩
theorem d_X12_light_43 : DD prog_14_method_41_code 43 (.aload_n 0) 1 44 := ⟨by decide +kernel, rfl⟩
theorem d_X12_light_44 : DD prog_14_method_41_code 44 (.getfield 7) 3 47 := ⟨by decide +kernel, rfl⟩
theorem d_X12_light_47 : DD prog_14_method_41_code 47 (.sipush 207) 3 50 := ⟨by decide +kernel, rfl⟩
theorem d_X12_light_50 : DD prog_14_method_41_code 50 (.iaload) 1 51 := ⟨by decide +kernel, rfl⟩
theorem d_X12_light_51 : DD prog_14_method_41_code 51 (.istore 5) 2 53 := ⟨by decide +kernel, rfl⟩
theorem d_X12_light_53 : DD prog_14_method_41_code 53 (.iload 5) 2 55 := ⟨by decide +kernel, rfl⟩
theorem d_X12_light_55 : DD prog_14_method_41_code 55 (.bipush 6) 2 57 := ⟨by decide +kernel, rfl⟩
theorem d_X12_light_57 : DJ prog_14_method_41_code 57 (fun o => .if_icmp .ne o) 63 3 60 := ⟨by decide +kernel, rfl⟩
theorem d_X12_light_60 : DD prog_14_method_41_code 60 (.bipush (-3)) 2 62 := ⟨by decide +kernel, rfl⟩
theorem d_X12_light_62 : DD prog_14_method_41_code 62 (.ireturn) 1 63 := ⟨by decide +kernel, rfl⟩
theorem d_X12_light_63 : DD prog_14_method_41_code 63 (.aload_n 0) 1 64 := ⟨by decide +kernel, rfl⟩
theorem d_X12_light_64 : DD prog_14_method_41_code 64 (.getfield 7) 3 67 := ⟨by decide +kernel, rfl⟩
theorem d_X12_light_67 : DD prog_14_method_41_code 67 (.sipush 183) 3 70 := ⟨by decide +kernel, rfl⟩
theorem d_X12_light_70 : DD prog_14_method_41_code 70 (.iconst 4) 1 71 := ⟨by decide +kernel, rfl⟩
theorem d_X12_light_71 : DD prog_14_method_41_code 71 (.iload 5) 2 73 := ⟨by decide +kernel, rfl⟩
theorem d_X12_light_73 : DD prog_14_method_41_code 73 (.imul) 1 74 := ⟨by decide +kernel, rfl⟩
theorem d_X12_light_74 : DD prog_14_method_41_code 74 (.iadd) 1 75 := ⟨by decide +kernel, rfl⟩
theorem d_X12_light_75 : DD prog_14_method_41_code 75 (.iload_n 1) 1 76 := ⟨by decide +kernel, rfl⟩
theorem d_X12_light_76 : DD prog_14_method_41_code 76 (.iastore) 1 77 := ⟨by decide +kernel, rfl⟩
theorem d_X12_light_77 : DD prog_14_method_41_code 77 (.aload_n 0) 1 78 := ⟨by decide +kernel, rfl⟩
theorem d_X12_light_78 : DD prog_14_method_41_code 78 (.getfield 7) 3 81 := ⟨by decide +kernel, rfl⟩
theorem d_X12_light_81 : DD prog_14_method_41_code 81 (.sipush 183) 3 84 := ⟨by decide +kernel, rfl⟩
theorem d_X12_light_84 : DD prog_14_method_41_code 84 (.iconst 4) 1 85 := ⟨by decide +kernel, rfl⟩
theorem d_X12_light_85 : DD prog_14_method_41_code 85 (.iload 5) 2 87 := ⟨by decide +kernel, rfl⟩
theorem d_X12_light_87 : DD prog_14_method_41_code 87 (.imul) 1 88 := ⟨by decide +kernel, rfl⟩
theorem d_X12_light_88 : DD prog_14_method_41_code 88 (.iadd) 1 89 := ⟨by decide +kernel, rfl⟩
theorem d_X12_light_89 : DD prog_14_method_41_code 89 (.iconst 1) 1 90 := ⟨by decide +kernel, rfl⟩
theorem d_X12_light_90 : DD prog_14_method_41_code 90 (.iadd) 1 91 := ⟨by decide +kernel, rfl⟩
theorem d_X12_light_91 : DD prog_14_method_41_code 91 (.iload_n 2) 1 92 := ⟨by decide +kernel, rfl⟩
theorem d_X12_light_92 : DD prog_14_method_41_code 92 (.iastore) 1 93 := ⟨by decide +kernel, rfl⟩
theorem d_X12_light_93 : DD prog_14_method_41_code 93 (.aload_n 0) 1 94 := ⟨by decide +kernel, rfl⟩
theorem d_X12_light_94 : DD prog_14_method_41_code 94 (.getfield 7) 3 97 := ⟨by decide +kernel, rfl⟩
theorem d_X12_light_97 : DD prog_14_method_41_code 97 (.sipush 183) 3 100 := ⟨by decide +kernel, rfl⟩
theorem d_X12_light_100 : DD prog_14_method_41_code 100 (.iconst 4) 1 101 := ⟨by decide +kernel, rfl⟩
theorem d_X12_light_101 : DD prog_14_method_41_code 101 (.iload 5) 2 103 := ⟨by decide +kernel, rfl⟩
theorem d_X12_light_103 : DD prog_14_method_41_code 103 (.imul) 1 104 := ⟨by decide +kernel, rfl⟩
theorem d_X12_light_104 : DD prog_14_method_41_code 104 (.iadd) 1 105 := ⟨by decide +kernel, rfl⟩
theorem d_X12_light_105 : DD prog_14_method_41_code 105 (.iconst 2) 1 106 := ⟨by decide +kernel, rfl⟩
theorem d_X12_light_106 : DD prog_14_method_41_code 106 (.iadd) 1 107 := ⟨by decide +kernel, rfl⟩
theorem d_X12_light_107 : DD prog_14_method_41_code 107 (.iload_n 3) 1 108 := ⟨by decide +kernel, rfl⟩
theorem d_X12_light_108 : DD prog_14_method_41_code 108 (.iastore) 1 109 := ⟨by decide +kernel, rfl⟩
theorem d_X12_light_109 : DD prog_14_method_41_code 109 (.aload_n 0) 1 110 := ⟨by decide +kernel, rfl⟩
theorem d_X12_light_110 : DD prog_14_method_41_code 110 (.getfield 7) 3 113 := ⟨by decide +kernel, rfl⟩
theorem d_X12_light_113 : DD prog_14_method_41_code 113 (.sipush 183) 3 116 := ⟨by decide +kernel, rfl⟩
theorem d_X12_light_116 : DD prog_14_method_41_code 116 (.iconst 4) 1 117 := ⟨by decide +kernel, rfl⟩
theorem d_X12_light_117 : DD prog_14_method_41_code 117 (.iload 5) 2 119 := ⟨by decide +kernel, rfl⟩
theorem d_X12_light_119 : DD prog_14_method_41_code 119 (.imul) 1 120 := ⟨by decide +kernel, rfl⟩
theorem d_X12_light_120 : DD prog_14_method_41_code 120 (.iadd) 1 121 := ⟨by decide +kernel, rfl⟩
theorem d_X12_light_121 : DD prog_14_method_41_code 121 (.iconst 3) 1 122 := ⟨by decide +kernel, rfl⟩
theorem d_X12_light_122 : DD prog_14_method_41_code 122 (.iadd) 1 123 := ⟨by decide +kernel, rfl⟩
theorem d_X12_light_123 : DD prog_14_method_41_code 123 (.iload 4) 2 125 := ⟨by decide +kernel, rfl⟩
theorem d_X12_light_125 : DD prog_14_method_41_code 125 (.iastore) 1 126 := ⟨by decide +kernel, rfl⟩
theorem d_X12_light_126 : DD prog_14_method_41_code 126 (.aload_n 0) 1 127 := ⟨by decide +kernel, rfl⟩
theorem d_X12_light_127 : DD prog_14_method_41_code 127 (.getfield 7) 3 130 := ⟨by decide +kernel, rfl⟩
theorem d_X12_light_130 : DD prog_14_method_41_code 130 (.sipush 207) 3 133 := ⟨by decide +kernel, rfl⟩
theorem d_X12_light_133 : DD prog_14_method_41_code 133 (.dup2) 1 134 := ⟨by decide +kernel, rfl⟩
theorem d_X12_light_134 : DD prog_14_method_41_code 134 (.iaload) 1 135 := ⟨by decide +kernel, rfl⟩
theorem d_X12_light_135 : DD prog_14_method_41_code 135 (.iconst 1) 1 136 := ⟨by decide +kernel, rfl⟩
theorem d_X12_light_136 : DD prog_14_method_41_code 136 (.iadd) 1 137 := ⟨by decide +kernel, rfl⟩
theorem d_X12_light_137 : DD prog_14_method_41_code 137 (.iastore) 1 138 := ⟨by decide +kernel, rfl⟩
theorem d_X12_light_138 : DD prog_14_method_41_code 138 (.iload 5) 2 140 := ⟨by decide +kernel, rfl⟩
theorem d_X12_light_140 : DD prog_14_method_41_code 140 (.iconst 1) 1 141 := ⟨by decide +kernel, rfl⟩
theorem d_X12_light_141 : DD prog_14_method_41_code 141 (.iadd) 1 142 := ⟨by decide +kernel, rfl⟩
theorem d_X12_light_142 : DD prog_14_method_41_code 142 (.ireturn) 1 143 := ⟨by decide +kernel, rfl⟩
theorem d_X12_quench_0 : DD prog_14_method_42_code 0 (.iload_n 1) 1 1 := ⟨by decide +kernel, rfl⟩
theorem d_X12_quench_1 : DD prog_14_method_42_code 1 (.i2l) 1 2 := ⟨by decide +kernel, rfl⟩
theorem d_X12_quench_2 : DD prog_14_method_42_code 2 (.lconst 0) 1 3 := ⟨by decide +kernel, rfl⟩
theorem d_X12_quench_3 : DD prog_14_method_42_code 3 (.aload_n 0) 1 4 := ⟨by decide +kernel, rfl⟩
theorem d_X12_quench_4 : DD prog_14_method_42_code 4 (.getfield 7) 3 7 := ⟨by decide +kernel, rfl⟩
theorem d_X12_quench_7 : DD prog_14_method_42_code 7 (.sipush 207) 3 10 := ⟨by decide +kernel, rfl⟩
theorem d_X12_quench_10 : DD prog_14_method_42_code 10 (.iaload) 1 11 := ⟨by decide +kernel, rfl⟩
theorem d_X12_quench_11 : DD prog_14_method_42_code 11 (.iconst 1) 1 12 := ⟨by decide +kernel, rfl⟩
theorem d_X12_quench_12 : DD prog_14_method_42_code 12 (.isub) 1 13 := ⟨by decide +kernel, rfl⟩
theorem d_X12_quench_13 : DD prog_14_method_42_code 13 (.i2l) 1 14 := ⟨by decide +kernel, rfl⟩
theorem d_X12_quench_14 : DD prog_14_method_42_code 14 (.invokestatic 75) 3 17 := ⟨by decide +kernel, rfl⟩
theorem d_X12_quench_17 : DJ prog_14_method_42_code 17 (fun o => .ifCond .ne o) 22 3 20 := ⟨by decide +kernel, rfl⟩
theorem d_X12_quench_20 : DD prog_14_method_42_code 20 (.iconst (-1)) 1 21 := ⟨by decide +kernel, rfl⟩
theorem d_X12_quench_21 : DD prog_14_method_42_code 21 (.ireturn) 1 22 := ⟨by decide +kernel, rfl⟩
theorem d_X12_quench_22 : DD prog_14_method_42_code 22 (.aload_n 0) 1 23 := ⟨by decide +kernel, rfl⟩
theorem d_X12_quench_23 : DD prog_14_method_42_code 23 (.getfield 7) 3 26 := ⟨by decide +kernel, rfl⟩
theorem d_X12_quench_26 : DD prog_14_method_42_code 26 (.sipush 207) 3 29 := ⟨by decide +kernel, rfl⟩
theorem d_X12_quench_29 : DD prog_14_method_42_code 29 (.dup2) 1 30 := ⟨by decide +kernel, rfl⟩
theorem d_X12_quench_30 : DD prog_14_method_42_code 30 (.iaload) 1 31 := ⟨by decide +kernel, rfl⟩
theorem d_X12_quench_31 : DD prog_14_method_42_code 31 (.iconst 1) 1 32 := ⟨by decide +kernel, rfl⟩
theorem d_X12_quench_32 : DD prog_14_method_42_code 32 (.isub) 1 33 := ⟨by decide +kernel, rfl⟩
theorem d_X12_quench_33 : DD prog_14_method_42_code 33 (.iastore) 1 34 := ⟨by decide +kernel, rfl⟩
theorem d_X12_quench_34 : DD prog_14_method_42_code 34 (.iconst 4) 1 35 := ⟨by decide +kernel, rfl⟩
theorem d_X12_quench_35 : DD prog_14_method_42_code 35 (.iload_n 1) 1 36 := ⟨by decide +kernel, rfl⟩
theorem d_X12_quench_36 : DD prog_14_method_42_code 36 (.imul) 1 37 := ⟨by decide +kernel, rfl⟩
theorem d_X12_quench_37 : DD prog_14_method_42_code 37 (.istore_n 2) 1 38 := ⟨by decide +kernel, rfl⟩
theorem d_X12_quench_38 : DD prog_14_method_42_code 38 (.iload_n 2) 1 39 := ⟨by decide +kernel, rfl⟩
theorem d_X12_quench_39 : DD prog_14_method_42_code 39 (.iconst 4) 1 40 := ⟨by decide +kernel, rfl⟩
theorem d_X12_quench_40 : DD prog_14_method_42_code 40 (.aload_n 0) 1 41 := ⟨by decide +kernel, rfl⟩
theorem d_X12_quench_41 : DD prog_14_method_42_code 41 (.getfield 7) 3 44 := ⟨by decide +kernel, rfl⟩
theorem d_X12_quench_44 : DD prog_14_method_42_code 44 (.sipush 207) 3 47 := ⟨by decide +kernel, rfl⟩
theorem d_X12_quench_47 : DD prog_14_method_42_code 47 (.iaload) 1 48 := ⟨by decide +kernel, rfl⟩
theorem d_X12_quench_48 : DD prog_14_method_42_code 48 (.imul) 1 49 := ⟨by decide +kernel, rfl⟩
theorem d_X12_quench_49 : DJ prog_14_method_42_code 49 (fun o => .if_icmp .ge o) 80 3 52 := ⟨by decide +kernel, rfl⟩
theorem d_X12_quench_52 : DD prog_14_method_42_code 52 (.aload_n 0) 1 53 := ⟨by decide +kernel, rfl⟩
theorem d_X12_quench_53 : DD prog_14_method_42_code 53 (.getfield 7) 3 56 := ⟨by decide +kernel, rfl⟩
theorem d_X12_quench_56 : DD prog_14_method_42_code 56 (.sipush 183) 3 59 := ⟨by decide +kernel, rfl⟩
theorem d_X12_quench_59 : DD prog_14_method_42_code 59 (.iload_n 2) 1 60 := ⟨by decide +kernel, rfl⟩
theorem d_X12_quench_60 : DD prog_14_method_42_code 60 (.iadd) 1 61 := ⟨by decide +kernel, rfl⟩
theorem d_X12_quench_61 : DD prog_14_method_42_code 61 (.aload_n 0) 1 62 := ⟨by decide +kernel, rfl⟩
theorem d_X12_quench_62 : DD prog_14_method_42_code 62 (.getfield 7) 3 65 := ⟨by decide +kernel, rfl⟩
theorem d_X12_quench_65 : DD prog_14_method_42_code 65 (.sipush 183) 3 68 := ⟨by decide +kernel, rfl⟩
theorem d_X12_quench_68 : DD prog_14_method_42_code 68 (.iload_n 2) 1 69 := ⟨by decide +kernel, rfl⟩
theorem d_X12_quench_69 : DD prog_14_method_42_code 69 (.iadd) 1 70 := ⟨by decide +kernel, rfl⟩
theorem d_X12_quench_70 : DD prog_14_method_42_code 70 (.iconst 4) 1 71 := ⟨by decide +kernel, rfl⟩
theorem d_X12_quench_71 : DD prog_14_method_42_code 71 (.iadd) 1 72 := ⟨by decide +kernel, rfl⟩
theorem d_X12_quench_72 : DD prog_14_method_42_code 72 (.iaload) 1 73 := ⟨by decide +kernel, rfl⟩
theorem d_X12_quench_73 : DD prog_14_method_42_code 73 (.iastore) 1 74 := ⟨by decide +kernel, rfl⟩
theorem d_X12_quench_74 : DD prog_14_method_42_code 74 (.iinc 2 1) 3 77 := ⟨by decide +kernel, rfl⟩
theorem d_X12_quench_77 : DJ prog_14_method_42_code 77 (fun o => .goto o) 38 3 80 := ⟨by decide +kernel, rfl⟩
theorem d_X12_quench_80 : DD prog_14_method_42_code 80 (.aload_n 0) 1 81 := ⟨by decide +kernel, rfl⟩
theorem d_X12_quench_81 : DD prog_14_method_42_code 81 (.getfield 7) 3 84 := ⟨by decide +kernel, rfl⟩
theorem d_X12_quench_84 : DD prog_14_method_42_code 84 (.sipush 207) 3 87 := ⟨by decide +kernel, rfl⟩
theorem d_X12_quench_87 : DD prog_14_method_42_code 87 (.iaload) 1 88 := ⟨by decide +kernel, rfl⟩
theorem d_X12_quench_88 : DD prog_14_method_42_code 88 (.ireturn) 1 89 := ⟨by decide +kernel, rfl⟩
theorem d_X12_mend_0 : DD prog_14_method_43_code 0 (.iload_n 1) 1 1 := ⟨by decide +kernel, rfl⟩
theorem d_X12_mend_1 : DD prog_14_method_43_code 1 (.invokestatic 210) 3 4 := ⟨by decide +kernel, rfl⟩
theorem d_X12_mend_4 : DJ prog_14_method_43_code 4 (fun o => .ifCond .eq o) 27 3 7 := ⟨by decide +kernel, rfl⟩
theorem d_X12_mend_7 : DD prog_14_method_43_code 7 (.aload_n 0) 1 8 := ⟨by decide +kernel, rfl⟩
theorem d_X12_mend_8 : DD prog_14_method_43_code 8 (.iload_n 2) 1 9 := ⟨by decide +kernel, rfl⟩
theorem d_X12_mend_9 : DD prog_14_method_43_code 9 (.invokevirtual 201) 3 12 := ⟨by decide +kernel, rfl⟩
theorem d_X12_mend_12 : DJ prog_14_method_43_code 12 (fun o => .ifCond .eq o) 27 3 15 := ⟨by decide +kernel, rfl⟩
theorem d_X12_mend_15 : DD prog_14_method_43_code 15 (.iload_n 3) 1 16 := ⟨by decide +kernel, rfl⟩
theorem d_X12_mend_16 : DD prog_14_method_43_code 16 (.i2l) 1 17 := ⟨by decide +kernel, rfl⟩
theorem d_X12_mend_17 : DD prog_14_method_43_code 17 (.lconst 0) 1 18 := ⟨by decide +kernel, rfl⟩
theorem d_X12_mend_18 : DD prog_14_method_43_code 18 (.ldc2_w 223) 3 21 := ⟨by decide +kernel, rfl⟩
theorem d_X12_mend_21 : DD prog_14_method_43_code 21 (.invokestatic 75) 3 24 := ⟨by decide +kernel, rfl⟩
theorem d_X12_mend_24 : DJ prog_14_method_43_code 24 (fun o => .ifCond .ne o) 29 3 27 := ⟨by decide +kernel, rfl⟩
theorem d_X12_mend_27 : DD prog_14_method_43_code 27 (.iconst (-1)) 1 28 := ⟨by decide +kernel, rfl⟩
theorem d_X12_mend_28 : DD prog_14_method_43_code 28 (.ireturn) 1 29 := ⟨by decide +kernel, rfl⟩
theorem d_X12_mend_29 : DD prog_14_method_43_code 29 (.aload_n 0) 1 30 := ⟨by decide +kernel, rfl⟩
theorem d_X12_mend_30 : DD prog_14_method_43_code 30 (.iconst 0) 1 31 := ⟨by decide +kernel, rfl⟩
theorem d_X12_mend_31 : DD prog_14_method_43_code 31 (.iload_n 1) 1 32 := ⟨by decide +kernel, rfl⟩
theorem d_X12_mend_32 : DD prog_14_method_43_code 32 (.iload_n 2) 1 33 := ⟨by decide +kernel, rfl⟩
theorem d_X12_mend_33 : DD prog_14_method_43_code 33 (.invokevirtual 215) 3 36 := ⟨by decide +kernel, rfl⟩
theorem d_X12_mend_36 : DJ prog_14_method_43_code 36 (fun o => .ifCond .ne o) 42 3 39 := ⟨by decide +kernel, rfl⟩
theorem d_X12_mend_39 : DD prog_14_method_43_code 39 (.bipush (-4)) 2 41 := ⟨by decide +kernel, rfl⟩
theorem d_X12_mend_41 : DD prog_14_method_43_code 41 (.ireturn) 1 42 := ⟨by decide +kernel, rfl⟩
theorem d_X12_mend_42 : DD prog_14_method_43_code 42 (.aload_n 0) 1 43 := ⟨by decide +kernel, rfl⟩
theorem d_X12_mend_43 : DD prog_14_method_43_code 43 (.getfield 7) 3 46 := ⟨by decide +kernel, rfl⟩
theorem d_X12_mend_46 : DD prog_14_method_43_code 46 (.sipush 140) 3 49 := ⟨by decide +kernel, rfl⟩
theorem d_X12_mend_49 : DD prog_14_method_43_code 49 (.iload_n 2) 1 50 := ⟨by decide +kernel, rfl⟩
theorem d_X12_mend_50 : DD prog_14_method_43_code 50 (.iadd) 1 51 := ⟨by decide +kernel, rfl⟩
theorem d_X12_mend_51 : DD prog_14_method_43_code 51 (.iaload) 1 52 := ⟨by decide +kernel, rfl⟩
theorem d_X12_mend_52 : DD prog_14_method_43_code 52 (.iload_n 3) 1 53 := ⟨by decide +kernel, rfl⟩
theorem d_X12_mend_53 : DJ prog_14_method_43_code 53 (fun o => .if_icmp .ge o) 59 3 56 := ⟨by decide +kernel, rfl⟩
theorem d_X12_mend_56 : DD prog_14_method_43_code 56 (.bipush (-2)) 2 58 := ⟨by decide +kernel, rfl⟩
theorem d_X12_mend_58 : DD prog_14_method_43_code 58 (.ireturn) 1 59 := ⟨by decide +kernel, rfl⟩
theorem d_X12_mend_59 : DD prog_14_method_43_code 59 (.iload_n 1) 1 60 := ⟨by decide +kernel, rfl⟩
theorem d_X12_mend_60 : DD prog_14_method_43_code 60 (.iload_n 2) 1 61 := ⟨by decide +kernel, rfl⟩
theorem d_X12_mend_61 : DD prog_14_method_43_code 61 (.invokestatic 198) 3 64 := ⟨by decide +kernel, rfl⟩
theorem d_X12_mend_64 : DD prog_14_method_43_code 64 (.iconst 4) 1 65 := ⟨by decide +kernel, rfl⟩
theorem d_X12_mend_65 : DD prog_14_method_43_code 65 (.iadd) 1 66 := ⟨by decide +kernel, rfl⟩
theorem d_X12_mend_66 : DD prog_14_method_43_code 66 (.istore 4) 2 68 := ⟨by decide +kernel, rfl⟩
theorem d_X12_mend_68 : DD prog_14_method_43_code 68 (.aload_n 0) 1 69 := ⟨by decide +kernel, rfl⟩
theorem d_X12_mend_69 : DD prog_14_method_43_code 69 (.getfield 7) 3 72 := ⟨by decide +kernel, rfl⟩
theorem d_X12_mend_72 : DD prog_14_method_43_code 72 (.iload 4) 2 74 := ⟨by decide +kernel, rfl⟩
theorem d_X12_mend_74 : DD prog_14_method_43_code 74 (.iaload) 1 75 := ⟨by decide +kernel, rfl⟩
theorem d_X12_mend_75 : DD prog_14_method_43_code 75 (.iload_n 3) 1 76 := ⟨by decide +kernel, rfl⟩
theorem d_X12_mend_76 : DD prog_14_method_43_code 76 (.iadd) 1 77 := ⟨by decide +kernel, rfl⟩
theorem d_X12_mend_77 : DD prog_14_method_43_code 77 (.bipush 99) 2 79 := ⟨by decide +kernel, rfl⟩
theorem d_X12_mend_79 : DJ prog_14_method_43_code 79 (fun o => .if_icmp .le o) 85 3 82 := ⟨by decide +kernel, rfl⟩
theorem d_X12_mend_82 : DD prog_14_method_43_code 82 (.bipush (-3)) 2 84 := ⟨by decide +kernel, rfl⟩
theorem d_X12_mend_84 : DD prog_14_method_43_code 84 (.ireturn) 1 85 := ⟨by decide +kernel, rfl⟩
theorem d_X12_mend_85 : DD prog_14_method_43_code 85 (.aload_n 0) 1 86 := ⟨by decide +kernel, rfl⟩
theorem d_X12_mend_86 : DD prog_14_method_43_code 86 (.getfield 7) 3 89 := ⟨by decide +kernel, rfl⟩
theorem d_X12_mend_89 : DD prog_14_method_43_code 89 (.iload 4) 2 91 := ⟨by decide +kernel, rfl⟩
theorem d_X12_mend_91 : DD prog_14_method_43_code 91 (.dup2) 1 92 := ⟨by decide +kernel, rfl⟩
theorem d_X12_mend_92 : DD prog_14_method_43_code 92 (.iaload) 1 93 := ⟨by decide +kernel, rfl⟩
theorem d_X12_mend_93 : DD prog_14_method_43_code 93 (.iload_n 3) 1 94 := ⟨by decide +kernel, rfl⟩
theorem d_X12_mend_94 : DD prog_14_method_43_code 94 (.iadd) 1 95 := ⟨by decide +kernel, rfl⟩
theorem d_X12_mend_95 : DD prog_14_method_43_code 95 (.iastore) 1 96 := ⟨by decide +kernel, rfl⟩
theorem d_X12_mend_96 : DD prog_14_method_43_code 96 (.aload_n 0) 1 97 := ⟨by decide +kernel, rfl⟩
theorem d_X12_mend_97 : DD prog_14_method_43_code 97 (.getfield 7) 3 100 := ⟨by decide +kernel, rfl⟩
theorem d_X12_mend_100 : DD prog_14_method_43_code 100 (.sipush 140) 3 103 := ⟨by decide +kernel, rfl⟩
theorem d_X12_mend_103 : DD prog_14_method_43_code 103 (.iload_n 2) 1 104 := ⟨by decide +kernel, rfl⟩
theorem d_X12_mend_104 : DD prog_14_method_43_code 104 (.iadd) 1 105 := ⟨by decide +kernel, rfl⟩
theorem d_X12_mend_105 : DD prog_14_method_43_code 105 (.dup2) 1 106 := ⟨by decide +kernel, rfl⟩
theorem d_X12_mend_106 : DD prog_14_method_43_code 106 (.iaload) 1 107 := ⟨by decide +kernel, rfl⟩
theorem d_X12_mend_107 : DD prog_14_method_43_code 107 (.iload_n 3) 1 108 := ⟨by decide +kernel, rfl⟩
theorem d_X12_mend_108 : DD prog_14_method_43_code 108 (.isub) 1 109 := ⟨by decide +kernel, rfl⟩
theorem d_X12_mend_109 : DD prog_14_method_43_code 109 (.iastore) 1 110 := ⟨by decide +kernel, rfl⟩
theorem d_X12_mend_110 : DD prog_14_method_43_code 110 (.aload_n 0) 1 111 := ⟨by decide +kernel, rfl⟩
theorem d_X12_mend_111 : DD prog_14_method_43_code 111 (.getfield 7) 3 114 := ⟨by decide +kernel, rfl⟩
theorem d_X12_mend_114 : DD prog_14_method_43_code 114 (.iload 4) 2 116 := ⟨by decide +kernel, rfl⟩
theorem d_X12_mend_116 : DD prog_14_method_43_code 116 (.iaload) 1 117 := ⟨by decide +kernel, rfl⟩
theorem d_X12_mend_117 : DD prog_14_method_43_code 117 (.ireturn) 1 118 := ⟨by decide +kernel, rfl⟩
theorem d_X12_carry_0 : DD prog_14_method_44_code 0 (.aload_n 0) 1 1 := ⟨by decide +kernel, rfl⟩
theorem d_X12_carry_1 : DD prog_14_method_44_code 1 (.iload_n 1) 1 2 := ⟨by decide +kernel, rfl⟩
theorem d_X12_carry_2 : DD prog_14_method_44_code 2 (.invokevirtual 201) 3 5 := ⟨by decide +kernel, rfl⟩
theorem d_X12_carry_5 : DJ prog_14_method_44_code 5 (fun o => .ifCond .eq o) 34 3 8 := ⟨by decide +kernel, rfl⟩
theorem d_X12_carry_8 : DD prog_14_method_44_code 8 (.aload_n 0) 1 9 := ⟨by decide +kernel, rfl⟩
theorem d_X12_carry_9 : DD prog_14_method_44_code 9 (.iload_n 2) 1 10 := ⟨by decide +kernel, rfl⟩
theorem d_X12_carry_10 : DD prog_14_method_44_code 10 (.invokevirtual 201) 3 13 := ⟨by decide +kernel, rfl⟩
theorem d_X12_carry_13 : DJ prog_14_method_44_code 13 (fun o => .ifCond .eq o) 34 3 16 := ⟨by decide +kernel, rfl⟩
theorem d_X12_carry_16 : DD prog_14_method_44_code 16 (.iload_n 1) 1 17 := ⟨by decide +kernel, rfl⟩
theorem d_X12_carry_17 : DD prog_14_method_44_code 17 (.iload_n 2) 1 18 := ⟨by decide +kernel, rfl⟩
theorem d_X12_carry_18 : DD prog_14_method_44_code 18 (.isub) 1 19 := ⟨by decide +kernel, rfl⟩
theorem d_X12_carry_19 : DD prog_14_method_44_code 19 (.iconst 1) 1 20 := ⟨by decide +kernel, rfl⟩
theorem d_X12_carry_20 : DJ prog_14_method_44_code 20 (fun o => .if_icmp .eq o) 30 3 23 := ⟨by decide +kernel, rfl⟩
theorem d_X12_carry_23 : DD prog_14_method_44_code 23 (.iload_n 2) 1 24 := ⟨by decide +kernel, rfl⟩
theorem d_X12_carry_24 : DD prog_14_method_44_code 24 (.iload_n 1) 1 25 := ⟨by decide +kernel, rfl⟩
theorem d_X12_carry_25 : DD prog_14_method_44_code 25 (.isub) 1 26 := ⟨by decide +kernel, rfl⟩
theorem d_X12_carry_26 : DD prog_14_method_44_code 26 (.iconst 1) 1 27 := ⟨by decide +kernel, rfl⟩
theorem d_X12_carry_27 : DJ prog_14_method_44_code 27 (fun o => .if_icmp .ne o) 34 3 30 := ⟨by decide +kernel, rfl⟩
theorem d_X12_carry_30 : DD prog_14_method_44_code 30 (.iload_n 3) 1 31 := ⟨by decide +kernel, rfl⟩
theorem d_X12_carry_31 : DJ prog_14_method_44_code 31 (fun o => .ifCond .ge o) 36 3 34 := ⟨by decide +kernel, rfl⟩
theorem d_X12_carry_34 : DD prog_14_method_44_code 34 (.iconst (-1)) 1 35 := ⟨by decide +kernel, rfl⟩
theorem d_X12_carry_35 : DD prog_14_method_44_code 35 (.ireturn) 1 36 := ⟨by decide +kernel, rfl⟩
theorem d_X12_carry_36 : DD prog_14_method_44_code 36 (.aload_n 0) 1 37 := ⟨by decide +kernel, rfl⟩
theorem d_X12_carry_37 : DD prog_14_method_44_code 37 (.getfield 7) 3 40 := ⟨by decide +kernel, rfl⟩
theorem d_X12_carry_40 : DD prog_14_method_44_code 40 (.sipush 140) 3 43 := ⟨by decide +kernel, rfl⟩
theorem d_X12_carry_43 : DD prog_14_method_44_code 43 (.iload_n 1) 1 44 := ⟨by decide +kernel, rfl⟩
theorem d_X12_carry_44 : DD prog_14_method_44_code 44 (.iadd) 1 45 := ⟨by decide +kernel, rfl⟩
theorem d_X12_carry_45 : DD prog_14_method_44_code 45 (.iaload) 1 46 := ⟨by decide +kernel, rfl⟩
theorem d_X12_carry_46 : DD prog_14_method_44_code 46 (.iload_n 3) 1 47 := ⟨by decide +kernel, rfl⟩
theorem d_X12_carry_47 : DJ prog_14_method_44_code 47 (fun o => .if_icmp .ge o) 53 3 50 := ⟨by decide +kernel, rfl⟩
theorem d_X12_carry_50 : DD prog_14_method_44_code 50 (.bipush (-2)) 2 52 := ⟨by decide +kernel, rfl⟩
theorem d_X12_carry_52 : DD prog_14_method_44_code 52 (.ireturn) 1 53 := ⟨by decide +kernel, rfl⟩
theorem d_X12_carry_53 : DD prog_14_method_44_code 53 (.aload_n 0) 1 54 := ⟨by decide +kernel, rfl⟩
theorem d_X12_carry_54 : DD prog_14_method_44_code 54 (.getfield 7) 3 57 := ⟨by decide +kernel, rfl⟩
theorem d_X12_carry_57 : DD prog_14_method_44_code 57 (.sipush 140) 3 60 := ⟨by decide +kernel, rfl⟩
theorem d_X12_carry_60 : DD prog_14_method_44_code 60 (.iload_n 1) 1 61 := ⟨by decide +kernel, rfl⟩
theorem d_X12_carry_61 : DD prog_14_method_44_code 61 (.iadd) 1 62 := ⟨by decide +kernel, rfl⟩
theorem d_X12_carry_62 : DD prog_14_method_44_code 62 (.dup2) 1 63 := ⟨by decide +kernel, rfl⟩
theorem d_X12_carry_63 : DD prog_14_method_44_code 63 (.iaload) 1 64 := ⟨by decide +kernel, rfl⟩
theorem d_X12_carry_64 : DD prog_14_method_44_code 64 (.iload_n 3) 1 65 := ⟨by decide +kernel, rfl⟩
theorem d_X12_carry_65 : DD prog_14_method_44_code 65 (.isub) 1 66 := ⟨by decide +kernel, rfl⟩
theorem d_X12_carry_66 : DD prog_14_method_44_code 66 (.iastore) 1 67 := ⟨by decide +kernel, rfl⟩
theorem d_X12_carry_67 : DD prog_14_method_44_code 67 (.aload_n 0) 1 68 := ⟨by decide +kernel, rfl⟩
theorem d_X12_carry_68 : DD prog_14_method_44_code 68 (.getfield 7) 3 71 := ⟨by decide +kernel, rfl⟩
theorem d_X12_carry_71 : DD prog_14_method_44_code 71 (.sipush 140) 3 74 := ⟨by decide +kernel, rfl⟩
theorem d_X12_carry_74 : DD prog_14_method_44_code 74 (.iload_n 2) 1 75 := ⟨by decide +kernel, rfl⟩
theorem d_X12_carry_75 : DD prog_14_method_44_code 75 (.iadd) 1 76 := ⟨by decide +kernel, rfl⟩
theorem d_X12_carry_76 : DD prog_14_method_44_code 76 (.dup2) 1 77 := ⟨by decide +kernel, rfl⟩
theorem d_X12_carry_77 : DD prog_14_method_44_code 77 (.iaload) 1 78 := ⟨by decide +kernel, rfl⟩
theorem d_X12_carry_78 : DD prog_14_method_44_code 78 (.iload_n 3) 1 79 := ⟨by decide +kernel, rfl⟩
theorem d_X12_carry_79 : DD prog_14_method_44_code 79 (.iadd) 1 80 := ⟨by decide +kernel, rfl⟩
theorem d_X12_carry_80 : DD prog_14_method_44_code 80 (.iastore) 1 81 := ⟨by decide +kernel, rfl⟩
theorem d_X12_carry_81 : DD prog_14_method_44_code 81 (.aload_n 0) 1 82 := ⟨by decide +kernel, rfl⟩
theorem d_X12_carry_82 : DD prog_14_method_44_code 82 (.getfield 7) 3 85 := ⟨by decide +kernel, rfl⟩
theorem d_X12_carry_85 : DD prog_14_method_44_code 85 (.sipush 140) 3 88 := ⟨by decide +kernel, rfl⟩
theorem d_X12_carry_88 : DD prog_14_method_44_code 88 (.iload_n 2) 1 89 := ⟨by decide +kernel, rfl⟩
theorem d_X12_carry_89 : DD prog_14_method_44_code 89 (.iadd) 1 90 := ⟨by decide +kernel, rfl⟩
theorem d_X12_carry_90 : DD prog_14_method_44_code 90 (.iaload) 1 91 := ⟨by decide +kernel, rfl⟩
theorem d_X12_carry_91 : DD prog_14_method_44_code 91 (.ireturn) 1 92 := ⟨by decide +kernel, rfl⟩
theorem d_X12_warms_0 : DD prog_14_method_45_code 0 (.iload_n 1) 1 1 := ⟨by decide +kernel, rfl⟩
theorem d_X12_warms_1 : DD prog_14_method_45_code 1 (.iload_n 2) 1 2 := ⟨by decide +kernel, rfl⟩
theorem d_X12_warms_2 : DJ prog_14_method_45_code 2 (fun o => .if_icmp .ge o) 11 3 5 := ⟨by decide +kernel, rfl⟩
theorem d_X12_warms_5 : DD prog_14_method_45_code 5 (.iload_n 2) 1 6 := ⟨by decide +kernel, rfl⟩
theorem d_X12_warms_6 : DD prog_14_method_45_code 6 (.iload_n 1) 1 7 := ⟨by decide +kernel, rfl⟩
theorem d_X12_warms_7 : DD prog_14_method_45_code 7 (.isub) 1 8 := ⟨by decide +kernel, rfl⟩
theorem d_X12_warms_8 : DJ prog_14_method_45_code 8 (fun o => .goto o) 14 3 11 := ⟨by decide +kernel, rfl⟩
theorem d_X12_warms_11 : DD prog_14_method_45_code 11 (.iload_n 1) 1 12 := ⟨by decide +kernel, rfl⟩
theorem d_X12_warms_12 : DD prog_14_method_45_code 12 (.iload_n 2) 1 13 := ⟨by decide +kernel, rfl⟩
theorem d_X12_warms_13 : DD prog_14_method_45_code 13 (.isub) 1 14 := ⟨by decide +kernel, rfl⟩
theorem d_X12_warms_14 : DD prog_14_method_45_code 14 (.istore_n 3) 1 15 := ⟨by decide +kernel, rfl⟩
theorem d_X12_warms_15 : DD prog_14_method_45_code 15 (.iload_n 0) 1 16 := ⟨by decide +kernel, rfl⟩
theorem d_X12_warms_16 : DD prog_14_method_45_code 16 (.iconst 4) 1 17 := ⟨by decide +kernel, rfl⟩
theorem d_X12_warms_17 : DD prog_14_method_45_code 17 (.iload_n 3) 1 18 := ⟨by decide +kernel, rfl⟩
theorem d_X12_warms_18 : DD prog_14_method_45_code 18 (.imul) 1 19 := ⟨by decide +kernel, rfl⟩
theorem d_X12_warms_19 : DJ prog_14_method_45_code 19 (fun o => .if_icmp .le o) 30 3 22 := ⟨by decide +kernel, rfl⟩
theorem d_X12_warms_22 : DD prog_14_method_45_code 22 (.iload_n 0) 1 23 := ⟨by decide +kernel, rfl⟩
theorem d_X12_warms_23 : DD prog_14_method_45_code 23 (.iconst 4) 1 24 := ⟨by decide +kernel, rfl⟩
theorem d_X12_warms_24 : DD prog_14_method_45_code 24 (.iload_n 3) 1 25 := ⟨by decide +kernel, rfl⟩
theorem d_X12_warms_25 : DD prog_14_method_45_code 25 (.imul) 1 26 := ⟨by decide +kernel, rfl⟩
theorem d_X12_warms_26 : DD prog_14_method_45_code 26 (.isub) 1 27 := ⟨by decide +kernel, rfl⟩
theorem d_X12_warms_27 : DJ prog_14_method_45_code 27 (fun o => .goto o) 31 3 30 := ⟨by decide +kernel, rfl⟩
theorem d_X12_warms_30 : DD prog_14_method_45_code 30 (.iconst 0) 1 31 := ⟨by decide +kernel, rfl⟩
theorem d_X12_warms_31 : DD prog_14_method_45_code 31 (.ireturn) 1 32 := ⟨by decide +kernel, rfl⟩
theorem d_X12_fires_0 : DD prog_14_method_46_code 0 (.iconst 0) 1 1 := ⟨by decide +kernel, rfl⟩
theorem d_X12_fires_1 : DD prog_14_method_46_code 1 (.istore_n 3) 1 2 := ⟨by decide +kernel, rfl⟩
theorem d_X12_fires_2 : DD prog_14_method_46_code 2 (.iconst 0) 1 3 := ⟨by decide +kernel, rfl⟩
theorem d_X12_fires_3 : DD prog_14_method_46_code 3 (.istore 4) 2 5 := ⟨by decide +kernel, rfl⟩
theorem d_X12_fires_5 : DD prog_14_method_46_code 5 (.iload 4) 2 7 := ⟨by decide +kernel, rfl⟩
theorem d_X12_fires_7 : DD prog_14_method_46_code 7 (.aload_n 0) 1 8 := ⟨by decide +kernel, rfl⟩
theorem d_X12_fires_8 : DD prog_14_method_46_code 8 (.getfield 7) 3 11 := ⟨by decide +kernel, rfl⟩
theorem d_X12_fires_11 : DD prog_14_method_46_code 11 (.sipush 207) 3 14 := ⟨by decide +kernel, rfl⟩
theorem d_X12_fires_14 : DD prog_14_method_46_code 14 (.iaload) 1 15 := ⟨by decide +kernel, rfl⟩
theorem d_X12_fires_15 : DJ prog_14_method_46_code 15 (fun o => .if_icmp .ge o) 89 3 18 := ⟨by decide +kernel, rfl⟩
theorem d_X12_fires_18 : DD prog_14_method_46_code 18 (.sipush 183) 3 21 := ⟨by decide +kernel, rfl⟩
theorem d_X12_fires_21 : DD prog_14_method_46_code 21 (.iconst 4) 1 22 := ⟨by decide +kernel, rfl⟩
theorem d_X12_fires_22 : DD prog_14_method_46_code 22 (.iload 4) 2 24 := ⟨by decide +kernel, rfl⟩
theorem d_X12_fires_24 : DD prog_14_method_46_code 24 (.imul) 1 25 := ⟨by decide +kernel, rfl⟩
theorem d_X12_fires_25 : DD prog_14_method_46_code 25 (.iadd) 1 26 := ⟨by decide +kernel, rfl⟩
theorem d_X12_fires_26 : DD prog_14_method_46_code 26 (.istore 5) 2 28 := ⟨by decide +kernel, rfl⟩
theorem d_X12_fires_28 : DD prog_14_method_46_code 28 (.iload_n 3) 1 29 := ⟨by decide +kernel, rfl⟩
theorem d_X12_fires_29 : DD prog_14_method_46_code 29 (.iload_n 2) 1 30 := ⟨by decide +kernel, rfl⟩
theorem d_X12_fires_30 : DD prog_14_method_46_code 30 (.i2l) 1 31 := ⟨by decide +kernel, rfl⟩
theorem d_X12_fires_31 : DD prog_14_method_46_code 31 (.aload_n 0) 1 32 := ⟨by decide +kernel, rfl⟩
theorem d_X12_fires_32 : DD prog_14_method_46_code 32 (.getfield 7) 3 35 := ⟨by decide +kernel, rfl⟩
theorem d_X12_fires_35 : DD prog_14_method_46_code 35 (.iload 5) 2 37 := ⟨by decide +kernel, rfl⟩
theorem d_X12_fires_37 : DD prog_14_method_46_code 37 (.iconst 2) 1 38 := ⟨by decide +kernel, rfl⟩
theorem d_X12_fires_38 : DD prog_14_method_46_code 38 (.iadd) 1 39 := ⟨by decide +kernel, rfl⟩
theorem d_X12_fires_39 : DD prog_14_method_46_code 39 (.iaload) 1 40 := ⟨by decide +kernel, rfl⟩
theorem d_X12_fires_40 : DD prog_14_method_46_code 40 (.i2l) 1 41 := ⟨by decide +kernel, rfl⟩
theorem d_X12_fires_41 : DD prog_14_method_46_code 41 (.aload_n 0) 1 42 := ⟨by decide +kernel, rfl⟩
theorem d_X12_fires_42 : DD prog_14_method_46_code 42 (.getfield 7) 3 45 := ⟨by decide +kernel, rfl⟩
theorem d_X12_fires_45 : DD prog_14_method_46_code 45 (.iload 5) 2 47 := ⟨by decide +kernel, rfl⟩
theorem d_X12_fires_47 : DD prog_14_method_46_code 47 (.iconst 3) 1 48 := ⟨by decide +kernel, rfl⟩
theorem d_X12_fires_48 : DD prog_14_method_46_code 48 (.iadd) 1 49 := ⟨by decide +kernel, rfl⟩
theorem d_X12_fires_49 : DD prog_14_method_46_code 49 (.iaload) 1 50 := ⟨by decide +kernel, rfl⟩
theorem d_X12_fires_50 : DD prog_14_method_46_code 50 (.i2l) 1 51 := ⟨by decide +kernel, rfl⟩
theorem d_X12_fires_51 : DD prog_14_method_46_code 51 (.invokestatic 75) 3 54 := ⟨by decide +kernel, rfl⟩
theorem d_X12_fires_54 : DJ prog_14_method_46_code 54 (fun o => .ifCond .eq o) 80 3 57 := ⟨by decide +kernel, rfl⟩
theorem d_X12_fires_57 : DD prog_14_method_46_code 57 (.aload_n 0) 1 58 := ⟨by decide +kernel, rfl⟩
theorem d_X12_fires_58 : DD prog_14_method_46_code 58 (.getfield 7) 3 61 := ⟨by decide +kernel, rfl⟩
theorem d_X12_fires_61 : DD prog_14_method_46_code 61 (.iload 5) 2 63 := ⟨by decide +kernel, rfl⟩
theorem d_X12_fires_63 : DD prog_14_method_46_code 63 (.iconst 1) 1 64 := ⟨by decide +kernel, rfl⟩
theorem d_X12_fires_64 : DD prog_14_method_46_code 64 (.iadd) 1 65 := ⟨by decide +kernel, rfl⟩
theorem d_X12_fires_65 : DD prog_14_method_46_code 65 (.iaload) 1 66 := ⟨by decide +kernel, rfl⟩
theorem d_X12_fires_66 : DD prog_14_method_46_code 66 (.aload_n 0) 1 67 := ⟨by decide +kernel, rfl⟩
theorem d_X12_fires_67 : DD prog_14_method_46_code 67 (.getfield 7) 3 70 := ⟨by decide +kernel, rfl⟩
theorem d_X12_fires_70 : DD prog_14_method_46_code 70 (.iload 5) 2 72 := ⟨by decide +kernel, rfl⟩
theorem d_X12_fires_72 : DD prog_14_method_46_code 72 (.iaload) 1 73 := ⟨by decide +kernel, rfl⟩
theorem d_X12_fires_73 : DD prog_14_method_46_code 73 (.iload_n 1) 1 74 := ⟨by decide +kernel, rfl⟩
theorem d_X12_fires_74 : DD prog_14_method_46_code 74 (.invokestatic 229) 3 77 := ⟨by decide +kernel, rfl⟩
theorem d_X12_fires_77 : DJ prog_14_method_46_code 77 (fun o => .goto o) 81 3 80 := ⟨by decide +kernel, rfl⟩
theorem d_X12_fires_80 : DD prog_14_method_46_code 80 (.iconst 0) 1 81 := ⟨by decide +kernel, rfl⟩
theorem d_X12_fires_81 : DD prog_14_method_46_code 81 (.iadd) 1 82 := ⟨by decide +kernel, rfl⟩
theorem d_X12_fires_82 : DD prog_14_method_46_code 82 (.istore_n 3) 1 83 := ⟨by decide +kernel, rfl⟩
theorem d_X12_fires_83 : DD prog_14_method_46_code 83 (.iinc 4 1) 3 86 := ⟨by decide +kernel, rfl⟩
theorem d_X12_fires_86 : DJ prog_14_method_46_code 86 (fun o => .goto o) 5 3 89 := ⟨by decide +kernel, rfl⟩
theorem d_X12_fires_89 : DD prog_14_method_46_code 89 (.iload_n 3) 1 90 := ⟨by decide +kernel, rfl⟩
theorem d_X12_fires_90 : DD prog_14_method_46_code 90 (.ireturn) 1 91 := ⟨by decide +kernel, rfl⟩
theorem d_X12_heat_0 : DD prog_14_method_47_code 0 (.aload_n 0) 1 1 := ⟨by decide +kernel, rfl⟩
theorem d_X12_heat_1 : DD prog_14_method_47_code 1 (.iload_n 1) 1 2 := ⟨by decide +kernel, rfl⟩
theorem d_X12_heat_2 : DD prog_14_method_47_code 2 (.invokevirtual 201) 3 5 := ⟨by decide +kernel, rfl⟩
theorem d_X12_heat_5 : DJ prog_14_method_47_code 5 (fun o => .ifCond .eq o) 43 3 8 := ⟨by decide +kernel, rfl⟩
theorem d_X12_heat_8 : DD prog_14_method_47_code 8 (.iload_n 2) 1 9 := ⟨by decide +kernel, rfl⟩
theorem d_X12_heat_9 : DD prog_14_method_47_code 9 (.invokestatic 194) 3 12 := ⟨by decide +kernel, rfl⟩
theorem d_X12_heat_12 : DJ prog_14_method_47_code 12 (fun o => .ifCond .eq o) 43 3 15 := ⟨by decide +kernel, rfl⟩
theorem d_X12_heat_15 : DD prog_14_method_47_code 15 (.aload_n 0) 1 16 := ⟨by decide +kernel, rfl⟩
theorem d_X12_heat_16 : DD prog_14_method_47_code 16 (.iload_n 1) 1 17 := ⟨by decide +kernel, rfl⟩
theorem d_X12_heat_17 : DD prog_14_method_47_code 17 (.iload_n 2) 1 18 := ⟨by decide +kernel, rfl⟩
theorem d_X12_heat_18 : DD prog_14_method_47_code 18 (.invokevirtual 233) 3 21 := ⟨by decide +kernel, rfl⟩
theorem d_X12_heat_21 : DD prog_14_method_47_code 21 (.iload_n 3) 1 22 := ⟨by decide +kernel, rfl⟩
theorem d_X12_heat_22 : DJ prog_14_method_47_code 22 (fun o => .ifCond .eq o) 38 3 25 := ⟨by decide +kernel, rfl⟩
theorem d_X12_heat_25 : DD prog_14_method_47_code 25 (.aload_n 0) 1 26 := ⟨by decide +kernel, rfl⟩
theorem d_X12_heat_26 : DD prog_14_method_47_code 26 (.getfield 7) 3 29 := ⟨by decide +kernel, rfl⟩
theorem d_X12_heat_29 : DD prog_14_method_47_code 29 (.sipush 171) 3 32 := ⟨by decide +kernel, rfl⟩
theorem d_X12_heat_32 : DD prog_14_method_47_code 32 (.iload_n 2) 1 33 := ⟨by decide +kernel, rfl⟩
theorem d_X12_heat_33 : DD prog_14_method_47_code 33 (.iadd) 1 34 := ⟨by decide +kernel, rfl⟩
theorem d_X12_heat_34 : DD prog_14_method_47_code 34 (.iaload) 1 35 := ⟨by decide +kernel, rfl⟩
theorem d_X12_heat_35 : DJ prog_14_method_47_code 35 (fun o => .goto o) 39 3 38 := ⟨by decide +kernel, rfl⟩
theorem d_X12_heat_38 : DD prog_14_method_47_code 38 (.iconst 0) 1 39 := ⟨by decide +kernel, rfl⟩
theorem d_X12_heat_39 : DD prog_14_method_47_code 39 (.iadd) 1 40 := ⟨by decide +kernel, rfl⟩
theorem d_X12_heat_40 : DJ prog_14_method_47_code 40 (fun o => .goto o) 44 3 43 := ⟨by decide +kernel, rfl⟩
theorem d_X12_heat_43 : DD prog_14_method_47_code 43 (.iconst (-1)) 1 44 := ⟨by decide +kernel, rfl⟩
theorem d_X12_heat_44 : DD prog_14_method_47_code 44 (.ireturn) 1 45 := ⟨by decide +kernel, rfl⟩
theorem d_X12_melts_0 : DD prog_14_method_48_code 0 (.aload_n 0) 1 1 := ⟨by decide +kernel, rfl⟩
theorem d_X12_melts_1 : DD prog_14_method_48_code 1 (.getfield 7) 3 4 := ⟨by decide +kernel, rfl⟩
theorem d_X12_melts_4 : DD prog_14_method_48_code 4 (.iload_n 1) 1 5 := ⟨by decide +kernel, rfl⟩
theorem d_X12_melts_5 : DD prog_14_method_48_code 5 (.iconst 1) 1 6 := ⟨by decide +kernel, rfl⟩
theorem d_X12_melts_6 : DD prog_14_method_48_code 6 (.iadd) 1 7 := ⟨by decide +kernel, rfl⟩
theorem d_X12_melts_7 : DD prog_14_method_48_code 7 (.iaload) 1 8 := ⟨by decide +kernel, rfl⟩
theorem d_X12_melts_8 : DD prog_14_method_48_code 8 (.istore 4) 2 10 := ⟨by decide +kernel, rfl⟩
theorem d_X12_melts_10 : DD prog_14_method_48_code 10 (.iload 4) 2 12 := ⟨by decide +kernel, rfl⟩
theorem d_X12_melts_12 : DD prog_14_method_48_code 12 (.iconst 2) 1 13 := ⟨by decide +kernel, rfl⟩
theorem d_X12_melts_13 : DJ prog_14_method_48_code 13 (fun o => .if_icmp .ne o) 20 3 16 := ⟨by decide +kernel, rfl⟩
theorem d_X12_melts_16 : DD prog_14_method_48_code 16 (.iload_n 2) 1 17 := ⟨by decide +kernel, rfl⟩
theorem d_X12_melts_17 : DJ prog_14_method_48_code 17 (fun o => .goto o) 23 3 20 := ⟨by decide +kernel, rfl⟩
theorem d_X12_melts_20 : DD prog_14_method_48_code 20 (.iload_n 2) 1 21 := ⟨by decide +kernel, rfl⟩
theorem d_X12_melts_21 : DD prog_14_method_48_code 21 (.iload_n 3) 1 22 := ⟨by decide +kernel, rfl⟩
theorem d_X12_melts_22 : DD prog_14_method_48_code 22 (.iadd) 1 23 := ⟨by decide +kernel, rfl⟩
theorem d_X12_melts_23 : DD prog_14_method_48_code 23 (.istore 5) 2 25 := ⟨by decide +kernel, rfl⟩
theorem d_X12_melts_25 : DD prog_14_method_48_code 25 (.iload 4) 2 27 := ⟨by decide +kernel, rfl⟩
theorem d_X12_melts_27 : DD prog_14_method_48_code 27 (.iconst 1) 1 28 := ⟨by decide +kernel, rfl⟩
theorem d_X12_melts_28 : DJ prog_14_method_48_code 28 (fun o => .if_icmp .ne o) 38 3 31 := ⟨by decide +kernel, rfl⟩
theorem d_X12_melts_31 : DD prog_14_method_48_code 31 (.iload 5) 2 33 := ⟨by decide +kernel, rfl⟩
theorem d_X12_melts_33 : DD prog_14_method_48_code 33 (.iconst 2) 1 34 := ⟨by decide +kernel, rfl⟩
theorem d_X12_melts_34 : DD prog_14_method_48_code 34 (.idiv) 1 35 := ⟨by decide +kernel, rfl⟩
theorem d_X12_melts_35 : DJ prog_14_method_48_code 35 (fun o => .goto o) 56 3 38 := ⟨by decide +kernel, rfl⟩
theorem d_X12_melts_38 : DD prog_14_method_48_code 38 (.iload 4) 2 40 := ⟨by decide +kernel, rfl⟩
theorem d_X12_melts_40 : DD prog_14_method_48_code 40 (.iconst 3) 1 41 := ⟨by decide +kernel, rfl⟩
theorem d_X12_melts_41 : DJ prog_14_method_48_code 41 (fun o => .if_icmp .ne o) 54 3 44 := ⟨by decide +kernel, rfl⟩
theorem d_X12_melts_44 : DD prog_14_method_48_code 44 (.iload 5) 2 46 := ⟨by decide +kernel, rfl⟩
theorem d_X12_melts_46 : DD prog_14_method_48_code 46 (.iconst 2) 1 47 := ⟨by decide +kernel, rfl⟩
theorem d_X12_melts_47 : DJ prog_14_method_48_code 47 (fun o => .if_icmp .le o) 54 3 50 := ⟨by decide +kernel, rfl⟩
theorem d_X12_melts_50 : DD prog_14_method_48_code 50 (.iconst 2) 1 51 := ⟨by decide +kernel, rfl⟩
theorem d_X12_melts_51 : DJ prog_14_method_48_code 51 (fun o => .goto o) 56 3 54 := ⟨by decide +kernel, rfl⟩
theorem d_X12_melts_54 : DD prog_14_method_48_code 54 (.iload 5) 2 56 := ⟨by decide +kernel, rfl⟩
theorem d_X12_melts_56 : DD prog_14_method_48_code 56 (.istore 5) 2 58 := ⟨by decide +kernel, rfl⟩
theorem d_X12_melts_58 : DD prog_14_method_48_code 58 (.iconst 0) 1 59 := ⟨by decide +kernel, rfl⟩
theorem d_X12_melts_59 : DD prog_14_method_48_code 59 (.istore 6) 2 61 := ⟨by decide +kernel, rfl⟩
theorem d_X12_melts_61 : DD prog_14_method_48_code 61 (.iconst 4) 1 62 := ⟨by decide +kernel, rfl⟩
theorem d_X12_melts_62 : DD prog_14_method_48_code 62 (.istore 7) 2 64 := ⟨by decide +kernel, rfl⟩
theorem d_X12_melts_64 : DD prog_14_method_48_code 64 (.iload 7) 2 66 := ⟨by decide +kernel, rfl⟩
theorem d_X12_melts_66 : DD prog_14_method_48_code 66 (.iconst 2) 1 67 := ⟨by decide +kernel, rfl⟩
theorem d_X12_melts_67 : DJ prog_14_method_48_code 67 (fun o => .if_icmp .lt o) 134 3 70 := ⟨by decide +kernel, rfl⟩
theorem d_X12_melts_70 : DD prog_14_method_48_code 70 (.aload_n 0) 1 71 := ⟨by decide +kernel, rfl⟩
theorem d_X12_melts_71 : DD prog_14_method_48_code 71 (.getfield 7) 3 74 := ⟨by decide +kernel, rfl⟩
theorem d_X12_melts_74 : DD prog_14_method_48_code 74 (.iload_n 1) 1 75 := ⟨by decide +kernel, rfl⟩
theorem d_X12_melts_75 : DD prog_14_method_48_code 75 (.iload 7) 2 77 := ⟨by decide +kernel, rfl⟩
theorem d_X12_melts_77 : DD prog_14_method_48_code 77 (.iadd) 1 78 := ⟨by decide +kernel, rfl⟩
theorem d_X12_melts_78 : DD prog_14_method_48_code 78 (.iaload) 1 79 := ⟨by decide +kernel, rfl⟩
theorem d_X12_melts_79 : DD prog_14_method_48_code 79 (.iload 5) 2 81 := ⟨by decide +kernel, rfl⟩
theorem d_X12_melts_81 : DJ prog_14_method_48_code 81 (fun o => .if_icmp .ge o) 96 3 84 := ⟨by decide +kernel, rfl⟩
theorem d_X12_melts_84 : DD prog_14_method_48_code 84 (.aload_n 0) 1 85 := ⟨by decide +kernel, rfl⟩
theorem d_X12_melts_85 : DD prog_14_method_48_code 85 (.getfield 7) 3 88 := ⟨by decide +kernel, rfl⟩
theorem d_X12_melts_88 : DD prog_14_method_48_code 88 (.iload_n 1) 1 89 := ⟨by decide +kernel, rfl⟩
theorem d_X12_melts_89 : DD prog_14_method_48_code 89 (.iload 7) 2 91 := ⟨by decide +kernel, rfl⟩
theorem d_X12_melts_91 : DD prog_14_method_48_code 91 (.iadd) 1 92 := ⟨by decide +kernel, rfl⟩
theorem d_X12_melts_92 : DD prog_14_method_48_code 92 (.iaload) 1 93 := ⟨by decide +kernel, rfl⟩
theorem d_X12_melts_93 : DJ prog_14_method_48_code 93 (fun o => .goto o) 98 3 96 := ⟨by decide +kernel, rfl⟩
theorem d_X12_melts_96 : DD prog_14_method_48_code 96 (.iload 5) 2 98 := ⟨by decide +kernel, rfl⟩
theorem d_X12_melts_98 : DD prog_14_method_48_code 98 (.istore 8) 2 100 := ⟨by decide +kernel, rfl⟩
theorem d_X12_melts_100 : DD prog_14_method_48_code 100 (.aload_n 0) 1 101 := ⟨by decide +kernel, rfl⟩
theorem d_X12_melts_101 : DD prog_14_method_48_code 101 (.getfield 7) 3 104 := ⟨by decide +kernel, rfl⟩
theorem d_X12_melts_104 : DD prog_14_method_48_code 104 (.iload_n 1) 1 105 := ⟨by decide +kernel, rfl⟩
theorem d_X12_melts_105 : DD prog_14_method_48_code 105 (.iload 7) 2 107 := ⟨by decide +kernel, rfl⟩
theorem d_X12_melts_107 : DD prog_14_method_48_code 107 (.iadd) 1 108 := ⟨by decide +kernel, rfl⟩
theorem d_X12_melts_108 : DD prog_14_method_48_code 108 (.dup2) 1 109 := ⟨by decide +kernel, rfl⟩
theorem d_X12_melts_109 : DD prog_14_method_48_code 109 (.iaload) 1 110 := ⟨by decide +kernel, rfl⟩
theorem d_X12_melts_110 : DD prog_14_method_48_code 110 (.iload 8) 2 112 := ⟨by decide +kernel, rfl⟩
theorem d_X12_melts_112 : DD prog_14_method_48_code 112 (.isub) 1 113 := ⟨by decide +kernel, rfl⟩
theorem d_X12_melts_113 : DD prog_14_method_48_code 113 (.iastore) 1 114 := ⟨by decide +kernel, rfl⟩
theorem d_X12_melts_114 : DD prog_14_method_48_code 114 (.iload 5) 2 116 := ⟨by decide +kernel, rfl⟩
theorem d_X12_melts_116 : DD prog_14_method_48_code 116 (.iload 8) 2 118 := ⟨by decide +kernel, rfl⟩
theorem d_X12_melts_118 : DD prog_14_method_48_code 118 (.isub) 1 119 := ⟨by decide +kernel, rfl⟩
theorem d_X12_melts_119 : DD prog_14_method_48_code 119 (.istore 5) 2 121 := ⟨by decide +kernel, rfl⟩
theorem d_X12_melts_121 : DD prog_14_method_48_code 121 (.iload 6) 2 123 := ⟨by decide +kernel, rfl⟩
theorem d_X12_melts_123 : DD prog_14_method_48_code 123 (.iload 8) 2 125 := ⟨by decide +kernel, rfl⟩
theorem d_X12_melts_125 : DD prog_14_method_48_code 125 (.iadd) 1 126 := ⟨by decide +kernel, rfl⟩
theorem d_X12_melts_126 : DD prog_14_method_48_code 126 (.istore 6) 2 128 := ⟨by decide +kernel, rfl⟩
theorem d_X12_melts_128 : DD prog_14_method_48_code 128 (.iinc 7 (-1)) 3 131 := ⟨by decide +kernel, rfl⟩
theorem d_X12_melts_131 : DJ prog_14_method_48_code 131 (fun o => .goto o) 64 3 134 := ⟨by decide +kernel, rfl⟩
theorem d_X12_melts_134 : DD prog_14_method_48_code 134 (.iload 6) 2 136 := ⟨by decide +kernel, rfl⟩
theorem d_X12_melts_136 : DD prog_14_method_48_code 136 (.ireturn) 1 137 := ⟨by decide +kernel, rfl⟩
theorem d_X12_melting_0 : DD prog_14_method_49_code 0 (.aload_n 0) 1 1 := ⟨by decide +kernel, rfl⟩
theorem d_X12_melting_1 : DD prog_14_method_49_code 1 (.iload_n 2) 1 2 := ⟨by decide +kernel, rfl⟩
theorem d_X12_melting_2 : DD prog_14_method_49_code 2 (.iload_n 3) 1 3 := ⟨by decide +kernel, rfl⟩
theorem d_X12_melting_3 : DD prog_14_method_49_code 3 (.invokevirtual 233) 3 6 := ⟨by decide +kernel, rfl⟩
theorem d_X12_melting_6 : DD prog_14_method_49_code 6 (.istore 5) 2 8 := ⟨by decide +kernel, rfl⟩
theorem d_X12_melting_8 : DD prog_14_method_49_code 8 (.iload_n 1) 1 9 := ⟨by decide +kernel, rfl⟩
theorem d_X12_melting_9 : DD prog_14_method_49_code 9 (.sipush 140) 3 12 := ⟨by decide +kernel, rfl⟩
theorem d_X12_melting_12 : DD prog_14_method_49_code 12 (.iadd) 1 13 := ⟨by decide +kernel, rfl⟩
theorem d_X12_melting_13 : DD prog_14_method_49_code 13 (.iload_n 2) 1 14 := ⟨by decide +kernel, rfl⟩
theorem d_X12_melting_14 : DD prog_14_method_49_code 14 (.iadd) 1 15 := ⟨by decide +kernel, rfl⟩
theorem d_X12_melting_15 : DD prog_14_method_49_code 15 (.istore 6) 2 17 := ⟨by decide +kernel, rfl⟩
theorem d_X12_melting_17 : DD prog_14_method_49_code 17 (.iload_n 1) 1 18 := ⟨by decide +kernel, rfl⟩
theorem d_X12_melting_18 : DD prog_14_method_49_code 18 (.sipush 150) 3 21 := ⟨by decide +kernel, rfl⟩
theorem d_X12_melting_21 : DD prog_14_method_49_code 21 (.iadd) 1 22 := ⟨by decide +kernel, rfl⟩
theorem d_X12_melting_22 : DD prog_14_method_49_code 22 (.iload_n 2) 1 23 := ⟨by decide +kernel, rfl⟩
theorem d_X12_melting_23 : DD prog_14_method_49_code 23 (.iadd) 1 24 := ⟨by decide +kernel, rfl⟩
theorem d_X12_melting_24 : DD prog_14_method_49_code 24 (.istore 7) 2 26 := ⟨by decide +kernel, rfl⟩
theorem d_X12_melting_26 : DD prog_14_method_49_code 26 (.aload_n 0) 1 27 := ⟨by decide +kernel, rfl⟩
theorem d_X12_melting_27 : DD prog_14_method_49_code 27 (.getfield 7) 3 30 := ⟨by decide +kernel, rfl⟩
theorem d_X12_melting_30 : DD prog_14_method_49_code 30 (.iload 6) 2 32 := ⟨by decide +kernel, rfl⟩
theorem d_X12_melting_32 : DD prog_14_method_49_code 32 (.iaload) 1 33 := ⟨by decide +kernel, rfl⟩
theorem d_X12_melting_33 : DD prog_14_method_49_code 33 (.iload 5) 2 35 := ⟨by decide +kernel, rfl⟩
theorem d_X12_melting_35 : DD prog_14_method_49_code 35 (.iload 4) 2 37 := ⟨by decide +kernel, rfl⟩
theorem d_X12_melting_37 : DD prog_14_method_49_code 37 (.iadd) 1 38 := ⟨by decide +kernel, rfl⟩
theorem d_X12_melting_38 : DJ prog_14_method_49_code 38 (fun o => .if_icmp .ge o) 51 3 41 := ⟨by decide +kernel, rfl⟩
theorem d_X12_melting_41 : DD prog_14_method_49_code 41 (.aload_n 0) 1 42 := ⟨by decide +kernel, rfl⟩
theorem d_X12_melting_42 : DD prog_14_method_49_code 42 (.getfield 7) 3 45 := ⟨by decide +kernel, rfl⟩
theorem d_X12_melting_45 : DD prog_14_method_49_code 45 (.iload 6) 2 47 := ⟨by decide +kernel, rfl⟩
theorem d_X12_melting_47 : DD prog_14_method_49_code 47 (.iaload) 1 48 := ⟨by decide +kernel, rfl⟩
theorem d_X12_melting_48 : DJ prog_14_method_49_code 48 (fun o => .goto o) 56 3 51 := ⟨by decide +kernel, rfl⟩
theorem d_X12_melting_51 : DD prog_14_method_49_code 51 (.iload 5) 2 53 := ⟨by decide +kernel, rfl⟩
theorem d_X12_melting_53 : DD prog_14_method_49_code 53 (.iload 4) 2 55 := ⟨by decide +kernel, rfl⟩
theorem d_X12_melting_55 : DD prog_14_method_49_code 55 (.iadd) 1 56 := ⟨by decide +kernel, rfl⟩
theorem d_X12_melting_56 : DD prog_14_method_49_code 56 (.istore 8) 2 58 := ⟨by decide +kernel, rfl⟩
theorem d_X12_melting_58 : DD prog_14_method_49_code 58 (.aload_n 0) 1 59 := ⟨by decide +kernel, rfl⟩
theorem d_X12_melting_59 : DD prog_14_method_49_code 59 (.getfield 7) 3 62 := ⟨by decide +kernel, rfl⟩
theorem d_X12_melting_62 : DD prog_14_method_49_code 62 (.iload 6) 2 64 := ⟨by decide +kernel, rfl⟩
theorem d_X12_melting_64 : DD prog_14_method_49_code 64 (.dup2) 1 65 := ⟨by decide +kernel, rfl⟩
theorem d_X12_melting_65 : DD prog_14_method_49_code 65 (.iaload) 1 66 := ⟨by decide +kernel, rfl⟩
theorem d_X12_melting_66 : DD prog_14_method_49_code 66 (.iload 8) 2 68 := ⟨by decide +kernel, rfl⟩
theorem d_X12_melting_68 : DD prog_14_method_49_code 68 (.isub) 1 69 := ⟨by decide +kernel, rfl⟩
theorem d_X12_melting_69 : DD prog_14_method_49_code 69 (.iastore) 1 70 := ⟨by decide +kernel, rfl⟩
theorem d_X12_melting_70 : DD prog_14_method_49_code 70 (.aload_n 0) 1 71 := ⟨by decide +kernel, rfl⟩
theorem d_X12_melting_71 : DD prog_14_method_49_code 71 (.getfield 7) 3 74 := ⟨by decide +kernel, rfl⟩
theorem d_X12_melting_74 : DD prog_14_method_49_code 74 (.iload 7) 2 76 := ⟨by decide +kernel, rfl⟩
theorem d_X12_melting_76 : DD prog_14_method_49_code 76 (.dup2) 1 77 := ⟨by decide +kernel, rfl⟩
theorem d_X12_melting_77 : DD prog_14_method_49_code 77 (.iaload) 1 78 := ⟨by decide +kernel, rfl⟩
theorem d_X12_melting_78 : DD prog_14_method_49_code 78 (.iload 8) 2 80 := ⟨by decide +kernel, rfl⟩
theorem d_X12_melting_80 : DD prog_14_method_49_code 80 (.iadd) 1 81 := ⟨by decide +kernel, rfl⟩
theorem d_X12_melting_81 : DD prog_14_method_49_code 81 (.iastore) 1 82 := ⟨by decide +kernel, rfl⟩
theorem d_X12_melting_82 : DD prog_14_method_49_code 82 (.iconst 0) 1 83 := ⟨by decide +kernel, rfl⟩
theorem d_X12_melting_83 : DD prog_14_method_49_code 83 (.istore 9) 2 85 := ⟨by decide +kernel, rfl⟩
theorem d_X12_melting_85 : DD prog_14_method_49_code 85 (.iload 9) 2 87 := ⟨by decide +kernel, rfl⟩
theorem d_X12_melting_87 : DD prog_14_method_49_code 87 (.iconst 2) 1 88 := ⟨by decide +kernel, rfl⟩
theorem d_X12_melting_88 : DJ prog_14_method_49_code 88 (fun o => .if_icmp .ge o) 243 3 91 := ⟨by decide +kernel, rfl⟩
theorem d_X12_melting_91 : DD prog_14_method_49_code 91 (.iload_n 1) 1 92 := ⟨by decide +kernel, rfl⟩
theorem d_X12_melting_92 : DD prog_14_method_49_code 92 (.iload 9) 2 94 := ⟨by decide +kernel, rfl⟩
theorem d_X12_melting_94 : DD prog_14_method_49_code 94 (.iload_n 2) 1 95 := ⟨by decide +kernel, rfl⟩
theorem d_X12_melting_95 : DD prog_14_method_49_code 95 (.invokestatic 198) 3 98 := ⟨by decide +kernel, rfl⟩
theorem d_X12_melting_98 : DD prog_14_method_49_code 98 (.iadd) 1 99 := ⟨by decide +kernel, rfl⟩
theorem d_X12_melting_99 : DD prog_14_method_49_code 99 (.istore 10) 2 101 := ⟨by decide +kernel, rfl⟩
theorem d_X12_melting_101 : DD prog_14_method_49_code 101 (.aload_n 0) 1 102 := ⟨by decide +kernel, rfl⟩
theorem d_X12_melting_102 : DD prog_14_method_49_code 102 (.getfield 7) 3 105 := ⟨by decide +kernel, rfl⟩
theorem d_X12_melting_105 : DD prog_14_method_49_code 105 (.iload 10) 2 107 := ⟨by decide +kernel, rfl⟩
theorem d_X12_melting_107 : DD prog_14_method_49_code 107 (.iaload) 1 108 := ⟨by decide +kernel, rfl⟩
theorem d_X12_melting_108 : DD prog_14_method_49_code 108 (.iconst 1) 1 109 := ⟨by decide +kernel, rfl⟩
theorem d_X12_melting_109 : DJ prog_14_method_49_code 109 (fun o => .if_icmp .ne o) 237 3 112 := ⟨by decide +kernel, rfl⟩
theorem d_X12_melting_112 : DD prog_14_method_49_code 112 (.aload_n 0) 1 113 := ⟨by decide +kernel, rfl⟩
theorem d_X12_melting_113 : DD prog_14_method_49_code 113 (.getfield 7) 3 116 := ⟨by decide +kernel, rfl⟩
theorem d_X12_melting_116 : DD prog_14_method_49_code 116 (.iload 10) 2 118 := ⟨by decide +kernel, rfl⟩
theorem d_X12_melting_118 : DD prog_14_method_49_code 118 (.iconst 4) 1 119 := ⟨by decide +kernel, rfl⟩
theorem d_X12_melting_119 : DD prog_14_method_49_code 119 (.iadd) 1 120 := ⟨by decide +kernel, rfl⟩
theorem d_X12_melting_120 : DD prog_14_method_49_code 120 (.iaload) 1 121 := ⟨by decide +kernel, rfl⟩
theorem d_X12_melting_121 : DJ prog_14_method_49_code 121 (fun o => .ifCond .le o) 128 3 124 := ⟨by decide +kernel, rfl⟩
theorem d_X12_melting_124 : DD prog_14_method_49_code 124 (.iconst 1) 1 125 := ⟨by decide +kernel, rfl⟩
theorem d_X12_melting_125 : DJ prog_14_method_49_code 125 (fun o => .goto o) 129 3 128 := ⟨by decide +kernel, rfl⟩
theorem d_X12_melting_128 : DD prog_14_method_49_code 128 (.iconst 0) 1 129 := ⟨by decide +kernel, rfl⟩
theorem d_X12_melting_129 : DD prog_14_method_49_code 129 (.istore 11) 2 131 := ⟨by decide +kernel, rfl⟩
theorem d_X12_melting_131 : DD prog_14_method_49_code 131 (.aload_n 0) 1 132 := ⟨by decide +kernel, rfl⟩
theorem d_X12_melting_132 : DD prog_14_method_49_code 132 (.getfield 7) 3 135 := ⟨by decide +kernel, rfl⟩
theorem d_X12_melting_135 : DD prog_14_method_49_code 135 (.iload 7) 2 137 := ⟨by decide +kernel, rfl⟩
theorem d_X12_melting_137 : DD prog_14_method_49_code 137 (.dup2) 1 138 := ⟨by decide +kernel, rfl⟩
theorem d_X12_melting_138 : DD prog_14_method_49_code 138 (.iaload) 1 139 := ⟨by decide +kernel, rfl⟩
theorem d_X12_melting_139 : DD prog_14_method_49_code 139 (.aload_n 0) 1 140 := ⟨by decide +kernel, rfl⟩
theorem d_X12_melting_140 : DD prog_14_method_49_code 140 (.iload 10) 2 142 := ⟨by decide +kernel, rfl⟩
theorem d_X12_melting_142 : DD prog_14_method_49_code 142 (.iload 5) 2 144 := ⟨by decide +kernel, rfl⟩
theorem d_X12_melting_144 : DD prog_14_method_49_code 144 (.iload 4) 2 146 := ⟨by decide +kernel, rfl⟩
theorem d_X12_melting_146 : DD prog_14_method_49_code 146 (.invokevirtual 236) 3 149 := ⟨by decide +kernel, rfl⟩
theorem d_X12_melting_149 : DD prog_14_method_49_code 149 (.iadd) 1 150 := ⟨by decide +kernel, rfl⟩
theorem d_X12_melting_150 : DD prog_14_method_49_code 150 (.iastore) 1 151 := ⟨by decide +kernel, rfl⟩
theorem d_X12_melting_151 : DD prog_14_method_49_code 151 (.aload_n 0) 1 152 := ⟨by decide +kernel, rfl⟩
theorem d_X12_melting_152 : DD prog_14_method_49_code 152 (.getfield 7) 3 155 := ⟨by decide +kernel, rfl⟩
theorem d_X12_melting_155 : DD prog_14_method_49_code 155 (.iload 10) 2 157 := ⟨by decide +kernel, rfl⟩
theorem d_X12_melting_157 : DD prog_14_method_49_code 157 (.iconst 1) 1 158 := ⟨by decide +kernel, rfl⟩
theorem d_X12_melting_158 : DD prog_14_method_49_code 158 (.iadd) 1 159 := ⟨by decide +kernel, rfl⟩
theorem d_X12_melting_159 : DD prog_14_method_49_code 159 (.iaload) 1 160 := ⟨by decide +kernel, rfl⟩
theorem d_X12_melting_160 : DD prog_14_method_49_code 160 (.iconst 4) 1 161 := ⟨by decide +kernel, rfl⟩
theorem d_X12_melting_161 : DJ prog_14_method_49_code 161 (fun o => .if_icmp .ne o) 237 3 164 := ⟨by decide +kernel, rfl⟩
theorem d_X12_melting_164 : DD prog_14_method_49_code 164 (.iload 11) 2 166 := ⟨by decide +kernel, rfl⟩
theorem d_X12_melting_166 : DJ prog_14_method_49_code 166 (fun o => .ifCond .eq o) 237 3 169 := ⟨by decide +kernel, rfl⟩
theorem d_X12_melting_169 : DD prog_14_method_49_code 169 (.aload_n 0) 1 170 := ⟨by decide +kernel, rfl⟩
theorem d_X12_melting_170 : DD prog_14_method_49_code 170 (.getfield 7) 3 173 := ⟨by decide +kernel, rfl⟩
theorem d_X12_melting_173 : DD prog_14_method_49_code 173 (.iload 10) 2 175 := ⟨by decide +kernel, rfl⟩
theorem d_X12_melting_175 : DD prog_14_method_49_code 175 (.iconst 4) 1 176 := ⟨by decide +kernel, rfl⟩
theorem d_X12_melting_176 : DD prog_14_method_49_code 176 (.iadd) 1 177 := ⟨by decide +kernel, rfl⟩
theorem d_X12_melting_177 : DD prog_14_method_49_code 177 (.iaload) 1 178 := ⟨by decide +kernel, rfl⟩
theorem d_X12_melting_178 : DJ prog_14_method_49_code 178 (fun o => .ifCond .ne o) 237 3 181 := ⟨by decide +kernel, rfl⟩
theorem d_X12_melting_181 : DD prog_14_method_49_code 181 (.aload_n 0) 1 182 := ⟨by decide +kernel, rfl⟩
theorem d_X12_melting_182 : DD prog_14_method_49_code 182 (.getfield 7) 3 185 := ⟨by decide +kernel, rfl⟩
theorem d_X12_melting_185 : DD prog_14_method_49_code 185 (.iload 6) 2 187 := ⟨by decide +kernel, rfl⟩
theorem d_X12_melting_187 : DD prog_14_method_49_code 187 (.dup2) 1 188 := ⟨by decide +kernel, rfl⟩
theorem d_X12_melting_188 : DD prog_14_method_49_code 188 (.iaload) 1 189 := ⟨by decide +kernel, rfl⟩
theorem d_X12_melting_189 : DD prog_14_method_49_code 189 (.aload_n 0) 1 190 := ⟨by decide +kernel, rfl⟩
theorem d_X12_melting_190 : DD prog_14_method_49_code 190 (.getfield 7) 3 193 := ⟨by decide +kernel, rfl⟩
theorem d_X12_melting_193 : DD prog_14_method_49_code 193 (.iload 10) 2 195 := ⟨by decide +kernel, rfl⟩
theorem d_X12_melting_195 : DD prog_14_method_49_code 195 (.iconst 2) 1 196 := ⟨by decide +kernel, rfl⟩
theorem d_X12_melting_196 : DD prog_14_method_49_code 196 (.iadd) 1 197 := ⟨by decide +kernel, rfl⟩
theorem d_X12_melting_197 : DD prog_14_method_49_code 197 (.iaload) 1 198 := ⟨by decide +kernel, rfl⟩
theorem d_X12_melting_198 : DD prog_14_method_49_code 198 (.aload_n 0) 1 199 := ⟨by decide +kernel, rfl⟩
theorem d_X12_melting_199 : DD prog_14_method_49_code 199 (.getfield 7) 3 202 := ⟨by decide +kernel, rfl⟩
theorem d_X12_melting_202 : DD prog_14_method_49_code 202 (.iload 10) 2 204 := ⟨by decide +kernel, rfl⟩
theorem d_X12_melting_204 : DD prog_14_method_49_code 204 (.iconst 3) 1 205 := ⟨by decide +kernel, rfl⟩
theorem d_X12_melting_205 : DD prog_14_method_49_code 205 (.iadd) 1 206 := ⟨by decide +kernel, rfl⟩
theorem d_X12_melting_206 : DD prog_14_method_49_code 206 (.iaload) 1 207 := ⟨by decide +kernel, rfl⟩
theorem d_X12_melting_207 : DD prog_14_method_49_code 207 (.iadd) 1 208 := ⟨by decide +kernel, rfl⟩
theorem d_X12_melting_208 : DD prog_14_method_49_code 208 (.iadd) 1 209 := ⟨by decide +kernel, rfl⟩
theorem d_X12_melting_209 : DD prog_14_method_49_code 209 (.iastore) 1 210 := ⟨by decide +kernel, rfl⟩
theorem d_X12_melting_210 : DD prog_14_method_49_code 210 (.iconst 0) 1 211 := ⟨by decide +kernel, rfl⟩
theorem d_X12_melting_211 : DD prog_14_method_49_code 211 (.istore 12) 2 213 := ⟨by decide +kernel, rfl⟩
theorem d_X12_melting_213 : DD prog_14_method_49_code 213 (.iload 12) 2 215 := ⟨by decide +kernel, rfl⟩
theorem d_X12_melting_215 : DD prog_14_method_49_code 215 (.bipush 7) 2 217 := ⟨by decide +kernel, rfl⟩
theorem d_X12_melting_217 : DJ prog_14_method_49_code 217 (fun o => .if_icmp .ge o) 237 3 220 := ⟨by decide +kernel, rfl⟩
theorem d_X12_melting_220 : DD prog_14_method_49_code 220 (.aload_n 0) 1 221 := ⟨by decide +kernel, rfl⟩
theorem d_X12_melting_221 : DD prog_14_method_49_code 221 (.getfield 7) 3 224 := ⟨by decide +kernel, rfl⟩
theorem d_X12_melting_224 : DD prog_14_method_49_code 224 (.iload 10) 2 226 := ⟨by decide +kernel, rfl⟩
theorem d_X12_melting_226 : DD prog_14_method_49_code 226 (.iload 12) 2 228 := ⟨by decide +kernel, rfl⟩
theorem d_X12_melting_228 : DD prog_14_method_49_code 228 (.iadd) 1 229 := ⟨by decide +kernel, rfl⟩
theorem d_X12_melting_229 : DD prog_14_method_49_code 229 (.iconst 0) 1 230 := ⟨by decide +kernel, rfl⟩
theorem d_X12_melting_230 : DD prog_14_method_49_code 230 (.iastore) 1 231 := ⟨by decide +kernel, rfl⟩
theorem d_X12_melting_231 : DD prog_14_method_49_code 231 (.iinc 12 1) 3 234 := ⟨by decide +kernel, rfl⟩
theorem d_X12_melting_234 : DJ prog_14_method_49_code 234 (fun o => .goto o) 213 3 237 := ⟨by decide +kernel, rfl⟩
theorem d_X12_melting_237 : DD prog_14_method_49_code 237 (.iinc 9 1) 3 240 := ⟨by decide +kernel, rfl⟩
theorem d_X12_melting_240 : DJ prog_14_method_49_code 240 (fun o => .goto o) 85 3 243 := ⟨by decide +kernel, rfl⟩
theorem d_X12_melting_243 : DD prog_14_method_49_code 243 (.aload_n 0) 1 244 := ⟨by decide +kernel, rfl⟩
theorem d_X12_melting_244 : DD prog_14_method_49_code 244 (.getfield 7) 3 247 := ⟨by decide +kernel, rfl⟩
theorem d_X12_melting_247 : DD prog_14_method_49_code 247 (.iload 7) 2 249 := ⟨by decide +kernel, rfl⟩
theorem d_X12_melting_249 : DD prog_14_method_49_code 249 (.iaload) 1 250 := ⟨by decide +kernel, rfl⟩
theorem d_X12_melting_250 : DD prog_14_method_49_code 250 (.aload_n 0) 1 251 := ⟨by decide +kernel, rfl⟩
theorem d_X12_melting_251 : DD prog_14_method_49_code 251 (.getfield 17) 3 254 := ⟨by decide +kernel, rfl⟩
theorem d_X12_melting_254 : DD prog_14_method_49_code 254 (.iload_n 3) 1 255 := ⟨by decide +kernel, rfl⟩
theorem d_X12_melting_255 : DD prog_14_method_49_code 255 (.iaload) 1 256 := ⟨by decide +kernel, rfl⟩
theorem d_X12_melting_256 : DJ prog_14_method_49_code 256 (fun o => .if_icmp .ge o) 269 3 259 := ⟨by decide +kernel, rfl⟩
theorem d_X12_melting_259 : DD prog_14_method_49_code 259 (.aload_n 0) 1 260 := ⟨by decide +kernel, rfl⟩
theorem d_X12_melting_260 : DD prog_14_method_49_code 260 (.getfield 7) 3 263 := ⟨by decide +kernel, rfl⟩
theorem d_X12_melting_263 : DD prog_14_method_49_code 263 (.iload 7) 2 265 := ⟨by decide +kernel, rfl⟩
theorem d_X12_melting_265 : DD prog_14_method_49_code 265 (.iaload) 1 266 := ⟨by decide +kernel, rfl⟩
theorem d_X12_melting_266 : DJ prog_14_method_49_code 266 (fun o => .goto o) 275 3 269 := ⟨by decide +kernel, rfl⟩
theorem d_X12_melting_269 : DD prog_14_method_49_code 269 (.aload_n 0) 1 270 := ⟨by decide +kernel, rfl⟩
theorem d_X12_melting_270 : DD prog_14_method_49_code 270 (.getfield 17) 3 273 := ⟨by decide +kernel, rfl⟩
theorem d_X12_melting_273 : DD prog_14_method_49_code 273 (.iload_n 3) 1 274 := ⟨by decide +kernel, rfl⟩
theorem d_X12_melting_274 : DD prog_14_method_49_code 274 (.iaload) 1 275 := ⟨by decide +kernel, rfl⟩
theorem d_X12_melting_275 : DD prog_14_method_49_code 275 (.istore 9) 2 277 := ⟨by decide +kernel, rfl⟩
theorem d_X12_melting_277 : DD prog_14_method_49_code 277 (.aload_n 0) 1 278 := ⟨by decide +kernel, rfl⟩
theorem d_X12_melting_278 : DD prog_14_method_49_code 278 (.getfield 7) 3 281 := ⟨by decide +kernel, rfl⟩
theorem d_X12_melting_281 : DD prog_14_method_49_code 281 (.iload 7) 2 283 := ⟨by decide +kernel, rfl⟩
theorem d_X12_melting_283 : DD prog_14_method_49_code 283 (.dup2) 1 284 := ⟨by decide +kernel, rfl⟩
theorem d_X12_melting_284 : DD prog_14_method_49_code 284 (.iaload) 1 285 := ⟨by decide +kernel, rfl⟩
theorem d_X12_melting_285 : DD prog_14_method_49_code 285 (.iload 9) 2 287 := ⟨by decide +kernel, rfl⟩
theorem d_X12_melting_287 : DD prog_14_method_49_code 287 (.isub) 1 288 := ⟨by decide +kernel, rfl⟩
theorem d_X12_melting_288 : DD prog_14_method_49_code 288 (.iastore) 1 289 := ⟨by decide +kernel, rfl⟩
theorem d_X12_melting_289 : DD prog_14_method_49_code 289 (.aload_n 0) 1 290 := ⟨by decide +kernel, rfl⟩
theorem d_X12_melting_290 : DD prog_14_method_49_code 290 (.getfield 7) 3 293 := ⟨by decide +kernel, rfl⟩
theorem d_X12_melting_293 : DD prog_14_method_49_code 293 (.iload 6) 2 295 := ⟨by decide +kernel, rfl⟩
theorem d_X12_melting_295 : DD prog_14_method_49_code 295 (.dup2) 1 296 := ⟨by decide +kernel, rfl⟩
theorem d_X12_melting_296 : DD prog_14_method_49_code 296 (.iaload) 1 297 := ⟨by decide +kernel, rfl⟩
theorem d_X12_melting_297 : DD prog_14_method_49_code 297 (.iload 9) 2 299 := ⟨by decide +kernel, rfl⟩
theorem d_X12_melting_299 : DD prog_14_method_49_code 299 (.iadd) 1 300 := ⟨by decide +kernel, rfl⟩
theorem d_X12_melting_300 : DD prog_14_method_49_code 300 (.iastore) 1 301 := ⟨by decide +kernel, rfl⟩
theorem d_X12_melting_301 : DD prog_14_method_49_code 301 (.aload_n 0) 1 302 := ⟨by decide +kernel, rfl⟩
theorem d_X12_melting_302 : DD prog_14_method_49_code 302 (.iload_n 1) 1 303 := ⟨by decide +kernel, rfl⟩
theorem d_X12_melting_303 : DD prog_14_method_49_code 303 (.iconst 0) 1 304 := ⟨by decide +kernel, rfl⟩
theorem d_X12_melting_304 : DD prog_14_method_49_code 304 (.iload_n 2) 1 305 := ⟨by decide +kernel, rfl⟩
theorem d_X12_melting_305 : DD prog_14_method_49_code 305 (.invokevirtual 206) 3 308 := ⟨by decide +kernel, rfl⟩
theorem d_X12_melting_308 : DD prog_14_method_49_code 308 (.istore 10) 2 310 := ⟨by decide +kernel, rfl⟩
theorem d_X12_melting_310 : DD prog_14_method_49_code 310 (.aload_n 0) 1 311 := ⟨by decide +kernel, rfl⟩
theorem d_X12_melting_311 : DD prog_14_method_49_code 311 (.iload_n 1) 1 312 := ⟨by decide +kernel, rfl⟩
theorem d_X12_melting_312 : DD prog_14_method_49_code 312 (.iconst 1) 1 313 := ⟨by decide +kernel, rfl⟩
theorem d_X12_melting_313 : DD prog_14_method_49_code 313 (.iload_n 2) 1 314 := ⟨by decide +kernel, rfl⟩
theorem d_X12_melting_314 : DD prog_14_method_49_code 314 (.invokevirtual 206) 3 317 := ⟨by decide +kernel, rfl⟩
theorem d_X12_melting_317 : DD prog_14_method_49_code 317 (.istore 11) 2 319 := ⟨by decide +kernel, rfl⟩
theorem d_X12_melting_319 : DD prog_14_method_49_code 319 (.aload_n 0) 1 320 := ⟨by decide +kernel, rfl⟩
theorem d_X12_melting_320 : DD prog_14_method_49_code 320 (.getfield 7) 3 323 := ⟨by decide +kernel, rfl⟩
theorem d_X12_melting_323 : DD prog_14_method_49_code 323 (.iload_n 1) 1 324 := ⟨by decide +kernel, rfl⟩
theorem d_X12_melting_324 : DD prog_14_method_49_code 324 (.sipush 160) 3 327 := ⟨by decide +kernel, rfl⟩
theorem d_X12_melting_327 : DD prog_14_method_49_code 327 (.iadd) 1 328 := ⟨by decide +kernel, rfl⟩
theorem d_X12_melting_328 : DD prog_14_method_49_code 328 (.iload_n 2) 1 329 := ⟨by decide +kernel, rfl⟩
theorem d_X12_melting_329 : DD prog_14_method_49_code 329 (.iadd) 1 330 := ⟨by decide +kernel, rfl⟩
theorem d_X12_melting_330 : DD prog_14_method_49_code 330 (.iaload) 1 331 := ⟨by decide +kernel, rfl⟩
theorem d_X12_melting_331 : DD prog_14_method_49_code 331 (.istore 12) 2 333 := ⟨by decide +kernel, rfl⟩
theorem d_X12_melting_333 : DD prog_14_method_49_code 333 (.aload_n 0) 1 334 := ⟨by decide +kernel, rfl⟩
theorem d_X12_melting_334 : DD prog_14_method_49_code 334 (.getfield 7) 3 337 := ⟨by decide +kernel, rfl⟩
theorem d_X12_melting_337 : DD prog_14_method_49_code 337 (.iload_n 1) 1 338 := ⟨by decide +kernel, rfl⟩
theorem d_X12_melting_338 : DD prog_14_method_49_code 338 (.sipush 160) 3 341 := ⟨by decide +kernel, rfl⟩
theorem d_X12_melting_341 : DD prog_14_method_49_code 341 (.iadd) 1 342 := ⟨by decide +kernel, rfl⟩
theorem d_X12_melting_342 : DD prog_14_method_49_code 342 (.iload_n 2) 1 343 := ⟨by decide +kernel, rfl⟩
theorem d_X12_melting_343 : DD prog_14_method_49_code 343 (.iadd) 1 344 := ⟨by decide +kernel, rfl⟩
theorem d_X12_melting_344 : DD prog_14_method_49_code 344 (.iload 10) 2 346 := ⟨by decide +kernel, rfl⟩
theorem d_X12_melting_346 : DJ prog_14_method_49_code 346 (fun o => .ifCond .eq o) 368 3 349 := ⟨by decide +kernel, rfl⟩
theorem d_X12_melting_349 : DD prog_14_method_49_code 349 (.iload 11) 2 351 := ⟨by decide +kernel, rfl⟩
theorem d_X12_melting_351 : DJ prog_14_method_49_code 351 (fun o => .ifCond .ne o) 368 3 354 := ⟨by decide +kernel, rfl⟩
theorem d_X12_melting_354 : DD prog_14_method_49_code 354 (.iload 12) 2 356 := ⟨by decide +kernel, rfl⟩
theorem d_X12_melting_356 : DD prog_14_method_49_code 356 (.bipush 9) 2 358 := ⟨by decide +kernel, rfl⟩
theorem d_X12_melting_358 : DJ prog_14_method_49_code 358 (fun o => .if_icmp .ge o) 368 3 361 := ⟨by decide +kernel, rfl⟩
theorem d_X12_melting_361 : DD prog_14_method_49_code 361 (.iload 12) 2 363 := ⟨by decide +kernel, rfl⟩
theorem d_X12_melting_363 : DD prog_14_method_49_code 363 (.iconst 1) 1 364 := ⟨by decide +kernel, rfl⟩
theorem d_X12_melting_364 : DD prog_14_method_49_code 364 (.iadd) 1 365 := ⟨by decide +kernel, rfl⟩
theorem d_X12_melting_365 : DJ prog_14_method_49_code 365 (fun o => .goto o) 394 3 368 := ⟨by decide +kernel, rfl⟩
theorem d_X12_melting_368 : DD prog_14_method_49_code 368 (.iload 11) 2 370 := ⟨by decide +kernel, rfl⟩
theorem d_X12_melting_370 : DJ prog_14_method_49_code 370 (fun o => .ifCond .eq o) 392 3 373 := ⟨by decide +kernel, rfl⟩
theorem d_X12_melting_373 : DD prog_14_method_49_code 373 (.iload 10) 2 375 := ⟨by decide +kernel, rfl⟩
theorem d_X12_melting_375 : DJ prog_14_method_49_code 375 (fun o => .ifCond .ne o) 392 3 378 := ⟨by decide +kernel, rfl⟩
theorem d_X12_melting_378 : DD prog_14_method_49_code 378 (.iload 12) 2 380 := ⟨by decide +kernel, rfl⟩
theorem d_X12_melting_380 : DD prog_14_method_49_code 380 (.bipush (-9)) 2 382 := ⟨by decide +kernel, rfl⟩
theorem d_X12_melting_382 : DJ prog_14_method_49_code 382 (fun o => .if_icmp .le o) 392 3 385 := ⟨by decide +kernel, rfl⟩
theorem d_X12_melting_385 : DD prog_14_method_49_code 385 (.iload 12) 2 387 := ⟨by decide +kernel, rfl⟩
theorem d_X12_melting_387 : DD prog_14_method_49_code 387 (.iconst 1) 1 388 := ⟨by decide +kernel, rfl⟩
theorem d_X12_melting_388 : DD prog_14_method_49_code 388 (.isub) 1 389 := ⟨by decide +kernel, rfl⟩
theorem d_X12_melting_389 : DJ prog_14_method_49_code 389 (fun o => .goto o) 394 3 392 := ⟨by decide +kernel, rfl⟩
theorem d_X12_melting_392 : DD prog_14_method_49_code 392 (.iload 12) 2 394 := ⟨by decide +kernel, rfl⟩
theorem d_X12_melting_394 : DD prog_14_method_49_code 394 (.iastore) 1 395 := ⟨by decide +kernel, rfl⟩
theorem d_X12_melting_395 : DD prog_14_method_49_code 395 (.return_) 1 396 := ⟨by decide +kernel, rfl⟩
theorem d_X12_goes_0 : DD prog_14_method_50_code 0 (.aload_n 0) 1 1 := ⟨by decide +kernel, rfl⟩
theorem d_X12_goes_1 : DD prog_14_method_50_code 1 (.getfield 7) 3 4 := ⟨by decide +kernel, rfl⟩
theorem d_X12_goes_4 : DD prog_14_method_50_code 4 (.iload_n 1) 1 5 := ⟨by decide +kernel, rfl⟩
theorem d_X12_goes_5 : DD prog_14_method_50_code 5 (.sipush 170) 3 8 := ⟨by decide +kernel, rfl⟩
theorem d_X12_goes_8 : DD prog_14_method_50_code 8 (.iadd) 1 9 := ⟨by decide +kernel, rfl⟩
theorem d_X12_goes_9 : DD prog_14_method_50_code 9 (.iaload) 1 10 := ⟨by decide +kernel, rfl⟩
theorem d_X12_goes_10 : DD prog_14_method_50_code 10 (.istore_n 2) 1 11 := ⟨by decide +kernel, rfl⟩
theorem d_X12_goes_11 : DD prog_14_method_50_code 11 (.iconst 0) 1 12 := ⟨by decide +kernel, rfl⟩
theorem d_X12_goes_12 : DD prog_14_method_50_code 12 (.istore_n 3) 1 13 := ⟨by decide +kernel, rfl⟩
theorem d_X12_goes_13 : DD prog_14_method_50_code 13 (.iload_n 3) 1 14 := ⟨by decide +kernel, rfl⟩
theorem d_X12_goes_14 : DD prog_14_method_50_code 14 (.aload_n 0) 1 15 := ⟨by decide +kernel, rfl⟩
theorem d_X12_goes_15 : DD prog_14_method_50_code 15 (.getfield 13) 3 18 := ⟨by decide +kernel, rfl⟩
theorem d_X12_goes_18 : DJ prog_14_method_50_code 18 (fun o => .if_icmp .ge o) 44 3 21 := ⟨by decide +kernel, rfl⟩
theorem d_X12_goes_21 : DD prog_14_method_50_code 21 (.aload_n 0) 1 22 := ⟨by decide +kernel, rfl⟩
theorem d_X12_goes_22 : DD prog_14_method_50_code 22 (.iload_n 1) 1 23 := ⟨by decide +kernel, rfl⟩
theorem d_X12_goes_23 : DD prog_14_method_50_code 23 (.iload_n 3) 1 24 := ⟨by decide +kernel, rfl⟩
theorem d_X12_goes_24 : DD prog_14_method_50_code 24 (.iload_n 2) 1 25 := ⟨by decide +kernel, rfl⟩
theorem d_X12_goes_25 : DD prog_14_method_50_code 25 (.aload_n 0) 1 26 := ⟨by decide +kernel, rfl⟩
theorem d_X12_goes_26 : DD prog_14_method_50_code 26 (.getfield 7) 3 29 := ⟨by decide +kernel, rfl⟩
theorem d_X12_goes_29 : DD prog_14_method_50_code 29 (.sipush 171) 3 32 := ⟨by decide +kernel, rfl⟩
theorem d_X12_goes_32 : DD prog_14_method_50_code 32 (.iload_n 2) 1 33 := ⟨by decide +kernel, rfl⟩
theorem d_X12_goes_33 : DD prog_14_method_50_code 33 (.iadd) 1 34 := ⟨by decide +kernel, rfl⟩
theorem d_X12_goes_34 : DD prog_14_method_50_code 34 (.iaload) 1 35 := ⟨by decide +kernel, rfl⟩
theorem d_X12_goes_35 : DD prog_14_method_50_code 35 (.invokevirtual 239) 3 38 := ⟨by decide +kernel, rfl⟩
theorem d_X12_goes_38 : DD prog_14_method_50_code 38 (.iinc 3 1) 3 41 := ⟨by decide +kernel, rfl⟩
theorem d_X12_goes_41 : DJ prog_14_method_50_code 41 (fun o => .goto o) 13 3 44 := ⟨by decide +kernel, rfl⟩
theorem d_X12_goes_44 : DD prog_14_method_50_code 44 (.aload_n 0) 1 45 := ⟨by decide +kernel, rfl⟩
theorem d_X12_goes_45 : DD prog_14_method_50_code 45 (.getfield 7) 3 48 := ⟨by decide +kernel, rfl⟩
theorem d_X12_goes_48 : DD prog_14_method_50_code 48 (.iload_n 1) 1 49 := ⟨by decide +kernel, rfl⟩
theorem d_X12_goes_49 : DD prog_14_method_50_code 49 (.sipush 170) 3 52 := ⟨by decide +kernel, rfl⟩
theorem d_X12_goes_52 : DD prog_14_method_50_code 52 (.iadd) 1 53 := ⟨by decide +kernel, rfl⟩
theorem d_X12_goes_53 : DD prog_14_method_50_code 53 (.dup2) 1 54 := ⟨by decide +kernel, rfl⟩
theorem d_X12_goes_54 : DD prog_14_method_50_code 54 (.iaload) 1 55 := ⟨by decide +kernel, rfl⟩
theorem d_X12_goes_55 : DD prog_14_method_50_code 55 (.iconst 1) 1 56 := ⟨by decide +kernel, rfl⟩
theorem d_X12_goes_56 : DD prog_14_method_50_code 56 (.iadd) 1 57 := ⟨by decide +kernel, rfl⟩
theorem d_X12_goes_57 : DD prog_14_method_50_code 57 (.iastore) 1 58 := ⟨by decide +kernel, rfl⟩
theorem d_X12_goes_58 : DD prog_14_method_50_code 58 (.return_) 1 59 := ⟨by decide +kernel, rfl⟩
theorem d_X12_go_0 : DD prog_14_method_51_code 0 (.iload_n 1) 1 1 := ⟨by decide +kernel, rfl⟩
theorem d_X12_go_1 : DD prog_14_method_51_code 1 (.i2l) 1 2 := ⟨by decide +kernel, rfl⟩
theorem d_X12_go_2 : DD prog_14_method_51_code 2 (.lconst 1) 1 3 := ⟨by decide +kernel, rfl⟩
theorem d_X12_go_3 : DD prog_14_method_51_code 3 (.ldc2_w 243) 3 6 := ⟨by decide +kernel, rfl⟩
theorem d_X12_go_6 : DD prog_14_method_51_code 6 (.invokestatic 75) 3 9 := ⟨by decide +kernel, rfl⟩
theorem d_X12_go_9 : DJ prog_14_method_51_code 9 (fun o => .ifCond .ne o) 14 3 12 := ⟨by decide +kernel, rfl⟩
theorem d_X12_go_12 : DD prog_14_method_51_code 12 (.iconst (-1)) 1 13 := ⟨by decide +kernel, rfl⟩
theorem d_X12_go_13 : DD prog_14_method_51_code 13 (.ireturn) 1 14 := ⟨by decide +kernel, rfl⟩
theorem d_X12_go_14 : DD prog_14_method_51_code 14 (.aload_n 0) 1 15 := ⟨by decide +kernel, rfl⟩
theorem d_X12_go_15 : DD prog_14_method_51_code 15 (.invokevirtual 185) 3 18 := ⟨by decide +kernel, rfl⟩
theorem d_X12_go_18 : DD prog_14_method_51_code 18 (.iload_n 1) 1 19 := ⟨by decide +kernel, rfl⟩
theorem d_X12_go_19 : DD prog_14_method_51_code 19 (.iadd) 1 20 := ⟨by decide +kernel, rfl⟩
theorem d_X12_go_20 : DD prog_14_method_51_code 20 (.bipush 12) 2 22 := ⟨by decide +kernel, rfl⟩
theorem d_X12_go_22 : DJ prog_14_method_51_code 22 (fun o => .if_icmp .le o) 28 3 25 := ⟨by decide +kernel, rfl⟩
theorem d_X12_go_25 : DD prog_14_method_51_code 25 (.bipush (-2)) 2 27 := ⟨by decide +kernel, rfl⟩
theorem d_X12_go_27 : DD prog_14_method_51_code 27 (.ireturn) 1 28 := ⟨by decide +kernel, rfl⟩
theorem d_X12_go_28 : DD prog_14_method_51_code 28 (.iconst 0) 1 29 := ⟨by decide +kernel, rfl⟩
theorem d_X12_go_29 : DD prog_14_method_51_code 29 (.istore_n 2) 1 30 := ⟨by decide +kernel, rfl⟩
theorem d_X12_go_30 : DD prog_14_method_51_code 30 (.iload_n 2) 1 31 := ⟨by decide +kernel, rfl⟩
theorem d_X12_go_31 : DD prog_14_method_51_code 31 (.iload_n 1) 1 32 := ⟨by decide +kernel, rfl⟩
theorem d_X12_go_32 : DJ prog_14_method_51_code 32 (fun o => .if_icmp .ge o) 46 3 35 := ⟨by decide +kernel, rfl⟩
theorem d_X12_go_35 : DD prog_14_method_51_code 35 (.aload_n 0) 1 36 := ⟨by decide +kernel, rfl⟩
theorem d_X12_go_36 : DD prog_14_method_51_code 36 (.iconst 0) 1 37 := ⟨by decide +kernel, rfl⟩
theorem d_X12_go_37 : DD prog_14_method_51_code 37 (.invokevirtual 245) 3 40 := ⟨by decide +kernel, rfl⟩
theorem d_X12_go_40 : DD prog_14_method_51_code 40 (.iinc 2 1) 3 43 := ⟨by decide +kernel, rfl⟩
theorem d_X12_go_43 : DJ prog_14_method_51_code 43 (fun o => .goto o) 30 3 46 := ⟨by decide +kernel, rfl⟩
theorem d_X12_go_46 : DD prog_14_method_51_code 46 (.aload_n 0) 1 47 := ⟨by decide +kernel, rfl⟩
theorem d_X12_go_47 : DD prog_14_method_51_code 47 (.invokevirtual 185) 3 50 := ⟨by decide +kernel, rfl⟩
theorem d_X12_go_50 : DD prog_14_method_51_code 50 (.ireturn) 1 51 := ⟨by decide +kernel, rfl⟩
theorem d_X12_dawn_0 : DD prog_14_method_52_code 0 (.aload_n 0) 1 1 := ⟨by decide +kernel, rfl⟩
theorem d_X12_dawn_1 : DD prog_14_method_52_code 1 (.invokevirtual 185) 3 4 := ⟨by decide +kernel, rfl⟩
theorem d_X12_dawn_4 : DD prog_14_method_52_code 4 (.istore_n 1) 1 5 := ⟨by decide +kernel, rfl⟩
theorem d_X12_dawn_5 : DD prog_14_method_52_code 5 (.aload_n 0) 1 6 := ⟨by decide +kernel, rfl⟩
theorem d_X12_dawn_6 : DD prog_14_method_52_code 6 (.getfield 7) 3 9 := ⟨by decide +kernel, rfl⟩
theorem d_X12_dawn_9 : DD prog_14_method_52_code 9 (.sipush 170) 3 12 := ⟨by decide +kernel, rfl⟩
theorem d_X12_dawn_12 : DD prog_14_method_52_code 12 (.iconst 0) 1 13 := ⟨by decide +kernel, rfl⟩
theorem d_X12_dawn_13 : DD prog_14_method_52_code 13 (.iastore) 1 14 := ⟨by decide +kernel, rfl⟩
theorem d_X12_dawn_14 : DD prog_14_method_52_code 14 (.iload_n 1) 1 15 := ⟨by decide +kernel, rfl⟩
theorem d_X12_dawn_15 : DD prog_14_method_52_code 15 (.ireturn) 1 16 := ⟨by decide +kernel, rfl⟩
theorem d_X12_all_0 : DD prog_14_method_53_code 0 (.iconst 0) 1 1 := ⟨by decide +kernel, rfl⟩
theorem d_X12_all_1 : DD prog_14_method_53_code 1 (.istore_n 1) 1 2 := ⟨by decide +kernel, rfl⟩
theorem d_X12_all_2 : DD prog_14_method_53_code 2 (.iconst 0) 1 3 := ⟨by decide +kernel, rfl⟩
theorem d_X12_all_3 : DD prog_14_method_53_code 3 (.istore_n 2) 1 4 := ⟨by decide +kernel, rfl⟩
theorem d_X12_all_4 : DD prog_14_method_53_code 4 (.iload_n 2) 1 5 := ⟨by decide +kernel, rfl⟩
theorem d_X12_all_5 : DD prog_14_method_53_code 5 (.aload_n 0) 1 6 := ⟨by decide +kernel, rfl⟩
theorem d_X12_all_6 : DD prog_14_method_53_code 6 (.getfield 13) 3 9 := ⟨by decide +kernel, rfl⟩
theorem d_X12_all_9 : DJ prog_14_method_53_code 9 (fun o => .if_icmp .ge o) 109 3 12 := ⟨by decide +kernel, rfl⟩
theorem d_X12_all_12 : DD prog_14_method_53_code 12 (.iload_n 1) 1 13 := ⟨by decide +kernel, rfl⟩
theorem d_X12_all_13 : DD prog_14_method_53_code 13 (.aload_n 0) 1 14 := ⟨by decide +kernel, rfl⟩
theorem d_X12_all_14 : DD prog_14_method_53_code 14 (.getfield 7) 3 17 := ⟨by decide +kernel, rfl⟩
theorem d_X12_all_17 : DD prog_14_method_53_code 17 (.sipush 140) 3 20 := ⟨by decide +kernel, rfl⟩
theorem d_X12_all_20 : DD prog_14_method_53_code 20 (.iload_n 2) 1 21 := ⟨by decide +kernel, rfl⟩
theorem d_X12_all_21 : DD prog_14_method_53_code 21 (.iadd) 1 22 := ⟨by decide +kernel, rfl⟩
theorem d_X12_all_22 : DD prog_14_method_53_code 22 (.iaload) 1 23 := ⟨by decide +kernel, rfl⟩
theorem d_X12_all_23 : DD prog_14_method_53_code 23 (.aload_n 0) 1 24 := ⟨by decide +kernel, rfl⟩
theorem d_X12_all_24 : DD prog_14_method_53_code 24 (.getfield 7) 3 27 := ⟨by decide +kernel, rfl⟩
theorem d_X12_all_27 : DD prog_14_method_53_code 27 (.sipush 150) 3 30 := ⟨by decide +kernel, rfl⟩
theorem d_X12_all_30 : DD prog_14_method_53_code 30 (.iload_n 2) 1 31 := ⟨by decide +kernel, rfl⟩
theorem d_X12_all_31 : DD prog_14_method_53_code 31 (.iadd) 1 32 := ⟨by decide +kernel, rfl⟩
theorem d_X12_all_32 : DD prog_14_method_53_code 32 (.iaload) 1 33 := ⟨by decide +kernel, rfl⟩
theorem d_X12_all_33 : DD prog_14_method_53_code 33 (.iadd) 1 34 := ⟨by decide +kernel, rfl⟩
theorem d_X12_all_34 : DD prog_14_method_53_code 34 (.iadd) 1 35 := ⟨by decide +kernel, rfl⟩
theorem d_X12_all_35 : DD prog_14_method_53_code 35 (.istore_n 1) 1 36 := ⟨by decide +kernel, rfl⟩
theorem d_X12_all_36 : DD prog_14_method_53_code 36 (.iconst 0) 1 37 := ⟨by decide +kernel, rfl⟩
theorem d_X12_all_37 : DD prog_14_method_53_code 37 (.istore_n 3) 1 38 := ⟨by decide +kernel, rfl⟩
theorem d_X12_all_38 : DD prog_14_method_53_code 38 (.iload_n 3) 1 39 := ⟨by decide +kernel, rfl⟩
theorem d_X12_all_39 : DD prog_14_method_53_code 39 (.iconst 2) 1 40 := ⟨by decide +kernel, rfl⟩
theorem d_X12_all_40 : DJ prog_14_method_53_code 40 (fun o => .if_icmp .ge o) 103 3 43 := ⟨by decide +kernel, rfl⟩
theorem d_X12_all_43 : DD prog_14_method_53_code 43 (.iload_n 3) 1 44 := ⟨by decide +kernel, rfl⟩
theorem d_X12_all_44 : DD prog_14_method_53_code 44 (.iload_n 2) 1 45 := ⟨by decide +kernel, rfl⟩
theorem d_X12_all_45 : DD prog_14_method_53_code 45 (.invokestatic 198) 3 48 := ⟨by decide +kernel, rfl⟩
theorem d_X12_all_48 : DD prog_14_method_53_code 48 (.istore 4) 2 50 := ⟨by decide +kernel, rfl⟩
theorem d_X12_all_50 : DD prog_14_method_53_code 50 (.iload_n 1) 1 51 := ⟨by decide +kernel, rfl⟩
theorem d_X12_all_51 : DD prog_14_method_53_code 51 (.aload_n 0) 1 52 := ⟨by decide +kernel, rfl⟩
theorem d_X12_all_52 : DD prog_14_method_53_code 52 (.getfield 7) 3 55 := ⟨by decide +kernel, rfl⟩
theorem d_X12_all_55 : DD prog_14_method_53_code 55 (.iload 4) 2 57 := ⟨by decide +kernel, rfl⟩
theorem d_X12_all_57 : DD prog_14_method_53_code 57 (.iaload) 1 58 := ⟨by decide +kernel, rfl⟩
theorem d_X12_all_58 : DD prog_14_method_53_code 58 (.iconst 1) 1 59 := ⟨by decide +kernel, rfl⟩
theorem d_X12_all_59 : DJ prog_14_method_53_code 59 (fun o => .if_icmp .ne o) 94 3 62 := ⟨by decide +kernel, rfl⟩
theorem d_X12_all_62 : DD prog_14_method_53_code 62 (.aload_n 0) 1 63 := ⟨by decide +kernel, rfl⟩
theorem d_X12_all_63 : DD prog_14_method_53_code 63 (.getfield 7) 3 66 := ⟨by decide +kernel, rfl⟩
theorem d_X12_all_66 : DD prog_14_method_53_code 66 (.iload 4) 2 68 := ⟨by decide +kernel, rfl⟩
theorem d_X12_all_68 : DD prog_14_method_53_code 68 (.iconst 2) 1 69 := ⟨by decide +kernel, rfl⟩
theorem d_X12_all_69 : DD prog_14_method_53_code 69 (.iadd) 1 70 := ⟨by decide +kernel, rfl⟩
theorem d_X12_all_70 : DD prog_14_method_53_code 70 (.iaload) 1 71 := ⟨by decide +kernel, rfl⟩
theorem d_X12_all_71 : DD prog_14_method_53_code 71 (.aload_n 0) 1 72 := ⟨by decide +kernel, rfl⟩
theorem d_X12_all_72 : DD prog_14_method_53_code 72 (.getfield 7) 3 75 := ⟨by decide +kernel, rfl⟩
theorem d_X12_all_75 : DD prog_14_method_53_code 75 (.iload 4) 2 77 := ⟨by decide +kernel, rfl⟩
theorem d_X12_all_77 : DD prog_14_method_53_code 77 (.iconst 3) 1 78 := ⟨by decide +kernel, rfl⟩
theorem d_X12_all_78 : DD prog_14_method_53_code 78 (.iadd) 1 79 := ⟨by decide +kernel, rfl⟩
theorem d_X12_all_79 : DD prog_14_method_53_code 79 (.iaload) 1 80 := ⟨by decide +kernel, rfl⟩
theorem d_X12_all_80 : DD prog_14_method_53_code 80 (.iadd) 1 81 := ⟨by decide +kernel, rfl⟩
theorem d_X12_all_81 : DD prog_14_method_53_code 81 (.aload_n 0) 1 82 := ⟨by decide +kernel, rfl⟩
theorem d_X12_all_82 : DD prog_14_method_53_code 82 (.getfield 7) 3 85 := ⟨by decide +kernel, rfl⟩
theorem d_X12_all_85 : DD prog_14_method_53_code 85 (.iload 4) 2 87 := ⟨by decide +kernel, rfl⟩
theorem d_X12_all_87 : DD prog_14_method_53_code 87 (.iconst 4) 1 88 := ⟨by decide +kernel, rfl⟩
theorem d_X12_all_88 : DD prog_14_method_53_code 88 (.iadd) 1 89 := ⟨by decide +kernel, rfl⟩
theorem d_X12_all_89 : DD prog_14_method_53_code 89 (.iaload) 1 90 := ⟨by decide +kernel, rfl⟩
theorem d_X12_all_90 : DD prog_14_method_53_code 90 (.iadd) 1 91 := ⟨by decide +kernel, rfl⟩
theorem d_X12_all_91 : DJ prog_14_method_53_code 91 (fun o => .goto o) 95 3 94 := ⟨by decide +kernel, rfl⟩
theorem d_X12_all_94 : DD prog_14_method_53_code 94 (.iconst 0) 1 95 := ⟨by decide +kernel, rfl⟩
theorem d_X12_all_95 : DD prog_14_method_53_code 95 (.iadd) 1 96 := ⟨by decide +kernel, rfl⟩
theorem d_X12_all_96 : DD prog_14_method_53_code 96 (.istore_n 1) 1 97 := ⟨by decide +kernel, rfl⟩
theorem d_X12_all_97 : DD prog_14_method_53_code 97 (.iinc 3 1) 3 100 := ⟨by decide +kernel, rfl⟩
theorem d_X12_all_100 : DJ prog_14_method_53_code 100 (fun o => .goto o) 38 3 103 := ⟨by decide +kernel, rfl⟩
theorem d_X12_all_103 : DD prog_14_method_53_code 103 (.iinc 2 1) 3 106 := ⟨by decide +kernel, rfl⟩
theorem d_X12_all_106 : DJ prog_14_method_53_code 106 (fun o => .goto o) 4 3 109 := ⟨by decide +kernel, rfl⟩
theorem d_X12_all_109 : DD prog_14_method_53_code 109 (.iload_n 1) 1 110 := ⟨by decide +kernel, rfl⟩
theorem d_X12_all_110 : DD prog_14_method_53_code 110 (.ireturn) 1 111 := ⟨by decide +kernel, rfl⟩
theorem d_X12_copies_0 : DD prog_14_method_54_code 0 (.iconst 0) 1 1 := ⟨by decide +kernel, rfl⟩
theorem d_X12_copies_1 : DD prog_14_method_54_code 1 (.istore_n 3) 1 2 := ⟨by decide +kernel, rfl⟩
theorem d_X12_copies_2 : DD prog_14_method_54_code 2 (.iload_n 3) 1 3 := ⟨by decide +kernel, rfl⟩
theorem d_X12_copies_3 : DD prog_14_method_54_code 3 (.sipush 210) 3 6 := ⟨by decide +kernel, rfl⟩
theorem d_X12_copies_6 : DJ prog_14_method_54_code 6 (fun o => .if_icmp .ge o) 31 3 9 := ⟨by decide +kernel, rfl⟩
theorem d_X12_copies_9 : DD prog_14_method_54_code 9 (.aload_n 0) 1 10 := ⟨by decide +kernel, rfl⟩
theorem d_X12_copies_10 : DD prog_14_method_54_code 10 (.getfield 7) 3 13 := ⟨by decide +kernel, rfl⟩
theorem d_X12_copies_13 : DD prog_14_method_54_code 13 (.iload_n 2) 1 14 := ⟨by decide +kernel, rfl⟩
theorem d_X12_copies_14 : DD prog_14_method_54_code 14 (.iload_n 3) 1 15 := ⟨by decide +kernel, rfl⟩
theorem d_X12_copies_15 : DD prog_14_method_54_code 15 (.iadd) 1 16 := ⟨by decide +kernel, rfl⟩
theorem d_X12_copies_16 : DD prog_14_method_54_code 16 (.aload_n 0) 1 17 := ⟨by decide +kernel, rfl⟩
theorem d_X12_copies_17 : DD prog_14_method_54_code 17 (.getfield 7) 3 20 := ⟨by decide +kernel, rfl⟩
theorem d_X12_copies_20 : DD prog_14_method_54_code 20 (.iload_n 1) 1 21 := ⟨by decide +kernel, rfl⟩
theorem d_X12_copies_21 : DD prog_14_method_54_code 21 (.iload_n 3) 1 22 := ⟨by decide +kernel, rfl⟩
theorem d_X12_copies_22 : DD prog_14_method_54_code 22 (.iadd) 1 23 := ⟨by decide +kernel, rfl⟩
theorem d_X12_copies_23 : DD prog_14_method_54_code 23 (.iaload) 1 24 := ⟨by decide +kernel, rfl⟩
theorem d_X12_copies_24 : DD prog_14_method_54_code 24 (.iastore) 1 25 := ⟨by decide +kernel, rfl⟩
theorem d_X12_copies_25 : DD prog_14_method_54_code 25 (.iinc 3 1) 3 28 := ⟨by decide +kernel, rfl⟩
theorem d_X12_copies_28 : DJ prog_14_method_54_code 28 (fun o => .goto o) 2 3 31 := ⟨by decide +kernel, rfl⟩
theorem d_X12_copies_31 : DD prog_14_method_54_code 31 (.return_) 1 32 := ⟨by decide +kernel, rfl⟩
theorem d_X12_isAhead_0 : DD prog_14_method_55_code 0 (.iload_n 1) 1 1 := ⟨by decide +kernel, rfl⟩
theorem d_X12_isAhead_1 : DD prog_14_method_55_code 1 (.i2l) 1 2 := ⟨by decide +kernel, rfl⟩
theorem d_X12_isAhead_2 : DD prog_14_method_55_code 2 (.aload_n 0) 1 3 := ⟨by decide +kernel, rfl⟩
theorem d_X12_isAhead_3 : DD prog_14_method_55_code 3 (.invokevirtual 185) 3 6 := ⟨by decide +kernel, rfl⟩
theorem d_X12_isAhead_6 : DD prog_14_method_55_code 6 (.i2l) 1 7 := ⟨by decide +kernel, rfl⟩
theorem d_X12_isAhead_7 : DD prog_14_method_55_code 7 (.ldc2_w 243) 3 10 := ⟨by decide +kernel, rfl⟩
theorem d_X12_isAhead_10 : DD prog_14_method_55_code 10 (.invokestatic 75) 3 13 := ⟨by decide +kernel, rfl⟩
theorem d_X12_isAhead_13 : DD prog_14_method_55_code 13 (.ireturn) 1 14 := ⟨by decide +kernel, rfl⟩
theorem d_X12_trialTo_0 : DD prog_14_method_56_code 0 (.aload_n 0) 1 1 := ⟨by decide +kernel, rfl⟩
theorem d_X12_trialTo_1 : DD prog_14_method_56_code 1 (.iconst 0) 1 2 := ⟨by decide +kernel, rfl⟩
theorem d_X12_trialTo_2 : DD prog_14_method_56_code 2 (.sipush 630) 3 5 := ⟨by decide +kernel, rfl⟩
theorem d_X12_trialTo_5 : DD prog_14_method_56_code 5 (.invokevirtual 248) 3 8 := ⟨by decide +kernel, rfl⟩
theorem d_X12_trialTo_8 : DD prog_14_method_56_code 8 (.aload_n 0) 1 9 := ⟨by decide +kernel, rfl⟩
theorem d_X12_trialTo_9 : DD prog_14_method_56_code 9 (.getfield 7) 3 12 := ⟨by decide +kernel, rfl⟩
theorem d_X12_trialTo_12 : DD prog_14_method_56_code 12 (.sipush 800) 3 15 := ⟨by decide +kernel, rfl⟩
theorem d_X12_trialTo_15 : DD prog_14_method_56_code 15 (.iaload) 1 16 := ⟨by decide +kernel, rfl⟩
theorem d_X12_trialTo_16 : DD prog_14_method_56_code 16 (.iload_n 1) 1 17 := ⟨by decide +kernel, rfl⟩
theorem d_X12_trialTo_17 : DJ prog_14_method_56_code 17 (fun o => .if_icmp .ge o) 30 3 20 := ⟨by decide +kernel, rfl⟩
theorem d_X12_trialTo_20 : DD prog_14_method_56_code 20 (.aload_n 0) 1 21 := ⟨by decide +kernel, rfl⟩
theorem d_X12_trialTo_21 : DD prog_14_method_56_code 21 (.sipush 630) 3 24 := ⟨by decide +kernel, rfl⟩
theorem d_X12_trialTo_24 : DD prog_14_method_56_code 24 (.invokevirtual 245) 3 27 := ⟨by decide +kernel, rfl⟩
theorem d_X12_trialTo_27 : DJ prog_14_method_56_code 27 (fun o => .goto o) 8 3 30 := ⟨by decide +kernel, rfl⟩
theorem d_X12_trialTo_30 : DD prog_14_method_56_code 30 (.return_) 1 31 := ⟨by decide +kernel, rfl⟩
theorem d_X12_later_0 : DD prog_14_method_57_code 0 (.iload_n 1) 1 1 := ⟨by decide +kernel, rfl⟩
theorem d_X12_later_1 : DD prog_14_method_57_code 1 (.invokestatic 210) 3 4 := ⟨by decide +kernel, rfl⟩
theorem d_X12_later_4 : DJ prog_14_method_57_code 4 (fun o => .ifCond .eq o) 23 3 7 := ⟨by decide +kernel, rfl⟩
theorem d_X12_later_7 : DD prog_14_method_57_code 7 (.aload_n 0) 1 8 := ⟨by decide +kernel, rfl⟩
theorem d_X12_later_8 : DD prog_14_method_57_code 8 (.iload_n 2) 1 9 := ⟨by decide +kernel, rfl⟩
theorem d_X12_later_9 : DD prog_14_method_57_code 9 (.invokevirtual 201) 3 12 := ⟨by decide +kernel, rfl⟩
theorem d_X12_later_12 : DJ prog_14_method_57_code 12 (fun o => .ifCond .eq o) 23 3 15 := ⟨by decide +kernel, rfl⟩
theorem d_X12_later_15 : DD prog_14_method_57_code 15 (.aload_n 0) 1 16 := ⟨by decide +kernel, rfl⟩
theorem d_X12_later_16 : DD prog_14_method_57_code 16 (.iload_n 3) 1 17 := ⟨by decide +kernel, rfl⟩
theorem d_X12_later_17 : DD prog_14_method_57_code 17 (.invokevirtual 251) 3 20 := ⟨by decide +kernel, rfl⟩
theorem d_X12_later_20 : DJ prog_14_method_57_code 20 (fun o => .ifCond .ne o) 25 3 23 := ⟨by decide +kernel, rfl⟩
theorem d_X12_later_23 : DD prog_14_method_57_code 23 (.iconst (-1)) 1 24 := ⟨by decide +kernel, rfl⟩
theorem d_X12_later_24 : DD prog_14_method_57_code 24 (.ireturn) 1 25 := ⟨by decide +kernel, rfl⟩
theorem d_X12_later_25 : DD prog_14_method_57_code 25 (.aload_n 0) 1 26 := ⟨by decide +kernel, rfl⟩
theorem d_X12_later_26 : DD prog_14_method_57_code 26 (.iload_n 3) 1 27 := ⟨by decide +kernel, rfl⟩
theorem d_X12_later_27 : DD prog_14_method_57_code 27 (.invokevirtual 254) 3 30 := ⟨by decide +kernel, rfl⟩
theorem d_X12_later_30 : DD prog_14_method_57_code 30 (.aload_n 0) 1 31 := ⟨by decide +kernel, rfl⟩
theorem d_X12_later_31 : DD prog_14_method_57_code 31 (.sipush 630) 3 34 := ⟨by decide +kernel, rfl⟩
theorem d_X12_later_34 : DD prog_14_method_57_code 34 (.iload_n 1) 1 35 := ⟨by decide +kernel, rfl⟩
theorem d_X12_later_35 : DD prog_14_method_57_code 35 (.iload_n 2) 1 36 := ⟨by decide +kernel, rfl⟩
theorem d_X12_later_36 : DD prog_14_method_57_code 36 (.invokevirtual 215) 3 39 := ⟨by decide +kernel, rfl⟩
theorem d_X12_later_39 : DJ prog_14_method_57_code 39 (fun o => .ifCond .eq o) 61 3 42 := ⟨by decide +kernel, rfl⟩
theorem d_X12_later_42 : DD prog_14_method_57_code 42 (.aload_n 0) 1 43 := ⟨by decide +kernel, rfl⟩
theorem d_X12_later_43 : DD prog_14_method_57_code 43 (.getfield 7) 3 46 := ⟨by decide +kernel, rfl⟩
theorem d_X12_later_46 : DD prog_14_method_57_code 46 (.sipush 630) 3 49 := ⟨by decide +kernel, rfl⟩
theorem d_X12_later_49 : DD prog_14_method_57_code 49 (.iload_n 1) 1 50 := ⟨by decide +kernel, rfl⟩
theorem d_X12_later_50 : DD prog_14_method_57_code 50 (.iload_n 2) 1 51 := ⟨by decide +kernel, rfl⟩
theorem d_X12_later_51 : DD prog_14_method_57_code 51 (.invokestatic 198) 3 54 := ⟨by decide +kernel, rfl⟩
theorem d_X12_later_54 : DD prog_14_method_57_code 54 (.iadd) 1 55 := ⟨by decide +kernel, rfl⟩
theorem d_X12_later_55 : DD prog_14_method_57_code 55 (.iconst 4) 1 56 := ⟨by decide +kernel, rfl⟩
theorem d_X12_later_56 : DD prog_14_method_57_code 56 (.iadd) 1 57 := ⟨by decide +kernel, rfl⟩
theorem d_X12_later_57 : DD prog_14_method_57_code 57 (.iaload) 1 58 := ⟨by decide +kernel, rfl⟩
theorem d_X12_later_58 : DJ prog_14_method_57_code 58 (fun o => .goto o) 63 3 61 := ⟨by decide +kernel, rfl⟩
theorem d_X12_later_61 : DD prog_14_method_57_code 61 (.bipush (-4)) 2 63 := ⟨by decide +kernel, rfl⟩
theorem d_X12_later_63 : DD prog_14_method_57_code 63 (.ireturn) 1 64 := ⟨by decide +kernel, rfl⟩
theorem d_X12_line_0 : DD prog_14_method_58_code 0 (.aload_n 0) 1 1 := ⟨by decide +kernel, rfl⟩
theorem d_X12_line_1 : DD prog_14_method_58_code 1 (.iload_n 1) 1 2 := ⟨by decide +kernel, rfl⟩
theorem d_X12_line_2 : DD prog_14_method_58_code 2 (.invokevirtual 201) 3 5 := ⟨by decide +kernel, rfl⟩
theorem d_X12_line_5 : DJ prog_14_method_58_code 5 (fun o => .ifCond .eq o) 16 3 8 := ⟨by decide +kernel, rfl⟩
theorem d_X12_line_8 : DD prog_14_method_58_code 8 (.aload_n 0) 1 9 := ⟨by decide +kernel, rfl⟩
theorem d_X12_line_9 : DD prog_14_method_58_code 9 (.iload_n 2) 1 10 := ⟨by decide +kernel, rfl⟩
theorem d_X12_line_10 : DD prog_14_method_58_code 10 (.invokevirtual 251) 3 13 := ⟨by decide +kernel, rfl⟩
theorem d_X12_line_13 : DJ prog_14_method_58_code 13 (fun o => .ifCond .ne o) 18 3 16 := ⟨by decide +kernel, rfl⟩
theorem d_X12_line_16 : DD prog_14_method_58_code 16 (.iconst (-1)) 1 17 := ⟨by decide +kernel, rfl⟩
theorem d_X12_line_17 : DD prog_14_method_58_code 17 (.ireturn) 1 18 := ⟨by decide +kernel, rfl⟩
theorem d_X12_line_18 : DD prog_14_method_58_code 18 (.aload_n 0) 1 19 := ⟨by decide +kernel, rfl⟩
theorem d_X12_line_19 : DD prog_14_method_58_code 19 (.iload_n 2) 1 20 := ⟨by decide +kernel, rfl⟩
theorem d_X12_line_20 : DD prog_14_method_58_code 20 (.invokevirtual 254) 3 23 := ⟨by decide +kernel, rfl⟩
theorem d_X12_line_23 : DD prog_14_method_58_code 23 (.bipush 100) 2 25 := ⟨by decide +kernel, rfl⟩
theorem d_X12_line_25 : DD prog_14_method_58_code 25 (.aload_n 0) 1 26 := ⟨by decide +kernel, rfl⟩
theorem d_X12_line_26 : DD prog_14_method_58_code 26 (.getfield 7) 3 29 := ⟨by decide +kernel, rfl⟩
theorem d_X12_line_29 : DD prog_14_method_58_code 29 (.sipush 790) 3 32 := ⟨by decide +kernel, rfl⟩
theorem d_X12_line_32 : DD prog_14_method_58_code 32 (.iload_n 1) 1 33 := ⟨by decide +kernel, rfl⟩
theorem d_X12_line_33 : DD prog_14_method_58_code 33 (.iadd) 1 34 := ⟨by decide +kernel, rfl⟩
theorem d_X12_line_34 : DD prog_14_method_58_code 34 (.iaload) 1 35 := ⟨by decide +kernel, rfl⟩
theorem d_X12_line_35 : DD prog_14_method_58_code 35 (.iadd) 1 36 := ⟨by decide +kernel, rfl⟩
theorem d_X12_line_36 : DD prog_14_method_58_code 36 (.ireturn) 1 37 := ⟨by decide +kernel, rfl⟩
theorem d_X12_houses_0 : DD prog_14_method_59_code 0 (.iload_n 1) 1 1 := ⟨by decide +kernel, rfl⟩
theorem d_X12_houses_1 : DD prog_14_method_59_code 1 (.invokestatic 210) 3 4 := ⟨by decide +kernel, rfl⟩
theorem d_X12_houses_4 : DJ prog_14_method_59_code 4 (fun o => .ifCond .eq o) 15 3 7 := ⟨by decide +kernel, rfl⟩
theorem d_X12_houses_7 : DD prog_14_method_59_code 7 (.aload_n 0) 1 8 := ⟨by decide +kernel, rfl⟩
theorem d_X12_houses_8 : DD prog_14_method_59_code 8 (.iload_n 2) 1 9 := ⟨by decide +kernel, rfl⟩
theorem d_X12_houses_9 : DD prog_14_method_59_code 9 (.invokevirtual 251) 3 12 := ⟨by decide +kernel, rfl⟩
theorem d_X12_houses_12 : DJ prog_14_method_59_code 12 (fun o => .ifCond .ne o) 17 3 15 := ⟨by decide +kernel, rfl⟩
theorem d_X12_houses_15 : DD prog_14_method_59_code 15 (.iconst (-1)) 1 16 := ⟨by decide +kernel, rfl⟩
theorem d_X12_houses_16 : DD prog_14_method_59_code 16 (.ireturn) 1 17 := ⟨by decide +kernel, rfl⟩
theorem d_X12_houses_17 : DD prog_14_method_59_code 17 (.aload_n 0) 1 18 := ⟨by decide +kernel, rfl⟩
theorem d_X12_houses_18 : DD prog_14_method_59_code 18 (.iload_n 2) 1 19 := ⟨by decide +kernel, rfl⟩
theorem d_X12_houses_19 : DD prog_14_method_59_code 19 (.invokevirtual 254) 3 22 := ⟨by decide +kernel, rfl⟩
theorem d_X12_houses_22 : DD prog_14_method_59_code 22 (.iconst 0) 1 23 := ⟨by decide +kernel, rfl⟩
theorem d_X12_houses_23 : DD prog_14_method_59_code 23 (.istore_n 3) 1 24 := ⟨by decide +kernel, rfl⟩
theorem d_X12_houses_24 : DD prog_14_method_59_code 24 (.iconst 0) 1 25 := ⟨by decide +kernel, rfl⟩
theorem d_X12_houses_25 : DD prog_14_method_59_code 25 (.istore 4) 2 27 := ⟨by decide +kernel, rfl⟩
theorem d_X12_houses_27 : DD prog_14_method_59_code 27 (.iload 4) 2 29 := ⟨by decide +kernel, rfl⟩
theorem d_X12_houses_29 : DD prog_14_method_59_code 29 (.aload_n 0) 1 30 := ⟨by decide +kernel, rfl⟩
theorem d_X12_houses_30 : DD prog_14_method_59_code 30 (.getfield 170) 3 33 := ⟨by decide +kernel, rfl⟩
theorem d_X12_houses_33 : DJ prog_14_method_59_code 33 (fun o => .if_icmp .ge o) 66 3 36 := ⟨by decide +kernel, rfl⟩
theorem d_X12_houses_36 : DD prog_14_method_59_code 36 (.iload_n 3) 1 37 := ⟨by decide +kernel, rfl⟩
theorem d_X12_houses_37 : DD prog_14_method_59_code 37 (.aload_n 0) 1 38 := ⟨by decide +kernel, rfl⟩
theorem d_X12_houses_38 : DD prog_14_method_59_code 38 (.sipush 630) 3 41 := ⟨by decide +kernel, rfl⟩
theorem d_X12_houses_41 : DD prog_14_method_59_code 41 (.iload 4) 2 43 := ⟨by decide +kernel, rfl⟩
theorem d_X12_houses_43 : DD prog_14_method_59_code 43 (.invokevirtual 218) 3 46 := ⟨by decide +kernel, rfl⟩
theorem d_X12_houses_46 : DD prog_14_method_59_code 46 (.iload_n 1) 1 47 := ⟨by decide +kernel, rfl⟩
theorem d_X12_houses_47 : DJ prog_14_method_59_code 47 (fun o => .if_icmp .ne o) 57 3 50 := ⟨by decide +kernel, rfl⟩
theorem d_X12_houses_50 : DD prog_14_method_59_code 50 (.iconst 1) 1 51 := ⟨by decide +kernel, rfl⟩
theorem d_X12_houses_51 : DD prog_14_method_59_code 51 (.iload 4) 2 53 := ⟨by decide +kernel, rfl⟩
theorem d_X12_houses_53 : DD prog_14_method_59_code 53 (.ishl) 1 54 := ⟨by decide +kernel, rfl⟩
theorem d_X12_houses_54 : DJ prog_14_method_59_code 54 (fun o => .goto o) 58 3 57 := ⟨by decide +kernel, rfl⟩
theorem d_X12_houses_57 : DD prog_14_method_59_code 57 (.iconst 0) 1 58 := ⟨by decide +kernel, rfl⟩
theorem d_X12_houses_58 : DD prog_14_method_59_code 58 (.ior) 1 59 := ⟨by decide +kernel, rfl⟩
theorem d_X12_houses_59 : DD prog_14_method_59_code 59 (.istore_n 3) 1 60 := ⟨by decide +kernel, rfl⟩
theorem d_X12_houses_60 : DD prog_14_method_59_code 60 (.iinc 4 1) 3 63 := ⟨by decide +kernel, rfl⟩
theorem d_X12_houses_63 : DJ prog_14_method_59_code 63 (fun o => .goto o) 27 3 66 := ⟨by decide +kernel, rfl⟩
theorem d_X12_houses_66 : DD prog_14_method_59_code 66 (.iload_n 3) 1 67 := ⟨by decide +kernel, rfl⟩
theorem d_X12_houses_67 : DD prog_14_method_59_code 67 (.ireturn) 1 68 := ⟨by decide +kernel, rfl⟩
theorem d_X12_holdsTo_0 : DD prog_14_method_60_code 0 (.aload_n 0) 1 1 := ⟨by decide +kernel, rfl⟩
theorem d_X12_holdsTo_1 : DD prog_14_method_60_code 1 (.iconst 0) 1 2 := ⟨by decide +kernel, rfl⟩
theorem d_X12_holdsTo_2 : DD prog_14_method_60_code 2 (.sipush 630) 3 5 := ⟨by decide +kernel, rfl⟩
theorem d_X12_holdsTo_5 : DD prog_14_method_60_code 5 (.invokevirtual 248) 3 8 := ⟨by decide +kernel, rfl⟩
theorem d_X12_holdsTo_8 : DD prog_14_method_60_code 8 (.aload_n 0) 1 9 := ⟨by decide +kernel, rfl⟩
theorem d_X12_holdsTo_9 : DD prog_14_method_60_code 9 (.getfield 7) 3 12 := ⟨by decide +kernel, rfl⟩
theorem d_X12_holdsTo_12 : DD prog_14_method_60_code 12 (.sipush 630) 3 15 := ⟨by decide +kernel, rfl⟩
theorem d_X12_holdsTo_15 : DD prog_14_method_60_code 15 (.iload_n 1) 1 16 := ⟨by decide +kernel, rfl⟩
theorem d_X12_holdsTo_16 : DD prog_14_method_60_code 16 (.iload_n 2) 1 17 := ⟨by decide +kernel, rfl⟩
theorem d_X12_holdsTo_17 : DD prog_14_method_60_code 17 (.invokestatic 198) 3 20 := ⟨by decide +kernel, rfl⟩
theorem d_X12_holdsTo_20 : DD prog_14_method_60_code 20 (.iadd) 1 21 := ⟨by decide +kernel, rfl⟩
theorem d_X12_holdsTo_21 : DD prog_14_method_60_code 21 (.iconst 4) 1 22 := ⟨by decide +kernel, rfl⟩
theorem d_X12_holdsTo_22 : DD prog_14_method_60_code 22 (.iadd) 1 23 := ⟨by decide +kernel, rfl⟩
theorem d_X12_holdsTo_23 : DD prog_14_method_60_code 23 (.dup2) 1 24 := ⟨by decide +kernel, rfl⟩
theorem d_X12_holdsTo_24 : DD prog_14_method_60_code 24 (.iaload) 1 25 := ⟨by decide +kernel, rfl⟩
theorem d_X12_holdsTo_25 : DD prog_14_method_60_code 25 (.iload_n 3) 1 26 := ⟨by decide +kernel, rfl⟩
theorem d_X12_holdsTo_26 : DD prog_14_method_60_code 26 (.iadd) 1 27 := ⟨by decide +kernel, rfl⟩
theorem d_X12_holdsTo_27 : DD prog_14_method_60_code 27 (.iastore) 1 28 := ⟨by decide +kernel, rfl⟩
theorem d_X12_holdsTo_28 : DD prog_14_method_60_code 28 (.aload_n 0) 1 29 := ⟨by decide +kernel, rfl⟩
theorem d_X12_holdsTo_29 : DD prog_14_method_60_code 29 (.sipush 630) 3 32 := ⟨by decide +kernel, rfl⟩
theorem d_X12_holdsTo_32 : DD prog_14_method_60_code 32 (.iload_n 1) 1 33 := ⟨by decide +kernel, rfl⟩
theorem d_X12_holdsTo_33 : DD prog_14_method_60_code 33 (.iload_n 2) 1 34 := ⟨by decide +kernel, rfl⟩
theorem d_X12_holdsTo_34 : DD prog_14_method_60_code 34 (.invokevirtual 206) 3 37 := ⟨by decide +kernel, rfl⟩
theorem d_X12_holdsTo_37 : DJ prog_14_method_60_code 37 (fun o => .ifCond .ne o) 42 3 40 := ⟨by decide +kernel, rfl⟩
theorem d_X12_holdsTo_40 : DD prog_14_method_60_code 40 (.iconst (-1)) 1 41 := ⟨by decide +kernel, rfl⟩
theorem d_X12_holdsTo_41 : DD prog_14_method_60_code 41 (.ireturn) 1 42 := ⟨by decide +kernel, rfl⟩
theorem d_X12_holdsTo_42 : DD prog_14_method_60_code 42 (.aload_n 0) 1 43 := ⟨by decide +kernel, rfl⟩
theorem d_X12_holdsTo_43 : DD prog_14_method_60_code 43 (.invokevirtual 185) 3 46 := ⟨by decide +kernel, rfl⟩
theorem d_X12_holdsTo_46 : DD prog_14_method_60_code 46 (.istore 5) 2 48 := ⟨by decide +kernel, rfl⟩
theorem d_X12_holdsTo_48 : DD prog_14_method_60_code 48 (.iload 5) 2 50 := ⟨by decide +kernel, rfl⟩
theorem d_X12_holdsTo_50 : DD prog_14_method_60_code 50 (.bipush 12) 2 52 := ⟨by decide +kernel, rfl⟩
theorem d_X12_holdsTo_52 : DJ prog_14_method_60_code 52 (fun o => .if_icmp .ge o) 105 3 55 := ⟨by decide +kernel, rfl⟩
theorem d_X12_holdsTo_55 : DD prog_14_method_60_code 55 (.aload_n 0) 1 56 := ⟨by decide +kernel, rfl⟩
theorem d_X12_holdsTo_56 : DD prog_14_method_60_code 56 (.sipush 630) 3 59 := ⟨by decide +kernel, rfl⟩
theorem d_X12_holdsTo_59 : DD prog_14_method_60_code 59 (.iload_n 2) 1 60 := ⟨by decide +kernel, rfl⟩
theorem d_X12_holdsTo_60 : DD prog_14_method_60_code 60 (.iload 5) 2 62 := ⟨by decide +kernel, rfl⟩
theorem d_X12_holdsTo_62 : DD prog_14_method_60_code 62 (.aload_n 0) 1 63 := ⟨by decide +kernel, rfl⟩
theorem d_X12_holdsTo_63 : DD prog_14_method_60_code 63 (.getfield 7) 3 66 := ⟨by decide +kernel, rfl⟩
theorem d_X12_holdsTo_66 : DD prog_14_method_60_code 66 (.sipush 171) 3 69 := ⟨by decide +kernel, rfl⟩
theorem d_X12_holdsTo_69 : DD prog_14_method_60_code 69 (.iload 5) 2 71 := ⟨by decide +kernel, rfl⟩
theorem d_X12_holdsTo_71 : DD prog_14_method_60_code 71 (.iadd) 1 72 := ⟨by decide +kernel, rfl⟩
theorem d_X12_holdsTo_72 : DD prog_14_method_60_code 72 (.iaload) 1 73 := ⟨by decide +kernel, rfl⟩
theorem d_X12_holdsTo_73 : DD prog_14_method_60_code 73 (.iload 4) 2 75 := ⟨by decide +kernel, rfl⟩
theorem d_X12_holdsTo_75 : DD prog_14_method_60_code 75 (.iload 5) 2 77 := ⟨by decide +kernel, rfl⟩
theorem d_X12_holdsTo_77 : DD prog_14_method_60_code 77 (.ishr) 1 78 := ⟨by decide +kernel, rfl⟩
theorem d_X12_holdsTo_78 : DD prog_14_method_60_code 78 (.iconst 1) 1 79 := ⟨by decide +kernel, rfl⟩
theorem d_X12_holdsTo_79 : DD prog_14_method_60_code 79 (.iand) 1 80 := ⟨by decide +kernel, rfl⟩
theorem d_X12_holdsTo_80 : DD prog_14_method_60_code 80 (.iadd) 1 81 := ⟨by decide +kernel, rfl⟩
theorem d_X12_holdsTo_81 : DD prog_14_method_60_code 81 (.invokevirtual 239) 3 84 := ⟨by decide +kernel, rfl⟩
theorem d_X12_holdsTo_84 : DD prog_14_method_60_code 84 (.aload_n 0) 1 85 := ⟨by decide +kernel, rfl⟩
theorem d_X12_holdsTo_85 : DD prog_14_method_60_code 85 (.sipush 630) 3 88 := ⟨by decide +kernel, rfl⟩
theorem d_X12_holdsTo_88 : DD prog_14_method_60_code 88 (.iload_n 1) 1 89 := ⟨by decide +kernel, rfl⟩
theorem d_X12_holdsTo_89 : DD prog_14_method_60_code 89 (.iload_n 2) 1 90 := ⟨by decide +kernel, rfl⟩
theorem d_X12_holdsTo_90 : DD prog_14_method_60_code 90 (.invokevirtual 206) 3 93 := ⟨by decide +kernel, rfl⟩
theorem d_X12_holdsTo_93 : DJ prog_14_method_60_code 93 (fun o => .ifCond .ne o) 99 3 96 := ⟨by decide +kernel, rfl⟩
theorem d_X12_holdsTo_96 : DD prog_14_method_60_code 96 (.iload 5) 2 98 := ⟨by decide +kernel, rfl⟩
theorem d_X12_holdsTo_98 : DD prog_14_method_60_code 98 (.ireturn) 1 99 := ⟨by decide +kernel, rfl⟩
theorem d_X12_holdsTo_99 : DD prog_14_method_60_code 99 (.iinc 5 1) 3 102 := ⟨by decide +kernel, rfl⟩
theorem d_X12_holdsTo_102 : DJ prog_14_method_60_code 102 (fun o => .goto o) 48 3 105 := ⟨by decide +kernel, rfl⟩
theorem d_X12_holdsTo_105 : DD prog_14_method_60_code 105 (.bipush 12) 2 107 := ⟨by decide +kernel, rfl⟩
theorem d_X12_holdsTo_107 : DD prog_14_method_60_code 107 (.ireturn) 1 108 := ⟨by decide +kernel, rfl⟩
theorem d_X12_holds_0 : DD prog_14_method_61_code 0 (.iload_n 1) 1 1 := ⟨by decide +kernel, rfl⟩
theorem d_X12_holds_1 : DD prog_14_method_61_code 1 (.invokestatic 210) 3 4 := ⟨by decide +kernel, rfl⟩
theorem d_X12_holds_4 : DJ prog_14_method_61_code 4 (fun o => .ifCond .eq o) 15 3 7 := ⟨by decide +kernel, rfl⟩
theorem d_X12_holds_7 : DD prog_14_method_61_code 7 (.aload_n 0) 1 8 := ⟨by decide +kernel, rfl⟩
theorem d_X12_holds_8 : DD prog_14_method_61_code 8 (.iload_n 2) 1 9 := ⟨by decide +kernel, rfl⟩
theorem d_X12_holds_9 : DD prog_14_method_61_code 9 (.invokevirtual 251) 3 12 := ⟨by decide +kernel, rfl⟩
theorem d_X12_holds_12 : DJ prog_14_method_61_code 12 (fun o => .ifCond .ne o) 17 3 15 := ⟨by decide +kernel, rfl⟩
theorem d_X12_holds_15 : DD prog_14_method_61_code 15 (.iconst (-1)) 1 16 := ⟨by decide +kernel, rfl⟩
theorem d_X12_holds_16 : DD prog_14_method_61_code 16 (.ireturn) 1 17 := ⟨by decide +kernel, rfl⟩
theorem d_X12_holds_17 : DD prog_14_method_61_code 17 (.iconst 0) 1 18 := ⟨by decide +kernel, rfl⟩
theorem d_X12_holds_18 : DD prog_14_method_61_code 18 (.istore_n 3) 1 19 := ⟨by decide +kernel, rfl⟩
theorem d_X12_holds_19 : DD prog_14_method_61_code 19 (.iconst 0) 1 20 := ⟨by decide +kernel, rfl⟩
theorem d_X12_holds_20 : DD prog_14_method_61_code 20 (.istore 4) 2 22 := ⟨by decide +kernel, rfl⟩
theorem d_X12_holds_22 : DD prog_14_method_61_code 22 (.iload 4) 2 24 := ⟨by decide +kernel, rfl⟩
theorem d_X12_holds_24 : DD prog_14_method_61_code 24 (.aload_n 0) 1 25 := ⟨by decide +kernel, rfl⟩
theorem d_X12_holds_25 : DD prog_14_method_61_code 25 (.getfield 13) 3 28 := ⟨by decide +kernel, rfl⟩
theorem d_X12_holds_28 : DJ prog_14_method_61_code 28 (fun o => .if_icmp .ge o) 72 3 31 := ⟨by decide +kernel, rfl⟩
theorem d_X12_holds_31 : DD prog_14_method_61_code 31 (.iload_n 3) 1 32 := ⟨by decide +kernel, rfl⟩
theorem d_X12_holds_32 : DD prog_14_method_61_code 32 (.aload_n 0) 1 33 := ⟨by decide +kernel, rfl⟩
theorem d_X12_holds_33 : DD prog_14_method_61_code 33 (.iconst 0) 1 34 := ⟨by decide +kernel, rfl⟩
theorem d_X12_holds_34 : DD prog_14_method_61_code 34 (.iload_n 1) 1 35 := ⟨by decide +kernel, rfl⟩
theorem d_X12_holds_35 : DD prog_14_method_61_code 35 (.iload 4) 2 37 := ⟨by decide +kernel, rfl⟩
theorem d_X12_holds_37 : DD prog_14_method_61_code 37 (.invokevirtual 215) 3 40 := ⟨by decide +kernel, rfl⟩
theorem d_X12_holds_40 : DJ prog_14_method_61_code 40 (fun o => .ifCond .eq o) 63 3 43 := ⟨by decide +kernel, rfl⟩
theorem d_X12_holds_43 : DD prog_14_method_61_code 43 (.aload_n 0) 1 44 := ⟨by decide +kernel, rfl⟩
theorem d_X12_holds_44 : DD prog_14_method_61_code 44 (.iload_n 1) 1 45 := ⟨by decide +kernel, rfl⟩
theorem d_X12_holds_45 : DD prog_14_method_61_code 45 (.iload 4) 2 47 := ⟨by decide +kernel, rfl⟩
theorem d_X12_holds_47 : DD prog_14_method_61_code 47 (.iconst 0) 1 48 := ⟨by decide +kernel, rfl⟩
theorem d_X12_holds_48 : DD prog_14_method_61_code 48 (.iconst 0) 1 49 := ⟨by decide +kernel, rfl⟩
theorem d_X12_holds_49 : DD prog_14_method_61_code 49 (.invokevirtual 257) 3 52 := ⟨by decide +kernel, rfl⟩
theorem d_X12_holds_52 : DD prog_14_method_61_code 52 (.iload_n 2) 1 53 := ⟨by decide +kernel, rfl⟩
theorem d_X12_holds_53 : DJ prog_14_method_61_code 53 (fun o => .if_icmp .lt o) 63 3 56 := ⟨by decide +kernel, rfl⟩
theorem d_X12_holds_56 : DD prog_14_method_61_code 56 (.iconst 1) 1 57 := ⟨by decide +kernel, rfl⟩
theorem d_X12_holds_57 : DD prog_14_method_61_code 57 (.iload 4) 2 59 := ⟨by decide +kernel, rfl⟩
theorem d_X12_holds_59 : DD prog_14_method_61_code 59 (.ishl) 1 60 := ⟨by decide +kernel, rfl⟩
theorem d_X12_holds_60 : DJ prog_14_method_61_code 60 (fun o => .goto o) 64 3 63 := ⟨by decide +kernel, rfl⟩
theorem d_X12_holds_63 : DD prog_14_method_61_code 63 (.iconst 0) 1 64 := ⟨by decide +kernel, rfl⟩
theorem d_X12_holds_64 : DD prog_14_method_61_code 64 (.ior) 1 65 := ⟨by decide +kernel, rfl⟩
theorem d_X12_holds_65 : DD prog_14_method_61_code 65 (.istore_n 3) 1 66 := ⟨by decide +kernel, rfl⟩
theorem d_X12_holds_66 : DD prog_14_method_61_code 66 (.iinc 4 1) 3 69 := ⟨by decide +kernel, rfl⟩
theorem d_X12_holds_69 : DJ prog_14_method_61_code 69 (fun o => .goto o) 22 3 72 := ⟨by decide +kernel, rfl⟩
theorem d_X12_holds_72 : DD prog_14_method_61_code 72 (.iload_n 3) 1 73 := ⟨by decide +kernel, rfl⟩
theorem d_X12_holds_73 : DD prog_14_method_61_code 73 (.ireturn) 1 74 := ⟨by decide +kernel, rfl⟩
theorem d_X12_needOf_0 : DD prog_14_method_62_code 0 (.aload_n 0) 1 1 := ⟨by decide +kernel, rfl⟩
theorem d_X12_needOf_1 : DD prog_14_method_62_code 1 (.iconst 0) 1 2 := ⟨by decide +kernel, rfl⟩
theorem d_X12_needOf_2 : DD prog_14_method_62_code 2 (.iload_n 1) 1 3 := ⟨by decide +kernel, rfl⟩
theorem d_X12_needOf_3 : DD prog_14_method_62_code 3 (.iload_n 2) 1 4 := ⟨by decide +kernel, rfl⟩
theorem d_X12_needOf_4 : DD prog_14_method_62_code 4 (.invokevirtual 215) 3 7 := ⟨by decide +kernel, rfl⟩
theorem d_X12_needOf_7 : DJ prog_14_method_62_code 7 (fun o => .ifCond .ne o) 13 3 10 := ⟨by decide +kernel, rfl⟩
theorem d_X12_needOf_10 : DD prog_14_method_62_code 10 (.bipush (-4)) 2 12 := ⟨by decide +kernel, rfl⟩
theorem d_X12_needOf_12 : DD prog_14_method_62_code 12 (.ireturn) 1 13 := ⟨by decide +kernel, rfl⟩
theorem d_X12_needOf_13 : DD prog_14_method_62_code 13 (.aload_n 0) 1 14 := ⟨by decide +kernel, rfl⟩
theorem d_X12_needOf_14 : DD prog_14_method_62_code 14 (.getfield 7) 3 17 := ⟨by decide +kernel, rfl⟩
theorem d_X12_needOf_17 : DD prog_14_method_62_code 17 (.iload_n 1) 1 18 := ⟨by decide +kernel, rfl⟩
theorem d_X12_needOf_18 : DD prog_14_method_62_code 18 (.iload_n 2) 1 19 := ⟨by decide +kernel, rfl⟩
theorem d_X12_needOf_19 : DD prog_14_method_62_code 19 (.invokestatic 198) 3 22 := ⟨by decide +kernel, rfl⟩
theorem d_X12_needOf_22 : DD prog_14_method_62_code 22 (.iconst 4) 1 23 := ⟨by decide +kernel, rfl⟩
theorem d_X12_needOf_23 : DD prog_14_method_62_code 23 (.iadd) 1 24 := ⟨by decide +kernel, rfl⟩
theorem d_X12_needOf_24 : DD prog_14_method_62_code 24 (.iaload) 1 25 := ⟨by decide +kernel, rfl⟩
theorem d_X12_needOf_25 : DD prog_14_method_62_code 25 (.istore 4) 2 27 := ⟨by decide +kernel, rfl⟩
theorem d_X12_needOf_27 : DD prog_14_method_62_code 27 (.iconst 0) 1 28 := ⟨by decide +kernel, rfl⟩
theorem d_X12_needOf_28 : DD prog_14_method_62_code 28 (.istore 5) 2 30 := ⟨by decide +kernel, rfl⟩
theorem d_X12_needOf_30 : DD prog_14_method_62_code 30 (.iload 4) 2 32 := ⟨by decide +kernel, rfl⟩
theorem d_X12_needOf_32 : DD prog_14_method_62_code 32 (.iload 5) 2 34 := ⟨by decide +kernel, rfl⟩
theorem d_X12_needOf_34 : DD prog_14_method_62_code 34 (.iadd) 1 35 := ⟨by decide +kernel, rfl⟩
theorem d_X12_needOf_35 : DD prog_14_method_62_code 35 (.bipush 99) 2 37 := ⟨by decide +kernel, rfl⟩
theorem d_X12_needOf_37 : DJ prog_14_method_62_code 37 (fun o => .if_icmp .gt o) 62 3 40 := ⟨by decide +kernel, rfl⟩
theorem d_X12_needOf_40 : DD prog_14_method_62_code 40 (.aload_n 0) 1 41 := ⟨by decide +kernel, rfl⟩
theorem d_X12_needOf_41 : DD prog_14_method_62_code 41 (.iload_n 1) 1 42 := ⟨by decide +kernel, rfl⟩
theorem d_X12_needOf_42 : DD prog_14_method_62_code 42 (.iload_n 2) 1 43 := ⟨by decide +kernel, rfl⟩
theorem d_X12_needOf_43 : DD prog_14_method_62_code 43 (.iload 5) 2 45 := ⟨by decide +kernel, rfl⟩
theorem d_X12_needOf_45 : DD prog_14_method_62_code 45 (.iconst 0) 1 46 := ⟨by decide +kernel, rfl⟩
theorem d_X12_needOf_46 : DD prog_14_method_62_code 46 (.invokevirtual 257) 3 49 := ⟨by decide +kernel, rfl⟩
theorem d_X12_needOf_49 : DD prog_14_method_62_code 49 (.iload_n 3) 1 50 := ⟨by decide +kernel, rfl⟩
theorem d_X12_needOf_50 : DJ prog_14_method_62_code 50 (fun o => .if_icmp .lt o) 56 3 53 := ⟨by decide +kernel, rfl⟩
theorem d_X12_needOf_53 : DD prog_14_method_62_code 53 (.iload 5) 2 55 := ⟨by decide +kernel, rfl⟩
theorem d_X12_needOf_55 : DD prog_14_method_62_code 55 (.ireturn) 1 56 := ⟨by decide +kernel, rfl⟩
theorem d_X12_needOf_56 : DD prog_14_method_62_code 56 (.iinc 5 1) 3 59 := ⟨by decide +kernel, rfl⟩
theorem d_X12_needOf_59 : DJ prog_14_method_62_code 59 (fun o => .goto o) 30 3 62 := ⟨by decide +kernel, rfl⟩
theorem d_X12_needOf_62 : DD prog_14_method_62_code 62 (.bipush (-4)) 2 64 := ⟨by decide +kernel, rfl⟩
theorem d_X12_needOf_64 : DD prog_14_method_62_code 64 (.ireturn) 1 65 := ⟨by decide +kernel, rfl⟩
theorem d_X12_need_0 : DD prog_14_method_63_code 0 (.iload_n 1) 1 1 := ⟨by decide +kernel, rfl⟩
theorem d_X12_need_1 : DD prog_14_method_63_code 1 (.invokestatic 210) 3 4 := ⟨by decide +kernel, rfl⟩
theorem d_X12_need_4 : DJ prog_14_method_63_code 4 (fun o => .ifCond .eq o) 33 3 7 := ⟨by decide +kernel, rfl⟩
theorem d_X12_need_7 : DD prog_14_method_63_code 7 (.aload_n 0) 1 8 := ⟨by decide +kernel, rfl⟩
theorem d_X12_need_8 : DD prog_14_method_63_code 8 (.iload_n 2) 1 9 := ⟨by decide +kernel, rfl⟩
theorem d_X12_need_9 : DD prog_14_method_63_code 9 (.invokevirtual 201) 3 12 := ⟨by decide +kernel, rfl⟩
theorem d_X12_need_12 : DJ prog_14_method_63_code 12 (fun o => .ifCond .eq o) 33 3 15 := ⟨by decide +kernel, rfl⟩
theorem d_X12_need_15 : DD prog_14_method_63_code 15 (.aload_n 0) 1 16 := ⟨by decide +kernel, rfl⟩
theorem d_X12_need_16 : DD prog_14_method_63_code 16 (.iload_n 3) 1 17 := ⟨by decide +kernel, rfl⟩
theorem d_X12_need_17 : DD prog_14_method_63_code 17 (.invokevirtual 251) 3 20 := ⟨by decide +kernel, rfl⟩
theorem d_X12_need_20 : DJ prog_14_method_63_code 20 (fun o => .ifCond .eq o) 33 3 23 := ⟨by decide +kernel, rfl⟩
theorem d_X12_need_23 : DD prog_14_method_63_code 23 (.aload_n 0) 1 24 := ⟨by decide +kernel, rfl⟩
theorem d_X12_need_24 : DD prog_14_method_63_code 24 (.iload_n 1) 1 25 := ⟨by decide +kernel, rfl⟩
theorem d_X12_need_25 : DD prog_14_method_63_code 25 (.iload_n 2) 1 26 := ⟨by decide +kernel, rfl⟩
theorem d_X12_need_26 : DD prog_14_method_63_code 26 (.iload_n 3) 1 27 := ⟨by decide +kernel, rfl⟩
theorem d_X12_need_27 : DD prog_14_method_63_code 27 (.invokevirtual 261) 3 30 := ⟨by decide +kernel, rfl⟩
theorem d_X12_need_30 : DJ prog_14_method_63_code 30 (fun o => .goto o) 34 3 33 := ⟨by decide +kernel, rfl⟩
theorem d_X12_need_33 : DD prog_14_method_63_code 33 (.iconst (-1)) 1 34 := ⟨by decide +kernel, rfl⟩
theorem d_X12_need_34 : DD prog_14_method_63_code 34 (.ireturn) 1 35 := ⟨by decide +kernel, rfl⟩
theorem d_X12_bitsOf_0 : DD prog_14_method_64_code 0 (.iconst 0) 1 1 := ⟨by decide +kernel, rfl⟩
theorem d_X12_bitsOf_1 : DD prog_14_method_64_code 1 (.istore_n 1) 1 2 := ⟨by decide +kernel, rfl⟩
theorem d_X12_bitsOf_2 : DD prog_14_method_64_code 2 (.iconst 0) 1 3 := ⟨by decide +kernel, rfl⟩
theorem d_X12_bitsOf_3 : DD prog_14_method_64_code 3 (.istore_n 2) 1 4 := ⟨by decide +kernel, rfl⟩
theorem d_X12_bitsOf_4 : DD prog_14_method_64_code 4 (.iload_n 2) 1 5 := ⟨by decide +kernel, rfl⟩
theorem d_X12_bitsOf_5 : DD prog_14_method_64_code 5 (.bipush 10) 2 7 := ⟨by decide +kernel, rfl⟩
theorem d_X12_bitsOf_7 : DJ prog_14_method_64_code 7 (fun o => .if_icmp .ge o) 24 3 10 := ⟨by decide +kernel, rfl⟩
theorem d_X12_bitsOf_10 : DD prog_14_method_64_code 10 (.iload_n 1) 1 11 := ⟨by decide +kernel, rfl⟩
theorem d_X12_bitsOf_11 : DD prog_14_method_64_code 11 (.iload_n 0) 1 12 := ⟨by decide +kernel, rfl⟩
theorem d_X12_bitsOf_12 : DD prog_14_method_64_code 12 (.iload_n 2) 1 13 := ⟨by decide +kernel, rfl⟩
theorem d_X12_bitsOf_13 : DD prog_14_method_64_code 13 (.ishr) 1 14 := ⟨by decide +kernel, rfl⟩
theorem d_X12_bitsOf_14 : DD prog_14_method_64_code 14 (.iconst 1) 1 15 := ⟨by decide +kernel, rfl⟩
theorem d_X12_bitsOf_15 : DD prog_14_method_64_code 15 (.iand) 1 16 := ⟨by decide +kernel, rfl⟩
theorem d_X12_bitsOf_16 : DD prog_14_method_64_code 16 (.iadd) 1 17 := ⟨by decide +kernel, rfl⟩
theorem d_X12_bitsOf_17 : DD prog_14_method_64_code 17 (.istore_n 1) 1 18 := ⟨by decide +kernel, rfl⟩
theorem d_X12_bitsOf_18 : DD prog_14_method_64_code 18 (.iinc 2 1) 3 21 := ⟨by decide +kernel, rfl⟩
theorem d_X12_bitsOf_21 : DJ prog_14_method_64_code 21 (fun o => .goto o) 4 3 24 := ⟨by decide +kernel, rfl⟩
theorem d_X12_bitsOf_24 : DD prog_14_method_64_code 24 (.iload_n 1) 1 25 := ⟨by decide +kernel, rfl⟩
theorem d_X12_bitsOf_25 : DD prog_14_method_64_code 25 (.ireturn) 1 26 := ⟨by decide +kernel, rfl⟩
theorem d_X12_crews_0 : DD prog_14_method_65_code 0 (.iload_n 1) 1 1 := ⟨by decide +kernel, rfl⟩
theorem d_X12_crews_1 : DD prog_14_method_65_code 1 (.invokestatic 210) 3 4 := ⟨by decide +kernel, rfl⟩
theorem d_X12_crews_4 : DJ prog_14_method_65_code 4 (fun o => .ifCond .eq o) 40 3 7 := ⟨by decide +kernel, rfl⟩
theorem d_X12_crews_7 : DD prog_14_method_65_code 7 (.aload_n 0) 1 8 := ⟨by decide +kernel, rfl⟩
theorem d_X12_crews_8 : DD prog_14_method_65_code 8 (.iload_n 2) 1 9 := ⟨by decide +kernel, rfl⟩
theorem d_X12_crews_9 : DD prog_14_method_65_code 9 (.invokevirtual 251) 3 12 := ⟨by decide +kernel, rfl⟩
theorem d_X12_crews_12 : DJ prog_14_method_65_code 12 (fun o => .ifCond .eq o) 40 3 15 := ⟨by decide +kernel, rfl⟩
theorem d_X12_crews_15 : DD prog_14_method_65_code 15 (.iload_n 3) 1 16 := ⟨by decide +kernel, rfl⟩
theorem d_X12_crews_16 : DD prog_14_method_65_code 16 (.i2l) 1 17 := ⟨by decide +kernel, rfl⟩
theorem d_X12_crews_17 : DD prog_14_method_65_code 17 (.lconst 0) 1 18 := ⟨by decide +kernel, rfl⟩
theorem d_X12_crews_18 : DD prog_14_method_65_code 18 (.ldc2_w 225) 3 21 := ⟨by decide +kernel, rfl⟩
theorem d_X12_crews_21 : DD prog_14_method_65_code 21 (.invokestatic 75) 3 24 := ⟨by decide +kernel, rfl⟩
theorem d_X12_crews_24 : DJ prog_14_method_65_code 24 (fun o => .ifCond .eq o) 40 3 27 := ⟨by decide +kernel, rfl⟩
theorem d_X12_crews_27 : DD prog_14_method_65_code 27 (.iload 4) 2 29 := ⟨by decide +kernel, rfl⟩
theorem d_X12_crews_29 : DD prog_14_method_65_code 29 (.i2l) 1 30 := ⟨by decide +kernel, rfl⟩
theorem d_X12_crews_30 : DD prog_14_method_65_code 30 (.lconst 0) 1 31 := ⟨by decide +kernel, rfl⟩
theorem d_X12_crews_31 : DD prog_14_method_65_code 31 (.ldc2_w 188) 3 34 := ⟨by decide +kernel, rfl⟩
theorem d_X12_crews_34 : DD prog_14_method_65_code 34 (.invokestatic 75) 3 37 := ⟨by decide +kernel, rfl⟩
theorem d_X12_crews_37 : DJ prog_14_method_65_code 37 (fun o => .ifCond .ne o) 42 3 40 := ⟨by decide +kernel, rfl⟩
theorem d_X12_crews_40 : DD prog_14_method_65_code 40 (.iconst (-1)) 1 41 := ⟨by decide +kernel, rfl⟩
theorem d_X12_crews_41 : DD prog_14_method_65_code 41 (.ireturn) 1 42 := ⟨by decide +kernel, rfl⟩
theorem d_X12_crews_42 : DD prog_14_method_65_code 42 (.iconst 0) 1 43 := ⟨by decide +kernel, rfl⟩
theorem d_X12_crews_43 : DD prog_14_method_65_code 43 (.istore 5) 2 45 := ⟨by decide +kernel, rfl⟩
theorem d_X12_crews_45 : DD prog_14_method_65_code 45 (.iconst 0) 1 46 := ⟨by decide +kernel, rfl⟩
theorem d_X12_crews_46 : DD prog_14_method_65_code 46 (.istore 6) 2 48 := ⟨by decide +kernel, rfl⟩
theorem d_X12_crews_48 : DD prog_14_method_65_code 48 (.iconst 0) 1 49 := ⟨by decide +kernel, rfl⟩
theorem d_X12_crews_49 : DD prog_14_method_65_code 49 (.istore 7) 2 51 := ⟨by decide +kernel, rfl⟩
theorem d_X12_crews_51 : DD prog_14_method_65_code 51 (.iload 7) 2 53 := ⟨by decide +kernel, rfl⟩
theorem d_X12_crews_53 : DD prog_14_method_65_code 53 (.aload_n 0) 1 54 := ⟨by decide +kernel, rfl⟩
theorem d_X12_crews_54 : DD prog_14_method_65_code 54 (.getfield 13) 3 57 := ⟨by decide +kernel, rfl⟩
theorem d_X12_crews_57 : DJ prog_14_method_65_code 57 (fun o => .if_icmp .ge o) 145 3 60 := ⟨by decide +kernel, rfl⟩
theorem d_X12_crews_60 : DD prog_14_method_65_code 60 (.aload_n 0) 1 61 := ⟨by decide +kernel, rfl⟩
theorem d_X12_crews_61 : DD prog_14_method_65_code 61 (.getfield 50) 3 64 := ⟨by decide +kernel, rfl⟩
theorem d_X12_crews_64 : DD prog_14_method_65_code 64 (.iload 7) 2 66 := ⟨by decide +kernel, rfl⟩
theorem d_X12_crews_66 : DD prog_14_method_65_code 66 (.aload_n 0) 1 67 := ⟨by decide +kernel, rfl⟩
theorem d_X12_crews_67 : DD prog_14_method_65_code 67 (.iload_n 1) 1 68 := ⟨by decide +kernel, rfl⟩
theorem d_X12_crews_68 : DD prog_14_method_65_code 68 (.iload 7) 2 70 := ⟨by decide +kernel, rfl⟩
theorem d_X12_crews_70 : DD prog_14_method_65_code 70 (.iload_n 2) 1 71 := ⟨by decide +kernel, rfl⟩
theorem d_X12_crews_71 : DD prog_14_method_65_code 71 (.invokevirtual 261) 3 74 := ⟨by decide +kernel, rfl⟩
theorem d_X12_crews_74 : DD prog_14_method_65_code 74 (.iastore) 1 75 := ⟨by decide +kernel, rfl⟩
theorem d_X12_crews_75 : DD prog_14_method_65_code 75 (.iload 5) 2 77 := ⟨by decide +kernel, rfl⟩
theorem d_X12_crews_77 : DD prog_14_method_65_code 77 (.aload_n 0) 1 78 := ⟨by decide +kernel, rfl⟩
theorem d_X12_crews_78 : DD prog_14_method_65_code 78 (.getfield 50) 3 81 := ⟨by decide +kernel, rfl⟩
theorem d_X12_crews_81 : DD prog_14_method_65_code 81 (.iload 7) 2 83 := ⟨by decide +kernel, rfl⟩
theorem d_X12_crews_83 : DD prog_14_method_65_code 83 (.iaload) 1 84 := ⟨by decide +kernel, rfl⟩
theorem d_X12_crews_84 : DJ prog_14_method_65_code 84 (fun o => .ifCond .ne o) 91 3 87 := ⟨by decide +kernel, rfl⟩
theorem d_X12_crews_87 : DD prog_14_method_65_code 87 (.iconst 1) 1 88 := ⟨by decide +kernel, rfl⟩
theorem d_X12_crews_88 : DJ prog_14_method_65_code 88 (fun o => .goto o) 92 3 91 := ⟨by decide +kernel, rfl⟩
theorem d_X12_crews_91 : DD prog_14_method_65_code 91 (.iconst 0) 1 92 := ⟨by decide +kernel, rfl⟩
theorem d_X12_crews_92 : DD prog_14_method_65_code 92 (.iadd) 1 93 := ⟨by decide +kernel, rfl⟩
theorem d_X12_crews_93 : DD prog_14_method_65_code 93 (.istore 5) 2 95 := ⟨by decide +kernel, rfl⟩
theorem d_X12_crews_95 : DD prog_14_method_65_code 95 (.iload 6) 2 97 := ⟨by decide +kernel, rfl⟩
theorem d_X12_crews_97 : DD prog_14_method_65_code 97 (.aload_n 0) 1 98 := ⟨by decide +kernel, rfl⟩
theorem d_X12_crews_98 : DD prog_14_method_65_code 98 (.getfield 50) 3 101 := ⟨by decide +kernel, rfl⟩
theorem d_X12_crews_101 : DD prog_14_method_65_code 101 (.iload 7) 2 103 := ⟨by decide +kernel, rfl⟩
theorem d_X12_crews_103 : DD prog_14_method_65_code 103 (.iaload) 1 104 := ⟨by decide +kernel, rfl⟩
theorem d_X12_crews_104 : DJ prog_14_method_65_code 104 (fun o => .ifCond .le o) 135 3 107 := ⟨by decide +kernel, rfl⟩
theorem d_X12_crews_107 : DD prog_14_method_65_code 107 (.aload_n 0) 1 108 := ⟨by decide +kernel, rfl⟩
theorem d_X12_crews_108 : DD prog_14_method_65_code 108 (.getfield 50) 3 111 := ⟨by decide +kernel, rfl⟩
theorem d_X12_crews_111 : DD prog_14_method_65_code 111 (.iload 7) 2 113 := ⟨by decide +kernel, rfl⟩
theorem d_X12_crews_113 : DD prog_14_method_65_code 113 (.iaload) 1 114 := ⟨by decide +kernel, rfl⟩
theorem d_X12_crews_114 : DD prog_14_method_65_code 114 (.aload_n 0) 1 115 := ⟨by decide +kernel, rfl⟩
theorem d_X12_crews_115 : DD prog_14_method_65_code 115 (.getfield 7) 3 118 := ⟨by decide +kernel, rfl⟩
theorem d_X12_crews_118 : DD prog_14_method_65_code 118 (.sipush 140) 3 121 := ⟨by decide +kernel, rfl⟩
theorem d_X12_crews_121 : DD prog_14_method_65_code 121 (.iload 7) 2 123 := ⟨by decide +kernel, rfl⟩
theorem d_X12_crews_123 : DD prog_14_method_65_code 123 (.iadd) 1 124 := ⟨by decide +kernel, rfl⟩
theorem d_X12_crews_124 : DD prog_14_method_65_code 124 (.iaload) 1 125 := ⟨by decide +kernel, rfl⟩
theorem d_X12_crews_125 : DJ prog_14_method_65_code 125 (fun o => .if_icmp .gt o) 135 3 128 := ⟨by decide +kernel, rfl⟩
theorem d_X12_crews_128 : DD prog_14_method_65_code 128 (.iconst 1) 1 129 := ⟨by decide +kernel, rfl⟩
theorem d_X12_crews_129 : DD prog_14_method_65_code 129 (.iload 7) 2 131 := ⟨by decide +kernel, rfl⟩
theorem d_X12_crews_131 : DD prog_14_method_65_code 131 (.ishl) 1 132 := ⟨by decide +kernel, rfl⟩
theorem d_X12_crews_132 : DJ prog_14_method_65_code 132 (fun o => .goto o) 136 3 135 := ⟨by decide +kernel, rfl⟩
theorem d_X12_crews_135 : DD prog_14_method_65_code 135 (.iconst 0) 1 136 := ⟨by decide +kernel, rfl⟩
theorem d_X12_crews_136 : DD prog_14_method_65_code 136 (.ior) 1 137 := ⟨by decide +kernel, rfl⟩
theorem d_X12_crews_137 : DD prog_14_method_65_code 137 (.istore 6) 2 139 := ⟨by decide +kernel, rfl⟩
theorem d_X12_crews_139 : DD prog_14_method_65_code 139 (.iinc 7 1) 3 142 := ⟨by decide +kernel, rfl⟩
theorem d_X12_crews_142 : DJ prog_14_method_65_code 142 (fun o => .goto o) 51 3 145 := ⟨by decide +kernel, rfl⟩
theorem d_X12_crews_145 : DD prog_14_method_65_code 145 (.iload 6) 2 147 := ⟨by decide +kernel, rfl⟩
theorem d_X12_crews_147 : DD prog_14_method_65_code 147 (.invokestatic 264) 3 150 := ⟨by decide +kernel, rfl⟩
theorem d_X12_crews_150 : DD prog_14_method_65_code 150 (.iload_n 3) 1 151 := ⟨by decide +kernel, rfl⟩
theorem d_X12_crews_151 : DJ prog_14_method_65_code 151 (fun o => .if_icmp .ge o) 162 3 154 := ⟨by decide +kernel, rfl⟩
theorem d_X12_crews_154 : DD prog_14_method_65_code 154 (.iload 6) 2 156 := ⟨by decide +kernel, rfl⟩
theorem d_X12_crews_156 : DD prog_14_method_65_code 156 (.invokestatic 264) 3 159 := ⟨by decide +kernel, rfl⟩
theorem d_X12_crews_159 : DJ prog_14_method_65_code 159 (fun o => .goto o) 163 3 162 := ⟨by decide +kernel, rfl⟩
theorem d_X12_crews_162 : DD prog_14_method_65_code 162 (.iload_n 3) 1 163 := ⟨by decide +kernel, rfl⟩
theorem d_X12_crews_163 : DD prog_14_method_65_code 163 (.istore 7) 2 165 := ⟨by decide +kernel, rfl⟩
theorem d_X12_crews_165 : DD prog_14_method_65_code 165 (.bipush (-4)) 2 167 := ⟨by decide +kernel, rfl⟩
theorem d_X12_crews_167 : DD prog_14_method_65_code 167 (.istore 8) 2 169 := ⟨by decide +kernel, rfl⟩
theorem d_X12_crews_169 : DD prog_14_method_65_code 169 (.iconst 0) 1 170 := ⟨by decide +kernel, rfl⟩
theorem d_X12_crews_170 : DD prog_14_method_65_code 170 (.istore 9) 2 172 := ⟨by decide +kernel, rfl⟩
theorem d_X12_crews_172 : DD prog_14_method_65_code 172 (.iconst 0) 1 173 := ⟨by decide +kernel, rfl⟩
theorem d_X12_crews_173 : DD prog_14_method_65_code 173 (.istore 10) 2 175 := ⟨by decide +kernel, rfl⟩
theorem d_X12_crews_175 : DD prog_14_method_65_code 175 (.iload 10) 2 177 := ⟨by decide +kernel, rfl⟩
theorem d_X12_crews_177 : DD prog_14_method_65_code 177 (.iconst 1) 1 178 := ⟨by decide +kernel, rfl⟩
theorem d_X12_crews_178 : DD prog_14_method_65_code 178 (.aload_n 0) 1 179 := ⟨by decide +kernel, rfl⟩
theorem d_X12_crews_179 : DD prog_14_method_65_code 179 (.getfield 13) 3 182 := ⟨by decide +kernel, rfl⟩
theorem d_X12_crews_182 : DD prog_14_method_65_code 182 (.ishl) 1 183 := ⟨by decide +kernel, rfl⟩
theorem d_X12_crews_183 : DJ prog_14_method_65_code 183 (fun o => .if_icmp .ge o) 299 3 186 := ⟨by decide +kernel, rfl⟩
theorem d_X12_crews_186 : DD prog_14_method_65_code 186 (.iload 10) 2 188 := ⟨by decide +kernel, rfl⟩
theorem d_X12_crews_188 : DD prog_14_method_65_code 188 (.iload 6) 2 190 := ⟨by decide +kernel, rfl⟩
theorem d_X12_crews_190 : DD prog_14_method_65_code 190 (.iconst (-1)) 1 191 := ⟨by decide +kernel, rfl⟩
theorem d_X12_crews_191 : DD prog_14_method_65_code 191 (.ixor) 1 192 := ⟨by decide +kernel, rfl⟩
theorem d_X12_crews_192 : DD prog_14_method_65_code 192 (.iand) 1 193 := ⟨by decide +kernel, rfl⟩
theorem d_X12_crews_193 : DJ prog_14_method_65_code 193 (fun o => .ifCond .ne o) 293 3 196 := ⟨by decide +kernel, rfl⟩
theorem d_X12_crews_196 : DD prog_14_method_65_code 196 (.iload 10) 2 198 := ⟨by decide +kernel, rfl⟩
theorem d_X12_crews_198 : DD prog_14_method_65_code 198 (.invokestatic 264) 3 201 := ⟨by decide +kernel, rfl⟩
theorem d_X12_crews_201 : DD prog_14_method_65_code 201 (.iload 7) 2 203 := ⟨by decide +kernel, rfl⟩
theorem d_X12_crews_203 : DJ prog_14_method_65_code 203 (fun o => .if_icmp .ne o) 293 3 206 := ⟨by decide +kernel, rfl⟩
theorem d_X12_crews_206 : DD prog_14_method_65_code 206 (.iconst 0) 1 207 := ⟨by decide +kernel, rfl⟩
theorem d_X12_crews_207 : DD prog_14_method_65_code 207 (.istore 11) 2 209 := ⟨by decide +kernel, rfl⟩
theorem d_X12_crews_209 : DD prog_14_method_65_code 209 (.iconst 0) 1 210 := ⟨by decide +kernel, rfl⟩
theorem d_X12_crews_210 : DD prog_14_method_65_code 210 (.istore 12) 2 212 := ⟨by decide +kernel, rfl⟩
theorem d_X12_crews_212 : DD prog_14_method_65_code 212 (.iload 12) 2 214 := ⟨by decide +kernel, rfl⟩
theorem d_X12_crews_214 : DD prog_14_method_65_code 214 (.aload_n 0) 1 215 := ⟨by decide +kernel, rfl⟩
theorem d_X12_crews_215 : DD prog_14_method_65_code 215 (.getfield 13) 3 218 := ⟨by decide +kernel, rfl⟩
theorem d_X12_crews_218 : DJ prog_14_method_65_code 218 (fun o => .if_icmp .ge o) 254 3 221 := ⟨by decide +kernel, rfl⟩
theorem d_X12_crews_221 : DD prog_14_method_65_code 221 (.iload 11) 2 223 := ⟨by decide +kernel, rfl⟩
theorem d_X12_crews_223 : DD prog_14_method_65_code 223 (.iload 10) 2 225 := ⟨by decide +kernel, rfl⟩
theorem d_X12_crews_225 : DD prog_14_method_65_code 225 (.iload 12) 2 227 := ⟨by decide +kernel, rfl⟩
theorem d_X12_crews_227 : DD prog_14_method_65_code 227 (.ishr) 1 228 := ⟨by decide +kernel, rfl⟩
theorem d_X12_crews_228 : DD prog_14_method_65_code 228 (.iconst 1) 1 229 := ⟨by decide +kernel, rfl⟩
theorem d_X12_crews_229 : DD prog_14_method_65_code 229 (.iand) 1 230 := ⟨by decide +kernel, rfl⟩
theorem d_X12_crews_230 : DD prog_14_method_65_code 230 (.iconst 1) 1 231 := ⟨by decide +kernel, rfl⟩
theorem d_X12_crews_231 : DJ prog_14_method_65_code 231 (fun o => .if_icmp .ne o) 244 3 234 := ⟨by decide +kernel, rfl⟩
theorem d_X12_crews_234 : DD prog_14_method_65_code 234 (.aload_n 0) 1 235 := ⟨by decide +kernel, rfl⟩
theorem d_X12_crews_235 : DD prog_14_method_65_code 235 (.getfield 50) 3 238 := ⟨by decide +kernel, rfl⟩
theorem d_X12_crews_238 : DD prog_14_method_65_code 238 (.iload 12) 2 240 := ⟨by decide +kernel, rfl⟩
theorem d_X12_crews_240 : DD prog_14_method_65_code 240 (.iaload) 1 241 := ⟨by decide +kernel, rfl⟩
theorem d_X12_crews_241 : DJ prog_14_method_65_code 241 (fun o => .goto o) 245 3 244 := ⟨by decide +kernel, rfl⟩
theorem d_X12_crews_244 : DD prog_14_method_65_code 244 (.iconst 0) 1 245 := ⟨by decide +kernel, rfl⟩
theorem d_X12_crews_245 : DD prog_14_method_65_code 245 (.iadd) 1 246 := ⟨by decide +kernel, rfl⟩
theorem d_X12_crews_246 : DD prog_14_method_65_code 246 (.istore 11) 2 248 := ⟨by decide +kernel, rfl⟩
theorem d_X12_crews_248 : DD prog_14_method_65_code 248 (.iinc 12 1) 3 251 := ⟨by decide +kernel, rfl⟩
theorem d_X12_crews_251 : DJ prog_14_method_65_code 251 (fun o => .goto o) 212 3 254 := ⟨by decide +kernel, rfl⟩
theorem d_X12_crews_254 : DD prog_14_method_65_code 254 (.iload 8) 2 256 := ⟨by decide +kernel, rfl⟩
theorem d_X12_crews_256 : DD prog_14_method_65_code 256 (.bipush (-4)) 2 258 := ⟨by decide +kernel, rfl⟩
theorem d_X12_crews_258 : DJ prog_14_method_65_code 258 (fun o => .if_icmp .eq o) 268 3 261 := ⟨by decide +kernel, rfl⟩
theorem d_X12_crews_261 : DD prog_14_method_65_code 261 (.iload 11) 2 263 := ⟨by decide +kernel, rfl⟩
theorem d_X12_crews_263 : DD prog_14_method_65_code 263 (.iload 9) 2 265 := ⟨by decide +kernel, rfl⟩
theorem d_X12_crews_265 : DJ prog_14_method_65_code 265 (fun o => .if_icmp .ge o) 273 3 268 := ⟨by decide +kernel, rfl⟩
theorem d_X12_crews_268 : DD prog_14_method_65_code 268 (.iload 10) 2 270 := ⟨by decide +kernel, rfl⟩
theorem d_X12_crews_270 : DJ prog_14_method_65_code 270 (fun o => .goto o) 275 3 273 := ⟨by decide +kernel, rfl⟩
theorem d_X12_crews_273 : DD prog_14_method_65_code 273 (.iload 8) 2 275 := ⟨by decide +kernel, rfl⟩
theorem d_X12_crews_275 : DD prog_14_method_65_code 275 (.istore 8) 2 277 := ⟨by decide +kernel, rfl⟩
theorem d_X12_crews_277 : DD prog_14_method_65_code 277 (.iload 8) 2 279 := ⟨by decide +kernel, rfl⟩
theorem d_X12_crews_279 : DD prog_14_method_65_code 279 (.iload 10) 2 281 := ⟨by decide +kernel, rfl⟩
theorem d_X12_crews_281 : DJ prog_14_method_65_code 281 (fun o => .if_icmp .ne o) 289 3 284 := ⟨by decide +kernel, rfl⟩
theorem d_X12_crews_284 : DD prog_14_method_65_code 284 (.iload 11) 2 286 := ⟨by decide +kernel, rfl⟩
theorem d_X12_crews_286 : DJ prog_14_method_65_code 286 (fun o => .goto o) 291 3 289 := ⟨by decide +kernel, rfl⟩
theorem d_X12_crews_289 : DD prog_14_method_65_code 289 (.iload 9) 2 291 := ⟨by decide +kernel, rfl⟩
theorem d_X12_crews_291 : DD prog_14_method_65_code 291 (.istore 9) 2 293 := ⟨by decide +kernel, rfl⟩
theorem d_X12_crews_293 : DD prog_14_method_65_code 293 (.iinc 10 1) 3 296 := ⟨by decide +kernel, rfl⟩
theorem d_X12_crews_296 : DJ prog_14_method_65_code 296 (fun o => .goto o) 175 3 299 := ⟨by decide +kernel, rfl⟩
theorem d_X12_crews_299 : DD prog_14_method_65_code 299 (.iload 4) 2 301 := ⟨by decide +kernel, rfl⟩
theorem d_X12_crews_301 : DJ prog_14_method_65_code 301 (fun o => .ifCond .ne o) 312 3 304 := ⟨by decide +kernel, rfl⟩
theorem d_X12_crews_304 : DD prog_14_method_65_code 304 (.iload 5) 2 306 := ⟨by decide +kernel, rfl⟩
theorem d_X12_crews_306 : DD prog_14_method_65_code 306 (.iload 7) 2 308 := ⟨by decide +kernel, rfl⟩
theorem d_X12_crews_308 : DD prog_14_method_65_code 308 (.iadd) 1 309 := ⟨by decide +kernel, rfl⟩
theorem d_X12_crews_309 : DJ prog_14_method_65_code 309 (fun o => .goto o) 325 3 312 := ⟨by decide +kernel, rfl⟩
theorem d_X12_crews_312 : DD prog_14_method_65_code 312 (.iload 4) 2 314 := ⟨by decide +kernel, rfl⟩
theorem d_X12_crews_314 : DD prog_14_method_65_code 314 (.iconst 1) 1 315 := ⟨by decide +kernel, rfl⟩
theorem d_X12_crews_315 : DJ prog_14_method_65_code 315 (fun o => .if_icmp .ne o) 323 3 318 := ⟨by decide +kernel, rfl⟩
theorem d_X12_crews_318 : DD prog_14_method_65_code 318 (.iload 9) 2 320 := ⟨by decide +kernel, rfl⟩
theorem d_X12_crews_320 : DJ prog_14_method_65_code 320 (fun o => .goto o) 325 3 323 := ⟨by decide +kernel, rfl⟩
theorem d_X12_crews_323 : DD prog_14_method_65_code 323 (.iload 8) 2 325 := ⟨by decide +kernel, rfl⟩
theorem d_X12_crews_325 : DD prog_14_method_65_code 325 (.ireturn) 1 326 := ⟨by decide +kernel, rfl⟩
def f_X12_house_28 (M : Mm) : Option Int32 :=
some (-1 : Int32)
def f_X12_house_72 (M : Mm) (s_0 : Int32) : Option Int32 :=
some s_0
def f_X12_house (M : Mm) (x1 : Int32) (x2 : Int32) : Option Int32 :=
bd (f_X12_in x1.toInt64 (0 : Int64) (((M.1 0 5) - (1 : Int32)).toInt64)) fun p2 =>
if p2 = 0 then
(f_X12_house_28 M)
else
(bd (f_X12_in x2.toInt64 (0 : Int64) (2 : Int64)) fun p5 =>
if p5 = 0 then
(f_X12_house_28 M)
else
(if x2 = 0 then
(ck (inn ((2 : Int32) * x1) 16) <|
f_X12_house_72 M (M.1 4 ((2 : Int32) * x1).toNatClampNeg))
else
(if x2 = (1 : Int32) then
(ck (inn (((2 : Int32) * x1) + (1 : Int32)) 16) <|
f_X12_house_72 M ((100 : Int32) + (M.1 4 (((2 : Int32) * x1) + (1 : Int32)).toNatClampNeg)))
else
(bd (f_X12_houseOf M (0 : Int32) x1) fun p10 =>
f_X12_house_72 M p10))))
def f_X12_shine_19 (M : Mm) : Option (Int32 × Mm) :=
some ((-1 : Int32), M)
def f_X12_shine (M : Mm) (x1 : Int32) (x2 : Int32) : Option (Int32 × Mm) :=
bd (f_X12_isHour x1) fun p2 =>
if p2 = 0 then
(f_X12_shine_19 M)
else
(bd (f_X12_in x2.toInt64 (0 : Int64) (9 : Int64)) fun p5 =>
if p5 = 0 then
(f_X12_shine_19 M)
else
(ck (inn ((171 : Int32) + x1) 840) <|
nm ((M.1 1 ((171 : Int32) + x1).toNatClampNeg)) fun v8 =>
wr (wI M 1 ((171 : Int32) + x1).toNatClampNeg x2) fun M10 =>
some (v8, M10)))
def f_X12_treaty_51 (M : Mm) : Option (Int32 × Mm) :=
some ((-1 : Int32), M)
def f_X12_treaty_45 (M : Mm) (x1 : Int32) (x2 : Int32) (t_0 : Int64) (t_1 : Int64) (t_2 : Int64) : Option (Int32 × Mm) :=
bd (f_X12_in t_0 t_1 t_2) fun p2 =>
if p2 = 0 then
(f_X12_treaty_51 M)
else
(ck (inn x1 3) <|
nm ((M.1 3 x1.toNatClampNeg)) fun v5 =>
wr (wI M 3 x1.toNatClampNeg x2) fun M7 =>
some (v5, M7))
def f_X12_treaty_23 (M : Mm) (x1 : Int32) (x2 : Int32) (t_0 : Int64) (t_1 : Int64) : Option (Int32 × Mm) :=
if x1 = 0 then
(f_X12_treaty_45 M x1 x2 t_0 t_1 (99 : Int64))
else
(if x1 = (1 : Int32) then
(f_X12_treaty_45 M x1 x2 t_0 t_1 (3 : Int64))
else
(f_X12_treaty_45 M x1 x2 t_0 t_1 (1 : Int64)))
def f_X12_treaty (M : Mm) (x1 : Int32) (x2 : Int32) : Option (Int32 × Mm) :=
bd (f_X12_in x1.toInt64 (0 : Int64) (2 : Int64)) fun p2 =>
if p2 = 0 then
(f_X12_treaty_51 M)
else
(if x1 = 0 then
(f_X12_treaty_23 M x1 x2 x2.toInt64 (1 : Int64))
else
(f_X12_treaty_23 M x1 x2 x2.toInt64 (0 : Int64)))
def f_X12_chance (M : Mm) (x1 : Int32) : Option (Int32 × Mm) :=
bd (f_X12_in x1.toInt64 (0 : Int64) (10 : Int64)) fun p2 =>
if p2 = 0 then
(some ((-1 : Int32), M))
else
(nm ((M.1 0 6)) fun v4 =>
wr (wI M 0 6 x1) fun M6 =>
some (v4, M6))
def f_X12_light_41 (M : Mm) : Option (Int32 × Mm) :=
some ((-1 : Int32), M)
def f_X12_light (M : Mm) (x1 : Int32) (x2 : Int32) (x3 : Int32) (x4 : Int32) : Option (Int32 × Mm) :=
bd (f_X12_isFurlong M x1) fun p2 =>
if p2 = 0 then
(f_X12_light_41 M)
else
(bd (f_X12_in x2.toInt64 (1 : Int64) (20 : Int64)) fun p5 =>
if p5 = 0 then
(f_X12_light_41 M)
else
(bd (f_X12_isHour x3) fun p8 =>
if p8 = 0 then
(f_X12_light_41 M)
else
(bd (f_X12_in x4.toInt64 x3.toInt64 (11 : Int64)) fun p11 =>
if p11 = 0 then
(f_X12_light_41 M)
else
(nm ((M.1 1 (207 : Int32).toNatClampNeg)) fun v13 =>
if v13 = (6 : Int32) then
(some ((-3 : Int32), M))
else
(ck (inn ((183 : Int32) + ((4 : Int32) * v13)) 840) <|
wr (wI M 1 ((183 : Int32) + ((4 : Int32) * v13)).toNatClampNeg x1) fun M16 =>
ck (inn (((183 : Int32) + ((4 : Int32) * v13)) + (1 : Int32)) 840) <|
wr (wI M16 1 (((183 : Int32) + ((4 : Int32) * v13)) + (1 : Int32)).toNatClampNeg x2) fun M19 =>
ck (inn (((183 : Int32) + ((4 : Int32) * v13)) + (2 : Int32)) 840) <|
wr (wI M19 1 (((183 : Int32) + ((4 : Int32) * v13)) + (2 : Int32)).toNatClampNeg x3) fun M22 =>
ck (inn (((183 : Int32) + ((4 : Int32) * v13)) + (3 : Int32)) 840) <|
wr (wI M22 1 (((183 : Int32) + ((4 : Int32) * v13)) + (3 : Int32)).toNatClampNeg x4) fun M25 =>
wr (wI M25 1 (207 : Int32).toNatClampNeg ((M25.1 1 (207 : Int32).toNatClampNeg) + (1 : Int32))) fun M28 =>
some ((v13 + (1 : Int32)), M28))))))
def f_X12_quench_80 (M : Mm) : Option (Int32 × Mm) :=
some ((M.1 1 (207 : Int32).toNatClampNeg), M)
def b_X12_quench_38 (k38 : Mm → Int32 → Option (Int32 × Mm)) (M : Mm) (x2 : Int32) : Option (Int32 × Mm) :=
if ((4 : Int32) * (M.1 1 (207 : Int32).toNatClampNeg)) ≤ x2 then
(f_X12_quench_80 M)
else
(ck (inn (((183 : Int32) + x2) + (4 : Int32)) 840) <|
ck (inn ((183 : Int32) + x2) 840) <|
wr (wI M 1 ((183 : Int32) + x2).toNatClampNeg (M.1 1 (((183 : Int32) + x2) + (4 : Int32)).toNatClampNeg)) fun M3 =>
k38 M3 (x2 + (1 : Int32)))
def f_X12_quench_38 : Nat → Mm → Int32 → Option (Int32 × Mm)
  | 0, _, _ => none
  | n + 1, M, x2 => b_X12_quench_38 (fun M x2 => f_X12_quench_38 n M x2) M x2
def f_X12_quench (M : Mm) (x1 : Int32) : Option (Int32 × Mm) :=
bd (f_X12_in x1.toInt64 (0 : Int64) (((M.1 1 (207 : Int32).toNatClampNeg) - (1 : Int32)).toInt64)) fun p2 =>
if p2 = 0 then
(some ((-1 : Int32), M))
else
(wr (wI M 1 (207 : Int32).toNatClampNeg ((M.1 1 (207 : Int32).toNatClampNeg) - (1 : Int32))) fun M4 =>
nm (((4 : Int32) * x1)) fun v6 =>
f_X12_quench_38 FU M4 v6)
def f_X12_mend_27 (M : Mm) : Option (Int32 × Mm) :=
some ((-1 : Int32), M)
def f_X12_mend (M : Mm) (x1 : Int32) (x2 : Int32) (x3 : Int32) : Option (Int32 × Mm) :=
bd (f_X12_isSide x1) fun p2 =>
if p2 = 0 then
(f_X12_mend_27 M)
else
(bd (f_X12_isFurlong M x2) fun p5 =>
if p5 = 0 then
(f_X12_mend_27 M)
else
(bd (f_X12_in x3.toInt64 (0 : Int64) (99 : Int64)) fun p8 =>
if p8 = 0 then
(f_X12_mend_27 M)
else
(bd (f_X12_isThere M (0 : Int32) x1 x2) fun p11 =>
if p11 = 0 then
(some ((-4 : Int32), M))
else
(ck (inn ((140 : Int32) + x2) 840) <|
if x3 ≤ (M.1 1 ((140 : Int32) + x2).toNatClampNeg) then
(bd (f_X12_manAt x1 x2) fun p16 =>
nm ((p16 + (4 : Int32))) fun v17 =>
ck (inn v17 840) <|
if ((M.1 1 v17.toNatClampNeg) + x3) ≤ (99 : Int32) then
(wr (wI M 1 v17.toNatClampNeg ((M.1 1 v17.toNatClampNeg) + x3)) fun M21 =>
wr (wI M21 1 ((140 : Int32) + x2).toNatClampNeg ((M21.1 1 ((140 : Int32) + x2).toNatClampNeg) - x3)) fun M23 =>
some ((M23.1 1 v17.toNatClampNeg), M23))
else
(some ((-3 : Int32), M)))
else
(some ((-2 : Int32), M))))))
def f_X12_carry_34 (M : Mm) : Option (Int32 × Mm) :=
some ((-1 : Int32), M)
def f_X12_carry_30 (M : Mm) (x1 : Int32) (x2 : Int32) (x3 : Int32) : Option (Int32 × Mm) :=
if 0 ≤ x3 then
(ck (inn ((140 : Int32) + x1) 840) <|
if x3 ≤ (M.1 1 ((140 : Int32) + x1).toNatClampNeg) then
(wr (wI M 1 ((140 : Int32) + x1).toNatClampNeg ((M.1 1 ((140 : Int32) + x1).toNatClampNeg) - x3)) fun M4 =>
ck (inn ((140 : Int32) + x2) 840) <|
wr (wI M4 1 ((140 : Int32) + x2).toNatClampNeg ((M4.1 1 ((140 : Int32) + x2).toNatClampNeg) + x3)) fun M7 =>
some ((M7.1 1 ((140 : Int32) + x2).toNatClampNeg), M7))
else
(some ((-2 : Int32), M)))
else
(f_X12_carry_34 M)
def f_X12_carry (M : Mm) (x1 : Int32) (x2 : Int32) (x3 : Int32) : Option (Int32 × Mm) :=
bd (f_X12_isFurlong M x1) fun p2 =>
if p2 = 0 then
(f_X12_carry_34 M)
else
(bd (f_X12_isFurlong M x2) fun p5 =>
if p5 = 0 then
(f_X12_carry_34 M)
else
(if (x1 - x2) = (1 : Int32) then
(f_X12_carry_30 M x1 x2 x3)
else
(if (x2 - x1) = (1 : Int32) then
(f_X12_carry_30 M x1 x2 x3)
else
(f_X12_carry_34 M))))
def f_X12_warms_31 (s_0 : Int32) : Option Int32 :=
some s_0
def f_X12_warms_14 (x0 : Int32) (s_0 : Int32) : Option Int32 :=
if x0 ≤ ((4 : Int32) * s_0) then
(f_X12_warms_31 (0 : Int32))
else
(f_X12_warms_31 (x0 - ((4 : Int32) * s_0)))
def f_X12_warms (x0 : Int32) (x1 : Int32) (x2 : Int32) : Option Int32 :=
if x2 ≤ x1 then
(f_X12_warms_14 x0 (x1 - x2))
else
(f_X12_warms_14 x0 (x2 - x1))
def f_X12_fires_81 (k5 : Int32 → Int32 → Option Int32) (M : Mm) (x1 : Int32) (x2 : Int32) (x4 : Int32) (s_0 : Int32) (s_1 : Int32) : Option Int32 :=
nm ((s_0 + s_1)) fun v1 =>
k5 v1 (x4 + (1 : Int32))
def b_X12_fires_5 (k5 : Int32 → Int32 → Option Int32) (M : Mm) (x1 : Int32) (x2 : Int32) (x3 : Int32) (x4 : Int32) : Option Int32 :=
if (M.1 1 (207 : Int32).toNatClampNeg) ≤ x4 then
(some x3)
else
(nm (((183 : Int32) + ((4 : Int32) * x4))) fun v2 =>
ck (inn (v2 + (2 : Int32)) 840) <|
ck (inn (v2 + (3 : Int32)) 840) <|
bd (f_X12_in x2.toInt64 ((M.1 1 (v2 + (2 : Int32)).toNatClampNeg).toInt64) ((M.1 1 (v2 + (3 : Int32)).toNatClampNeg).toInt64)) fun p7 =>
if p7 = 0 then
(f_X12_fires_81 k5 M x1 x2 x4 x3 (0 : Int32))
else
(ck (inn (v2 + (1 : Int32)) 840) <|
ck (inn v2 840) <|
bd (f_X12_warms (M.1 1 (v2 + (1 : Int32)).toNatClampNeg) (M.1 1 v2.toNatClampNeg) x1) fun p12 =>
f_X12_fires_81 k5 M x1 x2 x4 x3 p12))
def f_X12_fires_5 (M : Mm) (x1 : Int32) (x2 : Int32) : Nat → Int32 → Int32 → Option Int32
  | 0, _, _ => none
  | n + 1, x3, x4 => b_X12_fires_5 (fun x3 x4 => f_X12_fires_5 M x1 x2 n x3 x4) M x1 x2 x3 x4
def f_X12_fires (M : Mm) (x1 : Int32) (x2 : Int32) : Option Int32 :=
f_X12_fires_5 M x1 x2 FU (0 : Int32) (0 : Int32)
def f_X12_heat_44 (M : Mm) (s_0 : Int32) : Option Int32 :=
some s_0
def f_X12_heat_39 (M : Mm) (s_0 : Int32) (s_1 : Int32) : Option Int32 :=
f_X12_heat_44 M (s_0 + s_1)
def f_X12_heat_43 (M : Mm) : Option Int32 :=
f_X12_heat_44 M (-1 : Int32)
def f_X12_heat (M : Mm) (x1 : Int32) (x2 : Int32) (x3 : Int32) : Option Int32 :=
bd (f_X12_isFurlong M x1) fun p2 =>
if p2 = 0 then
(f_X12_heat_43 M)
else
(bd (f_X12_isHour x2) fun p5 =>
if p5 = 0 then
(f_X12_heat_43 M)
else
(bd (f_X12_fires M x1 x2) fun p8 =>
if x3 = 0 then
(f_X12_heat_39 M p8 (0 : Int32))
else
(ck (inn ((171 : Int32) + x2) 840) <|
f_X12_heat_39 M p8 (M.1 1 ((171 : Int32) + x2).toNatClampNeg))))
def f_X12_melts_98 (k64 : Mm → Int32 → Int32 → Int32 → Option (Int32 × Mm)) (M : Mm) (x1 : Int32) (x5 : Int32) (x6 : Int32) (x7 : Int32) (s_0 : Int32) : Option (Int32 × Mm) :=
ck (inn (x1 + x7) 840) <|
wr (wI M 1 (x1 + x7).toNatClampNeg ((M.1 1 (x1 + x7).toNatClampNeg) - s_0)) fun M2 =>
nm ((x5 - s_0)) fun v4 =>
nm ((x6 + s_0)) fun v6 =>
k64 M2 v4 v6 (x7 + (-1 : Int32))
def b_X12_melts_64 (k64 : Mm → Int32 → Int32 → Int32 → Option (Int32 × Mm)) (x1 : Int32) (M : Mm) (x5 : Int32) (x6 : Int32) (x7 : Int32) : Option (Int32 × Mm) :=
if x7 < (2 : Int32) then
(some (x6, M))
else
(ck (inn (x1 + x7) 840) <|
if x5 ≤ (M.1 1 (x1 + x7).toNatClampNeg) then
(f_X12_melts_98 k64 M x1 x5 x6 x7 x5)
else
(f_X12_melts_98 k64 M x1 x5 x6 x7 (M.1 1 (x1 + x7).toNatClampNeg)))
def f_X12_melts_64 (x1 : Int32) : Nat → Mm → Int32 → Int32 → Int32 → Option (Int32 × Mm)
  | 0, _, _, _, _ => none
  | n + 1, M, x5, x6, x7 => b_X12_melts_64 (fun M x5 x6 x7 => f_X12_melts_64 x1 n M x5 x6 x7) x1 M x5 x6 x7
def f_X12_melts_56 (M : Mm) (x1 : Int32) (s_0 : Int32) : Option (Int32 × Mm) :=
f_X12_melts_64 x1 FU M s_0 (0 : Int32) (4 : Int32)
def f_X12_melts_54 (M : Mm) (x1 : Int32) (x5 : Int32) : Option (Int32 × Mm) :=
f_X12_melts_56 M x1 x5
def f_X12_melts_23 (M : Mm) (x1 : Int32) (x4 : Int32) (s_0 : Int32) : Option (Int32 × Mm) :=
if x4 = (1 : Int32) then
(f_X12_melts_56 M x1 (s_0 / (2 : Int32)))
else
(if x4 = (3 : Int32) then
(if s_0 ≤ (2 : Int32) then
(f_X12_melts_54 M x1 s_0)
else
(f_X12_melts_56 M x1 (2 : Int32)))
else
(f_X12_melts_54 M x1 s_0))
def f_X12_melts (M : Mm) (x1 : Int32) (x2 : Int32) (x3 : Int32) : Option (Int32 × Mm) :=
ck (inn (x1 + (1 : Int32)) 840) <|
nm ((M.1 1 (x1 + (1 : Int32)).toNatClampNeg)) fun v2 =>
if v2 = (2 : Int32) then
(f_X12_melts_23 M x1 v2 x2)
else
(f_X12_melts_23 M x1 v2 (x2 + x3))
def f_X12_melting_237 (k85 : Mm → Int32 → Option Mm) (M : Mm) (x1 : Int32) (x2 : Int32) (x3 : Int32) (x4 : Int32) (x5 : Int32) (x6 : Int32) (x7 : Int32) (x9 : Int32) : Option Mm :=
k85 M (x9 + (1 : Int32))
def b_X12_melting_213 (k85 : Mm → Int32 → Option Mm) (k213 : Mm → Int32 → Option Mm) (x1 : Int32) (x2 : Int32) (x3 : Int32) (x4 : Int32) (x5 : Int32) (x6 : Int32) (x7 : Int32) (x9 : Int32) (x10 : Int32) (M : Mm) (x12 : Int32) : Option Mm :=
if (7 : Int32) ≤ x12 then
(f_X12_melting_237 k85 M x1 x2 x3 x4 x5 x6 x7 x9)
else
(ck (inn (x10 + x12) 840) <|
wr (wI M 1 (x10 + x12).toNatClampNeg (0 : Int32)) fun M2 =>
k213 M2 (x12 + (1 : Int32)))
def f_X12_melting_213 (k85 : Mm → Int32 → Option Mm) (x1 : Int32) (x2 : Int32) (x3 : Int32) (x4 : Int32) (x5 : Int32) (x6 : Int32) (x7 : Int32) (x9 : Int32) (x10 : Int32) : Nat → Mm → Int32 → Option Mm
  | 0, _, _ => none
  | n + 1, M, x12 => b_X12_melting_213 k85 (fun M x12 => f_X12_melting_213 k85 x1 x2 x3 x4 x5 x6 x7 x9 x10 n M x12) x1 x2 x3 x4 x5 x6 x7 x9 x10 M x12
def f_X12_melting_129 (k85 : Mm → Int32 → Option Mm) (M : Mm) (x1 : Int32) (x2 : Int32) (x3 : Int32) (x4 : Int32) (x5 : Int32) (x6 : Int32) (x7 : Int32) (x9 : Int32) (x10 : Int32) (s_0 : Int32) : Option Mm :=
ck (inn x7 840) <|
bd (f_X12_melts M x10 x5 x4) fun p3 =>
wr (wI p3.2 1 x7.toNatClampNeg ((M.1 1 x7.toNatClampNeg) + p3.1)) fun M4 =>
ck (inn (x10 + (1 : Int32)) 840) <|
if (M4.1 1 (x10 + (1 : Int32)).toNatClampNeg) = (4 : Int32) then
(if s_0 = 0 then
(f_X12_melting_237 k85 M4 x1 x2 x3 x4 x5 x6 x7 x9)
else
(ck (inn (x10 + (4 : Int32)) 840) <|
if (M4.1 1 (x10 + (4 : Int32)).toNatClampNeg) = 0 then
(ck (inn x6 840) <|
ck (inn (x10 + (2 : Int32)) 840) <|
ck (inn (x10 + (3 : Int32)) 840) <|
wr (wI M4 1 x6.toNatClampNeg ((M4.1 1 x6.toNatClampNeg) + ((M4.1 1 (x10 + (2 : Int32)).toNatClampNeg) + (M4.1 1 (x10 + (3 : Int32)).toNatClampNeg)))) fun M14 =>
f_X12_melting_213 k85 x1 x2 x3 x4 x5 x6 x7 x9 x10 FU M14 (0 : Int32))
else
(f_X12_melting_237 k85 M4 x1 x2 x3 x4 x5 x6 x7 x9)))
else
(f_X12_melting_237 k85 M4 x1 x2 x3 x4 x5 x6 x7 x9)
def f_X12_melting_394 (M : Mm) (s_1 : Int32) (s_2 : Int32) : Option Mm :=
ck (inn s_1 840) <|
wr (wI M 1 s_1.toNatClampNeg s_2) fun M1 =>
some M1
def f_X12_melting_392 (M : Mm) (x12 : Int32) (s_1 : Int32) : Option Mm :=
f_X12_melting_394 M s_1 x12
def f_X12_melting_368 (M : Mm) (x10 : Int32) (x11 : Int32) (x12 : Int32) (s_1 : Int32) : Option Mm :=
if x11 = 0 then
(f_X12_melting_392 M x12 s_1)
else
(if x10 = 0 then
(if x12 ≤ (-9 : Int32) then
(f_X12_melting_392 M x12 s_1)
else
(f_X12_melting_394 M s_1 (x12 - (1 : Int32))))
else
(f_X12_melting_392 M x12 s_1))
def f_X12_melting_275 (M : Mm) (x1 : Int32) (x2 : Int32) (x6 : Int32) (x7 : Int32) (s_0 : Int32) : Option Mm :=
ck (inn x7 840) <|
wr (wI M 1 x7.toNatClampNeg ((M.1 1 x7.toNatClampNeg) - s_0)) fun M2 =>
ck (inn x6 840) <|
wr (wI M2 1 x6.toNatClampNeg ((M2.1 1 x6.toNatClampNeg) + s_0)) fun M5 =>
bd (f_X12_counts M5 x1 (0 : Int32) x2) fun p8 =>
bd (f_X12_counts M5 x1 (1 : Int32) x2) fun p10 =>
ck (inn ((x1 + (160 : Int32)) + x2) 840) <|
nm ((M5.1 1 ((x1 + (160 : Int32)) + x2).toNatClampNeg)) fun v12 =>
if p8 = 0 then
(f_X12_melting_368 M5 p8 p10 v12 ((x1 + (160 : Int32)) + x2))
else
(if p10 = 0 then
(if (9 : Int32) ≤ v12 then
(f_X12_melting_368 M5 p8 p10 v12 ((x1 + (160 : Int32)) + x2))
else
(f_X12_melting_394 M5 ((x1 + (160 : Int32)) + x2) (v12 + (1 : Int32))))
else
(f_X12_melting_368 M5 p8 p10 v12 ((x1 + (160 : Int32)) + x2)))
def f_X12_melting_243 (M : Mm) (x1 : Int32) (x2 : Int32) (x3 : Int32) (x6 : Int32) (x7 : Int32) : Option Mm :=
ck (inn x7 840) <|
ck (inn x3 12) <|
if (M.1 2 x3.toNatClampNeg) ≤ (M.1 1 x7.toNatClampNeg) then
(f_X12_melting_275 M x1 x2 x6 x7 (M.1 2 x3.toNatClampNeg))
else
(f_X12_melting_275 M x1 x2 x6 x7 (M.1 1 x7.toNatClampNeg))
def b_X12_melting_85 (k85 : Mm → Int32 → Option Mm) (x1 : Int32) (x2 : Int32) (x3 : Int32) (x4 : Int32) (x5 : Int32) (x6 : Int32) (x7 : Int32) (M : Mm) (x9 : Int32) : Option Mm :=
if (2 : Int32) ≤ x9 then
(f_X12_melting_243 M x1 x2 x3 x6 x7)
else
(bd (f_X12_manAt x9 x2) fun p3 =>
nm ((x1 + p3)) fun v4 =>
ck (inn v4 840) <|
if (M.1 1 v4.toNatClampNeg) = (1 : Int32) then
(ck (inn (v4 + (4 : Int32)) 840) <|
if (M.1 1 (v4 + (4 : Int32)).toNatClampNeg) ≤ 0 then
(f_X12_melting_129 k85 M x1 x2 x3 x4 x5 x6 x7 x9 v4 (0 : Int32))
else
(f_X12_melting_129 k85 M x1 x2 x3 x4 x5 x6 x7 x9 v4 (1 : Int32)))
else
(f_X12_melting_237 k85 M x1 x2 x3 x4 x5 x6 x7 x9))
def f_X12_melting_85 (x1 : Int32) (x2 : Int32) (x3 : Int32) (x4 : Int32) (x5 : Int32) (x6 : Int32) (x7 : Int32) : Nat → Mm → Int32 → Option Mm
  | 0, _, _ => none
  | n + 1, M, x9 => b_X12_melting_85 (fun M x9 => f_X12_melting_85 x1 x2 x3 x4 x5 x6 x7 n M x9) x1 x2 x3 x4 x5 x6 x7 M x9
def f_X12_melting_56 (M : Mm) (x1 : Int32) (x2 : Int32) (x3 : Int32) (x4 : Int32) (x5 : Int32) (x6 : Int32) (x7 : Int32) (s_0 : Int32) : Option Mm :=
ck (inn x6 840) <|
wr (wI M 1 x6.toNatClampNeg ((M.1 1 x6.toNatClampNeg) - s_0)) fun M2 =>
ck (inn x7 840) <|
wr (wI M2 1 x7.toNatClampNeg ((M2.1 1 x7.toNatClampNeg) + s_0)) fun M5 =>
f_X12_melting_85 x1 x2 x3 x4 x5 x6 x7 FU M5 (0 : Int32)
def f_X12_melting (M : Mm) (x1 : Int32) (x2 : Int32) (x3 : Int32) (x4 : Int32) : Option Mm :=
bd (f_X12_fires M x2 x3) fun p2 =>
nm (((x1 + (140 : Int32)) + x2)) fun v3 =>
nm (((x1 + (150 : Int32)) + x2)) fun v5 =>
ck (inn v3 840) <|
if (p2 + x4) ≤ (M.1 1 v3.toNatClampNeg) then
(f_X12_melting_56 M x1 x2 x3 x4 p2 v3 v5 (p2 + x4))
else
(f_X12_melting_56 M x1 x2 x3 x4 p2 v3 v5 (M.1 1 v3.toNatClampNeg))
def f_X12_goes_44 (M : Mm) (x1 : Int32) : Option Mm :=
ck (inn (x1 + (170 : Int32)) 840) <|
wr (wI M 1 (x1 + (170 : Int32)).toNatClampNeg ((M.1 1 (x1 + (170 : Int32)).toNatClampNeg) + (1 : Int32))) fun M2 =>
some M2
def b_X12_goes_13 (k13 : Mm → Int32 → Option Mm) (x1 : Int32) (x2 : Int32) (M : Mm) (x3 : Int32) : Option Mm :=
if (M.1 0 1) ≤ x3 then
(f_X12_goes_44 M x1)
else
(ck (inn ((171 : Int32) + x2) 840) <|
bd (f_X12_melting M x1 x3 x2 (M.1 1 ((171 : Int32) + x2).toNatClampNeg)) fun p4 =>
k13 p4 (x3 + (1 : Int32)))
def f_X12_goes_13 (x1 : Int32) (x2 : Int32) : Nat → Mm → Int32 → Option Mm
  | 0, _, _ => none
  | n + 1, M, x3 => b_X12_goes_13 (fun M x3 => f_X12_goes_13 x1 x2 n M x3) x1 x2 M x3
def f_X12_goes (M : Mm) (x1 : Int32) : Option Mm :=
ck (inn (x1 + (170 : Int32)) 840) <|
nm ((M.1 1 (x1 + (170 : Int32)).toNatClampNeg)) fun v2 =>
f_X12_goes_13 x1 v2 FU M (0 : Int32)
def f_X12_go_46 (M : Mm) : Option (Int32 × Mm) :=
bd (f_X12_hourNow M) fun p2 =>
some (p2, M)
def b_X12_go_30 (k30 : Mm → Int32 → Option (Int32 × Mm)) (x1 : Int32) (M : Mm) (x2 : Int32) : Option (Int32 × Mm) :=
if x1 ≤ x2 then
(f_X12_go_46 M)
else
(bd (f_X12_goes M (0 : Int32)) fun p3 =>
k30 p3 (x2 + (1 : Int32)))
def f_X12_go_30 (x1 : Int32) : Nat → Mm → Int32 → Option (Int32 × Mm)
  | 0, _, _ => none
  | n + 1, M, x2 => b_X12_go_30 (fun M x2 => f_X12_go_30 x1 n M x2) x1 M x2
def f_X12_go (M : Mm) (x1 : Int32) : Option (Int32 × Mm) :=
bd (f_X12_in x1.toInt64 (1 : Int64) (12 : Int64)) fun p2 =>
if p2 = 0 then
(some ((-1 : Int32), M))
else
(bd (f_X12_hourNow M) fun p5 =>
if (p5 + x1) ≤ (12 : Int32) then
(f_X12_go_30 x1 FU M (0 : Int32))
else
(some ((-2 : Int32), M)))
def f_X12_dawn (M : Mm) : Option (Int32 × Mm) :=
bd (f_X12_hourNow M) fun p2 =>
wr (wI M 1 (170 : Int32).toNatClampNeg (0 : Int32)) fun M3 =>
some (p2, M3)
def f_X12_all_95 (k4 : Int32 → Int32 → Option Int32) (k38 : Int32 → Int32 → Option Int32) (M : Mm) (x2 : Int32) (x3 : Int32) (s_0 : Int32) (s_1 : Int32) : Option Int32 :=
nm ((s_0 + s_1)) fun v1 =>
k38 v1 (x3 + (1 : Int32))
def f_X12_all_103 (k4 : Int32 → Int32 → Option Int32) (M : Mm) (x1 : Int32) (x2 : Int32) : Option Int32 :=
k4 x1 (x2 + (1 : Int32))
def b_X12_all_38 (k4 : Int32 → Int32 → Option Int32) (k38 : Int32 → Int32 → Option Int32) (M : Mm) (x2 : Int32) (x1 : Int32) (x3 : Int32) : Option Int32 :=
if (2 : Int32) ≤ x3 then
(f_X12_all_103 k4 M x1 x2)
else
(bd (f_X12_manAt x3 x2) fun p3 =>
ck (inn p3 840) <|
if (M.1 1 p3.toNatClampNeg) = (1 : Int32) then
(ck (inn (p3 + (2 : Int32)) 840) <|
ck (inn (p3 + (3 : Int32)) 840) <|
ck (inn (p3 + (4 : Int32)) 840) <|
f_X12_all_95 k4 k38 M x2 x3 x1 (((M.1 1 (p3 + (2 : Int32)).toNatClampNeg) + (M.1 1 (p3 + (3 : Int32)).toNatClampNeg)) + (M.1 1 (p3 + (4 : Int32)).toNatClampNeg)))
else
(f_X12_all_95 k4 k38 M x2 x3 x1 (0 : Int32)))
def f_X12_all_38 (k4 : Int32 → Int32 → Option Int32) (M : Mm) (x2 : Int32) : Nat → Int32 → Int32 → Option Int32
  | 0, _, _ => none
  | n + 1, x1, x3 => b_X12_all_38 k4 (fun x1 x3 => f_X12_all_38 k4 M x2 n x1 x3) M x2 x1 x3
def b_X12_all_4 (k4 : Int32 → Int32 → Option Int32) (M : Mm) (x1 : Int32) (x2 : Int32) : Option Int32 :=
if (M.1 0 1) ≤ x2 then
(some x1)
else
(ck (inn ((140 : Int32) + x2) 840) <|
ck (inn ((150 : Int32) + x2) 840) <|
nm ((x1 + ((M.1 1 ((140 : Int32) + x2).toNatClampNeg) + (M.1 1 ((150 : Int32) + x2).toNatClampNeg)))) fun v4 =>
f_X12_all_38 k4 M x2 FU v4 (0 : Int32))
def f_X12_all_4 (M : Mm) : Nat → Int32 → Int32 → Option Int32
  | 0, _, _ => none
  | n + 1, x1, x2 => b_X12_all_4 (fun x1 x2 => f_X12_all_4 M n x1 x2) M x1 x2
def f_X12_all (M : Mm) : Option Int32 :=
f_X12_all_4 M FU (0 : Int32) (0 : Int32)
def b_X12_copies_2 (k2 : Mm → Int32 → Option Mm) (x1 : Int32) (x2 : Int32) (M : Mm) (x3 : Int32) : Option Mm :=
if (210 : Int32) ≤ x3 then
(some M)
else
(ck (inn (x1 + x3) 840) <|
ck (inn (x2 + x3) 840) <|
wr (wI M 1 (x2 + x3).toNatClampNeg (M.1 1 (x1 + x3).toNatClampNeg)) fun M3 =>
k2 M3 (x3 + (1 : Int32)))
def f_X12_copies_2 (x1 : Int32) (x2 : Int32) : Nat → Mm → Int32 → Option Mm
  | 0, _, _ => none
  | n + 1, M, x3 => b_X12_copies_2 (fun M x3 => f_X12_copies_2 x1 x2 n M x3) x1 x2 M x3
def f_X12_copies (M : Mm) (x1 : Int32) (x2 : Int32) : Option Mm :=
f_X12_copies_2 x1 x2 FU M (0 : Int32)
def f_X12_isAhead (M : Mm) (x1 : Int32) : Option Int32 :=
bd (f_X12_hourNow M) fun p2 =>
bd (f_X12_in x1.toInt64 p2.toInt64 (12 : Int64)) fun p4 =>
ck (isB p4) <|
some p4
def b_X12_trialTo_8 (k8 : Mm → Option Mm) (x1 : Int32) (M : Mm) : Option Mm :=
if x1 ≤ (M.1 1 (800 : Int32).toNatClampNeg) then
(some M)
else
(bd (f_X12_goes M (630 : Int32)) fun p3 =>
k8 p3)
def f_X12_trialTo_8 (x1 : Int32) : Nat → Mm → Option Mm
  | 0, _ => none
  | n + 1, M => b_X12_trialTo_8 (fun M => f_X12_trialTo_8 x1 n M) x1 M
def f_X12_trialTo (M : Mm) (x1 : Int32) : Option Mm :=
bd (f_X12_copies M (0 : Int32) (630 : Int32)) fun p2 =>
f_X12_trialTo_8 x1 FU p2
def f_X12_later_23 (M : Mm) : Option (Int32 × Mm) :=
some ((-1 : Int32), M)
def f_X12_later_63 (M : Mm) (s_0 : Int32) : Option (Int32 × Mm) :=
some (s_0, M)
def f_X12_later (M : Mm) (x1 : Int32) (x2 : Int32) (x3 : Int32) : Option (Int32 × Mm) :=
bd (f_X12_isSide x1) fun p2 =>
if p2 = 0 then
(f_X12_later_23 M)
else
(bd (f_X12_isFurlong M x2) fun p5 =>
if p5 = 0 then
(f_X12_later_23 M)
else
(bd (f_X12_isAhead M x3) fun p8 =>
if p8 = 0 then
(f_X12_later_23 M)
else
(bd (f_X12_trialTo M x3) fun p11 =>
bd (f_X12_isThere p11 (630 : Int32) x1 x2) fun p13 =>
if p13 = 0 then
(f_X12_later_63 p11 (-4 : Int32))
else
(bd (f_X12_manAt x1 x2) fun p16 =>
ck (inn (((630 : Int32) + p16) + (4 : Int32)) 840) <|
f_X12_later_63 p11 (p11.1 1 (((630 : Int32) + p16) + (4 : Int32)).toNatClampNeg)))))
def f_X12_line_16 (M : Mm) : Option (Int32 × Mm) :=
some ((-1 : Int32), M)
def f_X12_line (M : Mm) (x1 : Int32) (x2 : Int32) : Option (Int32 × Mm) :=
bd (f_X12_isFurlong M x1) fun p2 =>
if p2 = 0 then
(f_X12_line_16 M)
else
(bd (f_X12_isAhead M x2) fun p5 =>
if p5 = 0 then
(f_X12_line_16 M)
else
(bd (f_X12_trialTo M x2) fun p8 =>
ck (inn ((790 : Int32) + x1) 840) <|
some (((100 : Int32) + (p8.1 1 ((790 : Int32) + x1).toNatClampNeg)), p8)))
def f_X12_houses_15 (M : Mm) : Option (Int32 × Mm) :=
some ((-1 : Int32), M)
def f_X12_houses_58 (k27 : Int32 → Int32 → Option (Int32 × Mm)) (M : Mm) (x1 : Int32) (x4 : Int32) (s_0 : Int32) (s_1 : Int32) : Option (Int32 × Mm) :=
nm ((s_0 ||| s_1)) fun v1 =>
k27 v1 (x4 + (1 : Int32))
def b_X12_houses_27 (k27 : Int32 → Int32 → Option (Int32 × Mm)) (M : Mm) (x1 : Int32) (x3 : Int32) (x4 : Int32) : Option (Int32 × Mm) :=
if (M.1 0 5) ≤ x4 then
(some (x3, M))
else
(bd (f_X12_houseOf M (630 : Int32) x4) fun p3 =>
if p3 = x1 then
(f_X12_houses_58 k27 M x1 x4 x3 ((1 : Int32) <<< (x4 &&& 31)))
else
(f_X12_houses_58 k27 M x1 x4 x3 (0 : Int32)))
def f_X12_houses_27 (M : Mm) (x1 : Int32) : Nat → Int32 → Int32 → Option (Int32 × Mm)
  | 0, _, _ => none
  | n + 1, x3, x4 => b_X12_houses_27 (fun x3 x4 => f_X12_houses_27 M x1 n x3 x4) M x1 x3 x4
def f_X12_houses (M : Mm) (x1 : Int32) (x2 : Int32) : Option (Int32 × Mm) :=
bd (f_X12_isSide x1) fun p2 =>
if p2 = 0 then
(f_X12_houses_15 M)
else
(bd (f_X12_isAhead M x2) fun p5 =>
if p5 = 0 then
(f_X12_houses_15 M)
else
(bd (f_X12_trialTo M x2) fun p8 =>
f_X12_houses_27 p8 x1 FU (0 : Int32) (0 : Int32)))
def b_X12_holdsTo_48 (k48 : Mm → Int32 → Option (Int32 × Mm)) (x1 : Int32) (x2 : Int32) (x4 : Int32) (M : Mm) (x5 : Int32) : Option (Int32 × Mm) :=
if (12 : Int32) ≤ x5 then
(some ((12 : Int32), M))
else
(ck (inn ((171 : Int32) + x5) 840) <|
bd (f_X12_melting M (630 : Int32) x2 x5 ((M.1 1 ((171 : Int32) + x5).toNatClampNeg) + ((x4 >>> (x5 &&& 31)) &&& (1 : Int32)))) fun p4 =>
bd (f_X12_counts p4 (630 : Int32) x1 x2) fun p6 =>
if p6 = 0 then
(some (x5, p4))
else
(k48 p4 (x5 + (1 : Int32))))
def f_X12_holdsTo_48 (x1 : Int32) (x2 : Int32) (x4 : Int32) : Nat → Mm → Int32 → Option (Int32 × Mm)
  | 0, _, _ => none
  | n + 1, M, x5 => b_X12_holdsTo_48 (fun M x5 => f_X12_holdsTo_48 x1 x2 x4 n M x5) x1 x2 x4 M x5
def f_X12_holdsTo (M : Mm) (x1 : Int32) (x2 : Int32) (x3 : Int32) (x4 : Int32) : Option (Int32 × Mm) :=
bd (f_X12_copies M (0 : Int32) (630 : Int32)) fun p2 =>
bd (f_X12_manAt x1 x2) fun p4 =>
ck (inn (((630 : Int32) + p4) + (4 : Int32)) 840) <|
wr (wI p2 1 (((630 : Int32) + p4) + (4 : Int32)).toNatClampNeg ((p2.1 1 (((630 : Int32) + p4) + (4 : Int32)).toNatClampNeg) + x3)) fun M6 =>
bd (f_X12_counts M6 (630 : Int32) x1 x2) fun p9 =>
if p9 = 0 then
(some ((-1 : Int32), M6))
else
(bd (f_X12_hourNow M6) fun p12 =>
f_X12_holdsTo_48 x1 x2 x4 FU M6 p12)
def f_X12_holds_15 (M : Mm) : Option (Int32 × Mm) :=
some ((-1 : Int32), M)
def f_X12_holds_64 (k22 : Mm → Int32 → Int32 → Option (Int32 × Mm)) (M : Mm) (x1 : Int32) (x2 : Int32) (x4 : Int32) (s_0 : Int32) (s_1 : Int32) : Option (Int32 × Mm) :=
nm ((s_0 ||| s_1)) fun v1 =>
k22 M v1 (x4 + (1 : Int32))
def f_X12_holds_63 (k22 : Mm → Int32 → Int32 → Option (Int32 × Mm)) (M : Mm) (x1 : Int32) (x2 : Int32) (x4 : Int32) (s_0 : Int32) : Option (Int32 × Mm) :=
f_X12_holds_64 k22 M x1 x2 x4 s_0 (0 : Int32)
def b_X12_holds_22 (k22 : Mm → Int32 → Int32 → Option (Int32 × Mm)) (x1 : Int32) (x2 : Int32) (M : Mm) (x3 : Int32) (x4 : Int32) : Option (Int32 × Mm) :=
if (M.1 0 1) ≤ x4 then
(some (x3, M))
else
(bd (f_X12_isThere M (0 : Int32) x1 x4) fun p3 =>
if p3 = 0 then
(f_X12_holds_63 k22 M x1 x2 x4 x3)
else
(bd (f_X12_holdsTo M x1 x4 (0 : Int32) (0 : Int32)) fun p6 =>
if p6.1 < x2 then
(f_X12_holds_63 k22 p6.2 x1 x2 x4 x3)
else
(f_X12_holds_64 k22 p6.2 x1 x2 x4 x3 ((1 : Int32) <<< (x4 &&& 31)))))
def f_X12_holds_22 (x1 : Int32) (x2 : Int32) : Nat → Mm → Int32 → Int32 → Option (Int32 × Mm)
  | 0, _, _, _ => none
  | n + 1, M, x3, x4 => b_X12_holds_22 (fun M x3 x4 => f_X12_holds_22 x1 x2 n M x3 x4) x1 x2 M x3 x4
def f_X12_holds (M : Mm) (x1 : Int32) (x2 : Int32) : Option (Int32 × Mm) :=
bd (f_X12_isSide x1) fun p2 =>
if p2 = 0 then
(f_X12_holds_15 M)
else
(bd (f_X12_isAhead M x2) fun p5 =>
if p5 = 0 then
(f_X12_holds_15 M)
else
(f_X12_holds_22 x1 x2 FU M (0 : Int32) (0 : Int32)))
def b_X12_needOf_30 (k30 : Mm → Int32 → Option (Int32 × Mm)) (x1 : Int32) (x2 : Int32) (x3 : Int32) (x4 : Int32) (M : Mm) (x5 : Int32) : Option (Int32 × Mm) :=
if (99 : Int32) < (x4 + x5) then
(some ((-4 : Int32), M))
else
(bd (f_X12_holdsTo M x1 x2 x5 (0 : Int32)) fun p3 =>
if p3.1 < x3 then
(k30 p3.2 (x5 + (1 : Int32)))
else
(some (x5, p3.2)))
def f_X12_needOf_30 (x1 : Int32) (x2 : Int32) (x3 : Int32) (x4 : Int32) : Nat → Mm → Int32 → Option (Int32 × Mm)
  | 0, _, _ => none
  | n + 1, M, x5 => b_X12_needOf_30 (fun M x5 => f_X12_needOf_30 x1 x2 x3 x4 n M x5) x1 x2 x3 x4 M x5
def f_X12_needOf (M : Mm) (x1 : Int32) (x2 : Int32) (x3 : Int32) : Option (Int32 × Mm) :=
bd (f_X12_isThere M (0 : Int32) x1 x2) fun p2 =>
if p2 = 0 then
(some ((-4 : Int32), M))
else
(bd (f_X12_manAt x1 x2) fun p5 =>
ck (inn (p5 + (4 : Int32)) 840) <|
nm ((M.1 1 (p5 + (4 : Int32)).toNatClampNeg)) fun v7 =>
f_X12_needOf_30 x1 x2 x3 v7 FU M (0 : Int32))
def f_X12_need_34 (M : Mm) (s_0 : Int32) : Option (Int32 × Mm) :=
some (s_0, M)
def f_X12_need_33 (M : Mm) : Option (Int32 × Mm) :=
f_X12_need_34 M (-1 : Int32)
def f_X12_need (M : Mm) (x1 : Int32) (x2 : Int32) (x3 : Int32) : Option (Int32 × Mm) :=
bd (f_X12_isSide x1) fun p2 =>
if p2 = 0 then
(f_X12_need_33 M)
else
(bd (f_X12_isFurlong M x2) fun p5 =>
if p5 = 0 then
(f_X12_need_33 M)
else
(bd (f_X12_isAhead M x3) fun p8 =>
if p8 = 0 then
(f_X12_need_33 M)
else
(bd (f_X12_needOf M x1 x2 x3) fun p11 =>
f_X12_need_34 p11.2 p11.1)))
def b_X12_bitsOf_4 (k4 : Int32 → Int32 → Option Int32) (x0 : Int32) (x1 : Int32) (x2 : Int32) : Option Int32 :=
if (10 : Int32) ≤ x2 then
(some x1)
else
(nm ((x1 + ((x0 >>> (x2 &&& 31)) &&& (1 : Int32)))) fun v2 =>
k4 v2 (x2 + (1 : Int32)))
def f_X12_bitsOf_4 (x0 : Int32) : Nat → Int32 → Int32 → Option Int32
  | 0, _, _ => none
  | n + 1, x1, x2 => b_X12_bitsOf_4 (fun x1 x2 => f_X12_bitsOf_4 x0 n x1 x2) x0 x1 x2
def f_X12_bitsOf (x0 : Int32) : Option Int32 :=
f_X12_bitsOf_4 x0 FU (0 : Int32) (0 : Int32)
def f_X12_crews_40 (M : Mm) : Option (Int32 × Mm) :=
some ((-1 : Int32), M)
def f_X12_crews_136 (k51 : Mm → Int32 → Int32 → Int32 → Option (Int32 × Mm)) (M : Mm) (x1 : Int32) (x2 : Int32) (x3 : Int32) (x4 : Int32) (x5 : Int32) (x7 : Int32) (s_0 : Int32) (s_1 : Int32) : Option (Int32 × Mm) :=
nm ((s_0 ||| s_1)) fun v1 =>
k51 M x5 v1 (x7 + (1 : Int32))
def f_X12_crews_135 (k51 : Mm → Int32 → Int32 → Int32 → Option (Int32 × Mm)) (M : Mm) (x1 : Int32) (x2 : Int32) (x3 : Int32) (x4 : Int32) (x5 : Int32) (x7 : Int32) (s_0 : Int32) : Option (Int32 × Mm) :=
f_X12_crews_136 k51 M x1 x2 x3 x4 x5 x7 s_0 (0 : Int32)
def f_X12_crews_92 (k51 : Mm → Int32 → Int32 → Int32 → Option (Int32 × Mm)) (M : Mm) (x1 : Int32) (x2 : Int32) (x3 : Int32) (x4 : Int32) (x6 : Int32) (x7 : Int32) (s_0 : Int32) (s_1 : Int32) : Option (Int32 × Mm) :=
nm ((s_0 + s_1)) fun v1 =>
ck (inn x7 10) <|
if (M.1 12 x7.toNatClampNeg) ≤ 0 then
(f_X12_crews_135 k51 M x1 x2 x3 x4 v1 x7 x6)
else
(ck (inn ((140 : Int32) + x7) 840) <|
if (M.1 1 ((140 : Int32) + x7).toNatClampNeg) < (M.1 12 x7.toNatClampNeg) then
(f_X12_crews_135 k51 M x1 x2 x3 x4 v1 x7 x6)
else
(f_X12_crews_136 k51 M x1 x2 x3 x4 v1 x7 x6 ((1 : Int32) <<< (x7 &&& 31))))
def f_X12_crews_245 (k175 : Int32 → Int32 → Int32 → Option (Int32 × Mm)) (k212 : Int32 → Int32 → Option (Int32 × Mm)) (M : Mm) (x4 : Int32) (x5 : Int32) (x6 : Int32) (x7 : Int32) (x8 : Int32) (x9 : Int32) (x10 : Int32) (x12 : Int32) (s_0 : Int32) (s_1 : Int32) : Option (Int32 × Mm) :=
nm ((s_0 + s_1)) fun v1 =>
k212 v1 (x12 + (1 : Int32))
def f_X12_crews_293 (k175 : Int32 → Int32 → Int32 → Option (Int32 × Mm)) (M : Mm) (x4 : Int32) (x5 : Int32) (x6 : Int32) (x7 : Int32) (x8 : Int32) (x9 : Int32) (x10 : Int32) : Option (Int32 × Mm) :=
k175 x8 x9 (x10 + (1 : Int32))
def f_X12_crews_291 (k175 : Int32 → Int32 → Int32 → Option (Int32 × Mm)) (M : Mm) (x4 : Int32) (x5 : Int32) (x6 : Int32) (x7 : Int32) (x8 : Int32) (x10 : Int32) (s_0 : Int32) : Option (Int32 × Mm) :=
f_X12_crews_293 k175 M x4 x5 x6 x7 x8 s_0 x10
def f_X12_crews_275 (k175 : Int32 → Int32 → Int32 → Option (Int32 × Mm)) (M : Mm) (x4 : Int32) (x5 : Int32) (x6 : Int32) (x7 : Int32) (x9 : Int32) (x10 : Int32) (x11 : Int32) (s_0 : Int32) : Option (Int32 × Mm) :=
if s_0 = x10 then
(f_X12_crews_291 k175 M x4 x5 x6 x7 s_0 x10 x11)
else
(f_X12_crews_291 k175 M x4 x5 x6 x7 s_0 x10 x9)
def f_X12_crews_268 (k175 : Int32 → Int32 → Int32 → Option (Int32 × Mm)) (M : Mm) (x4 : Int32) (x5 : Int32) (x6 : Int32) (x7 : Int32) (x9 : Int32) (x10 : Int32) (x11 : Int32) : Option (Int32 × Mm) :=
f_X12_crews_275 k175 M x4 x5 x6 x7 x9 x10 x11 x10
def f_X12_crews_254 (k175 : Int32 → Int32 → Int32 → Option (Int32 × Mm)) (M : Mm) (x4 : Int32) (x5 : Int32) (x6 : Int32) (x7 : Int32) (x8 : Int32) (x9 : Int32) (x10 : Int32) (x11 : Int32) : Option (Int32 × Mm) :=
if x8 = (-4 : Int32) then
(f_X12_crews_268 k175 M x4 x5 x6 x7 x9 x10 x11)
else
(if x9 ≤ x11 then
(f_X12_crews_275 k175 M x4 x5 x6 x7 x9 x10 x11 x8)
else
(f_X12_crews_268 k175 M x4 x5 x6 x7 x9 x10 x11))
def b_X12_crews_212 (k175 : Int32 → Int32 → Int32 → Option (Int32 × Mm)) (k212 : Int32 → Int32 → Option (Int32 × Mm)) (M : Mm) (x4 : Int32) (x5 : Int32) (x6 : Int32) (x7 : Int32) (x8 : Int32) (x9 : Int32) (x10 : Int32) (x11 : Int32) (x12 : Int32) : Option (Int32 × Mm) :=
if (M.1 0 1) ≤ x12 then
(f_X12_crews_254 k175 M x4 x5 x6 x7 x8 x9 x10 x11)
else
(if ((x10 >>> (x12 &&& 31)) &&& (1 : Int32)) = (1 : Int32) then
(ck (inn x12 10) <|
f_X12_crews_245 k175 k212 M x4 x5 x6 x7 x8 x9 x10 x12 x11 (M.1 12 x12.toNatClampNeg))
else
(f_X12_crews_245 k175 k212 M x4 x5 x6 x7 x8 x9 x10 x12 x11 (0 : Int32)))
def f_X12_crews_212 (k175 : Int32 → Int32 → Int32 → Option (Int32 × Mm)) (M : Mm) (x4 : Int32) (x5 : Int32) (x6 : Int32) (x7 : Int32) (x8 : Int32) (x9 : Int32) (x10 : Int32) : Nat → Int32 → Int32 → Option (Int32 × Mm)
  | 0, _, _ => none
  | n + 1, x11, x12 => b_X12_crews_212 k175 (fun x11 x12 => f_X12_crews_212 k175 M x4 x5 x6 x7 x8 x9 x10 n x11 x12) M x4 x5 x6 x7 x8 x9 x10 x11 x12
def f_X12_crews_325 (M : Mm) (s_0 : Int32) : Option (Int32 × Mm) :=
some (s_0, M)
def f_X12_crews_299 (M : Mm) (x4 : Int32) (x5 : Int32) (x7 : Int32) (x8 : Int32) (x9 : Int32) : Option (Int32 × Mm) :=
if x4 = 0 then
(f_X12_crews_325 M (x5 + x7))
else
(if x4 = (1 : Int32) then
(f_X12_crews_325 M x9)
else
(f_X12_crews_325 M x8))
def b_X12_crews_175 (k175 : Int32 → Int32 → Int32 → Option (Int32 × Mm)) (M : Mm) (x4 : Int32) (x5 : Int32) (x6 : Int32) (x7 : Int32) (x8 : Int32) (x9 : Int32) (x10 : Int32) : Option (Int32 × Mm) :=
if ((1 : Int32) <<< ((M.1 0 1) &&& 31)) ≤ x10 then
(f_X12_crews_299 M x4 x5 x7 x8 x9)
else
(if (x10 &&& (x6 ^^^ (-1 : Int32))) = 0 then
(bd (f_X12_bitsOf x10) fun p4 =>
if p4 = x7 then
(f_X12_crews_212 k175 M x4 x5 x6 x7 x8 x9 x10 FU (0 : Int32) (0 : Int32))
else
(f_X12_crews_293 k175 M x4 x5 x6 x7 x8 x9 x10))
else
(f_X12_crews_293 k175 M x4 x5 x6 x7 x8 x9 x10))
def f_X12_crews_175 (M : Mm) (x4 : Int32) (x5 : Int32) (x6 : Int32) (x7 : Int32) : Nat → Int32 → Int32 → Int32 → Option (Int32 × Mm)
  | 0, _, _, _ => none
  | n + 1, x8, x9, x10 => b_X12_crews_175 (fun x8 x9 x10 => f_X12_crews_175 M x4 x5 x6 x7 n x8 x9 x10) M x4 x5 x6 x7 x8 x9 x10
def f_X12_crews_163 (M : Mm) (x4 : Int32) (x5 : Int32) (x6 : Int32) (s_0 : Int32) : Option (Int32 × Mm) :=
f_X12_crews_175 M x4 x5 x6 s_0 FU (-4 : Int32) (0 : Int32) (0 : Int32)
def f_X12_crews_145 (M : Mm) (x3 : Int32) (x4 : Int32) (x5 : Int32) (x6 : Int32) : Option (Int32 × Mm) :=
bd (f_X12_bitsOf x6) fun p2 =>
if x3 ≤ p2 then
(f_X12_crews_163 M x4 x5 x6 x3)
else
(bd (f_X12_bitsOf x6) fun p5 =>
f_X12_crews_163 M x4 x5 x6 p5)
def b_X12_crews_51 (k51 : Mm → Int32 → Int32 → Int32 → Option (Int32 × Mm)) (x1 : Int32) (x2 : Int32) (x3 : Int32) (x4 : Int32) (M : Mm) (x5 : Int32) (x6 : Int32) (x7 : Int32) : Option (Int32 × Mm) :=
if (M.1 0 1) ≤ x7 then
(f_X12_crews_145 M x3 x4 x5 x6)
else
(bd (f_X12_needOf M x1 x7 x2) fun p3 =>
ck (inn x7 10) <|
wr (wI p3.2 12 x7.toNatClampNeg p3.1) fun M4 =>
if (M4.1 12 x7.toNatClampNeg) = 0 then
(f_X12_crews_92 k51 M4 x1 x2 x3 x4 x6 x7 x5 (1 : Int32))
else
(f_X12_crews_92 k51 M4 x1 x2 x3 x4 x6 x7 x5 (0 : Int32)))
def f_X12_crews_51 (x1 : Int32) (x2 : Int32) (x3 : Int32) (x4 : Int32) : Nat → Mm → Int32 → Int32 → Int32 → Option (Int32 × Mm)
  | 0, _, _, _, _ => none
  | n + 1, M, x5, x6, x7 => b_X12_crews_51 (fun M x5 x6 x7 => f_X12_crews_51 x1 x2 x3 x4 n M x5 x6 x7) x1 x2 x3 x4 M x5 x6 x7
def f_X12_crews (M : Mm) (x1 : Int32) (x2 : Int32) (x3 : Int32) (x4 : Int32) : Option (Int32 × Mm) :=
bd (f_X12_isSide x1) fun p2 =>
if p2 = 0 then
(f_X12_crews_40 M)
else
(bd (f_X12_isAhead M x2) fun p5 =>
if p5 = 0 then
(f_X12_crews_40 M)
else
(bd (f_X12_in x3.toInt64 (0 : Int64) (10 : Int64)) fun p8 =>
if p8 = 0 then
(f_X12_crews_40 M)
else
(bd (f_X12_in x4.toInt64 (0 : Int64) (2 : Int64)) fun p11 =>
if p11 = 0 then
(f_X12_crews_40 M)
else
(f_X12_crews_51 x1 x2 x3 x4 FU M (0 : Int32) (0 : Int32) (0 : Int32)))))
-- SnowSentriesModel.house(II)I
set_option maxRecDepth 4000 in
theorem k_X12_house_28 {p : Program} {l : Launch} {e : Env} {s : State} {m : MethodId} {args : Array Value} {below : List Frame} {meth : Method} {c : Code} {G : GG} {M : Mm} {r : Int32} (C : CX p s m args c prog_14_method_37_code 3 "SnowSentriesModel" 1 G) (hlk : meth.locks = false) (hr : meth.sig.returnType = (some .int)) : f_X12_house_28 M = some r → Z p l e { frames := 1, cells := 0, slots := 0, locals := 25 } s m args below meth c 1 G 3 (MQ below (QC 1 G (some (.int r)) M) args s 0 0 (AU 1 G)) 28 [] [] M := by
  intro h
  unfold f_X12_house_28 at h
  refine z_iconst (v := (-1 : Int32)) C d_X12_house_28 (by decide) ?_
  obtain rfl := o_some h
  exact z_iret C hlk hr d_X12_house_29
set_option maxRecDepth 4000 in
theorem k_X12_house_72 {p : Program} {l : Launch} {e : Env} {s : State} {m : MethodId} {args : Array Value} {below : List Frame} {meth : Method} {c : Code} {G : GG} {M : Mm} {s_0 : Int32} {r : Int32} (C : CX p s m args c prog_14_method_37_code 3 "SnowSentriesModel" 1 G) (hlk : meth.locks = false) (hr : meth.sig.returnType = (some .int)) : f_X12_house_72 M s_0 = some r → Z p l e { frames := 1, cells := 0, slots := 0, locals := 25 } s m args below meth c 1 G 3 (MQ below (QC 1 G (some (.int r)) M) args s 0 0 (AU 1 G)) 72 [] [.int s_0] M := by
  intro h
  unfold f_X12_house_72 at h
  obtain rfl := o_some h
  exact z_iret C hlk hr d_X12_house_72
set_option maxRecDepth 4000 in
theorem k_X12_house_0 {p : Program} {l : Launch} {e : Env} {s : State} {m : MethodId} {args : Array Value} {below : List Frame} {meth : Method} {c : Code} {G : GG} {M : Mm} {x1 : Int32} {x2 : Int32} {r : Int32} (C : CX p s m args c prog_14_method_37_code 3 "SnowSentriesModel" 1 G) (hlk : meth.locks = false) (hr : meth.sig.returnType = (some .int)) : f_X12_house M x1 x2 = some r → Z p l e { frames := 1, cells := 0, slots := 0, locals := 25 } s m args below meth c 1 G 3 (MQ below (QC 1 G (some (.int r)) M) args s 0 0 (AU 1 G)) 0 [(0, .ref (gB G + 0)), (1, .int x1), (2, .int x2)] [] M := by
  intro h
  unfold f_X12_house at h
  refine z_iload_n 1 C d_X12_house_0 rfl rfl ?_
  refine z_i2l C d_X12_house_1 ?_
  refine z_lconst (v := (0 : Int64)) C d_X12_house_2 (by decide) ?_
  refine z_aload_n 0 C d_X12_house_3 rfl rfl ?_
  refine z_get (k := 5) (v := .int (M.1 0 5)) C (eY_0 _ _) (by decide) rfl inX12 (by decide) wf_X12_170 rfl d_X12_house_4 ?_
  refine z_iconst (v := (1 : Int32)) C d_X12_house_7 (by decide) ?_
  refine z_isub C d_X12_house_8 ?_
  refine z_i2l C d_X12_house_9 ?_
  obtain ⟨p2, e1, h⟩ := o_bd h
  refine z_S (S := []) (As := [.long x1.toInt64, .long (0 : Int64), .long (((M.1 0 5) - (1 : Int32)).toInt64)]) C (c_X12_in l G (M := M) e1) wc_X12_in wm_X12_75 ws_X12_in wi_X12 hy_X12_in ⟨Nat.le_of_ble_eq_true rfl, Nat.le_of_ble_eq_true rfl⟩ rfl rfl (Nat.le_of_ble_eq_true rfl) d_X12_house_10 ?_
  refine z_if_eq C d_X12_house_13 (fun q3 => ?_) (fun q3 => ?_)
  · have h := o_t q3 h
    exact z_sub [] rfl (k_X12_house_28 C hlk hr h)
  · have h := o_f q3 h
    refine z_iload_n 2 C d_X12_house_16 rfl rfl ?_
    refine z_i2l C d_X12_house_17 ?_
    refine z_lconst (v := (0 : Int64)) C d_X12_house_18 (by decide) ?_
    refine z_ldc2 (v := (2 : Int64)) C wk_X12_188 d_X12_house_19 ?_
    obtain ⟨p5, e4, h⟩ := o_bd h
    refine z_S (S := []) (As := [.long x2.toInt64, .long (0 : Int64), .long (2 : Int64)]) C (c_X12_in l G (M := M) e4) wc_X12_in wm_X12_75 ws_X12_in wi_X12 hy_X12_in ⟨Nat.le_of_ble_eq_true rfl, Nat.le_of_ble_eq_true rfl⟩ rfl rfl (Nat.le_of_ble_eq_true rfl) d_X12_house_22 ?_
    refine z_if_ne C d_X12_house_25 (fun q6 => ?_) (fun q6 => ?_)
    · have h := o_f q6 h
      refine z_iload_n 2 C d_X12_house_30 rfl rfl ?_
      refine z_if_ne C d_X12_house_31 (fun q7 => ?_) (fun q7 => ?_)
      · have h := o_f q7 h
        refine z_iload_n 2 C d_X12_house_45 rfl rfl ?_
        refine z_iconst (v := (1 : Int32)) C d_X12_house_46 (by decide) ?_
        refine z_icmp_ne C d_X12_house_47 (fun q8 => ?_) (fun q8 => ?_)
        · have h := o_f q8 h
          refine z_aload_n 0 C d_X12_house_66 rfl rfl ?_
          refine z_iconst (v := (0 : Int32)) C d_X12_house_67 (by decide) ?_
          refine z_iload_n 1 C d_X12_house_68 rfl rfl ?_
          obtain ⟨p10, e9, h⟩ := o_bd h
          refine z_V (S := []) (As := [.int (0 : Int32), .int x1]) C (c_X12_houseOf l G e9) (eY_0 _ _) (by decide) rfl wc_X12_houseOf wm_X12_218 ws_X12_houseOf wl_X12_houseOf wi_X12 hy_X12_houseOf ⟨Nat.le_of_ble_eq_true rfl, Nat.le_of_ble_eq_true rfl⟩ rfl rfl (Nat.le_of_ble_eq_true rfl) d_X12_house_69 ?_
          exact z_sub [] rfl (k_X12_house_72 C hlk hr h)
        · have h := o_t q8 h
          refine z_bipush (v := (100 : Int32)) C d_X12_house_50 (by decide) ?_
          refine z_aload_n 0 C d_X12_house_52 rfl rfl ?_
          refine z_get (k := 4) (v := .ref (gB G + 4)) C (eY_0 _ _) (by decide) rfl inX12 (by decide) wf_X12_23 rfl d_X12_house_53 ?_
          refine z_iconst (v := (2 : Int32)) C d_X12_house_56 (by decide) ?_
          refine z_iload_n 1 C d_X12_house_57 rfl rfl ?_
          refine z_imul C d_X12_house_58 ?_
          refine z_iconst (v := (1 : Int32)) C d_X12_house_59 (by decide) ?_
          refine z_iadd C d_X12_house_60 ?_
          obtain ⟨q11, h⟩ := o_ck h
          refine z_ald (eY_4 _ _) C (by decide) q11 d_X12_house_61 ?_
          refine z_iadd C d_X12_house_62 ?_
          refine z_goto C d_X12_house_63 ?_
          exact z_sub [] rfl (k_X12_house_72 C hlk hr h)
      · have h := o_t q7 h
        refine z_aload_n 0 C d_X12_house_34 rfl rfl ?_
        refine z_get (k := 4) (v := .ref (gB G + 4)) C (eY_0 _ _) (by decide) rfl inX12 (by decide) wf_X12_23 rfl d_X12_house_35 ?_
        refine z_iconst (v := (2 : Int32)) C d_X12_house_38 (by decide) ?_
        refine z_iload_n 1 C d_X12_house_39 rfl rfl ?_
        refine z_imul C d_X12_house_40 ?_
        obtain ⟨q12, h⟩ := o_ck h
        refine z_ald (eY_4 _ _) C (by decide) q12 d_X12_house_41 ?_
        refine z_goto C d_X12_house_42 ?_
        exact z_sub [] rfl (k_X12_house_72 C hlk hr h)
    · have h := o_t q6 h
      exact z_sub [] rfl (k_X12_house_28 C hlk hr h)
theorem c_X12_house (l : Launch) (G : GG) {M : Mm} {x1 : Int32} {x2 : Int32} {r : Int32} (h : f_X12_house M x1 x2 = some r) : CT l 1 G y_X12_house prog_14_method_37_code 3 (some .int) 1 25 [.ref (gB G + 0), .int x1, .int x2] M (some (.int r)) M :=
  CT.of (by decide +kernel) (Nat.le_of_ble_eq_true rfl) rfl (fun p e s m args below meth c C hlk hr => k_X12_house_0 C hlk hr h)
-- SnowSentriesModel.shine(II)I
set_option maxRecDepth 4000 in
theorem k_X12_shine_19 {p : Program} {l : Launch} {e : Env} {s : State} {m : MethodId} {args : Array Value} {below : List Frame} {meth : Method} {c : Code} {G : GG} {M : Mm} {r : Int32} {M2 : Mm} (C : CX p s m args c prog_14_method_38_code 4 "SnowSentriesModel" 1 G) (hlk : meth.locks = false) (hr : meth.sig.returnType = (some .int)) : f_X12_shine_19 M = some (r, M2) → Z p l e { frames := 2, cells := 0, slots := 0, locals := 45 } s m args below meth c 1 G 4 (MQ below (QC 1 G (some (.int r)) M2) args s 0 0 (AU 1 G)) 19 [] [] M := by
  intro h
  unfold f_X12_shine_19 at h
  refine z_iconst (v := (-1 : Int32)) C d_X12_shine_19 (by decide) ?_
  obtain ⟨rfl, rfl⟩ := o_pair h
  exact z_iret C hlk hr d_X12_shine_20
set_option maxRecDepth 4000 in
theorem k_X12_shine_0 {p : Program} {l : Launch} {e : Env} {s : State} {m : MethodId} {args : Array Value} {below : List Frame} {meth : Method} {c : Code} {G : GG} {M : Mm} {x1 : Int32} {x2 : Int32} {r : Int32} {M2 : Mm} (C : CX p s m args c prog_14_method_38_code 4 "SnowSentriesModel" 1 G) (hlk : meth.locks = false) (hr : meth.sig.returnType = (some .int)) : f_X12_shine M x1 x2 = some (r, M2) → Z p l e { frames := 2, cells := 0, slots := 0, locals := 45 } s m args below meth c 1 G 4 (MQ below (QC 1 G (some (.int r)) M2) args s 0 0 (AU 1 G)) 0 [(0, .ref (gB G + 0)), (1, .int x1), (2, .int x2)] [] M := by
  intro h
  unfold f_X12_shine at h
  refine z_iload_n 1 C d_X12_shine_0 rfl rfl ?_
  obtain ⟨p2, e1, h⟩ := o_bd h
  refine z_S (S := []) (As := [.int x1]) C (c_X12_isHour l G (M := M) e1) wc_X12_isHour wm_X12_194 ws_X12_isHour wi_X12 hy_X12_isHour ⟨Nat.le_of_ble_eq_true rfl, Nat.le_of_ble_eq_true rfl⟩ rfl rfl (Nat.le_of_ble_eq_true rfl) d_X12_shine_1 ?_
  refine z_if_eq C d_X12_shine_4 (fun q3 => ?_) (fun q3 => ?_)
  · have h := o_t q3 h
    exact z_sub [] rfl (k_X12_shine_19 C hlk hr h)
  · have h := o_f q3 h
    refine z_iload_n 2 C d_X12_shine_7 rfl rfl ?_
    refine z_i2l C d_X12_shine_8 ?_
    refine z_lconst (v := (0 : Int64)) C d_X12_shine_9 (by decide) ?_
    refine z_ldc2 (v := (9 : Int64)) C wk_X12_221 d_X12_shine_10 ?_
    obtain ⟨p5, e4, h⟩ := o_bd h
    refine z_S (S := []) (As := [.long x2.toInt64, .long (0 : Int64), .long (9 : Int64)]) C (c_X12_in l G (M := M) e4) wc_X12_in wm_X12_75 ws_X12_in wi_X12 hy_X12_in ⟨Nat.le_of_ble_eq_true rfl, Nat.le_of_ble_eq_true rfl⟩ rfl rfl (Nat.le_of_ble_eq_true rfl) d_X12_shine_13 ?_
    refine z_if_ne C d_X12_shine_16 (fun q6 => ?_) (fun q6 => ?_)
    · have h := o_f q6 h
      refine z_aload_n 0 C d_X12_shine_21 rfl rfl ?_
      refine z_get (k := 0) (v := .ref (gB G + 1)) C (eY_0 _ _) (by decide) rfl inX12 (by decide) wf_X12_7 rfl d_X12_shine_22 ?_
      refine z_sipush (v := (171 : Int32)) C d_X12_shine_25 (by decide) ?_
      refine z_iload_n 1 C d_X12_shine_28 rfl rfl ?_
      refine z_iadd C d_X12_shine_29 ?_
      obtain ⟨q7, h⟩ := o_ck h
      refine z_ald (eY_1 _ _) C (by decide) q7 d_X12_shine_30 ?_
      obtain ⟨v8, e9, h⟩ := o_nm h
      refine z_nI e9 ?_
      refine z_istore_n (L' := [(3, .int v8), (0, .ref (gB G + 0)), (1, .int x1), (2, .int x2)]) C d_X12_shine_31 rfl (by decide) rfl ?_
      refine z_aload_n 1 C d_X12_shine_32 rfl rfl ?_
      refine z_get (k := 0) (v := .ref (gB G + 1)) C (eY_0 _ _) (by decide) rfl inX12 (by decide) wf_X12_7 rfl d_X12_shine_33 ?_
      refine z_sipush (v := (171 : Int32)) C d_X12_shine_36 (by decide) ?_
      refine z_iload_n 2 C d_X12_shine_39 rfl rfl ?_
      refine z_iadd C d_X12_shine_40 ?_
      refine z_iload_n 3 C d_X12_shine_41 rfl rfl ?_
      obtain ⟨M10, e11, h⟩ := o_wr h
      refine z_ast (fun r q => eY_1 r q) C (by decide) q7 d_X12_shine_42 ?_
      refine z_nM e11 ?_
      refine z_iload_n 0 C d_X12_shine_43 rfl rfl ?_
      obtain ⟨rfl, rfl⟩ := o_pair h
      exact z_iret C hlk hr d_X12_shine_44
    · have h := o_t q6 h
      exact z_sub [] rfl (k_X12_shine_19 C hlk hr h)
theorem c_X12_shine (l : Launch) (G : GG) {M : Mm} {x1 : Int32} {x2 : Int32} {r : Int32} {M2 : Mm} (h : f_X12_shine M x1 x2 = some (r, M2)) : CT l 1 G y_X12_shine prog_14_method_38_code 4 (some .int) 2 45 [.ref (gB G + 0), .int x1, .int x2] M (some (.int r)) M2 :=
  CT.of (by decide +kernel) (Nat.le_of_ble_eq_true rfl) rfl (fun p e s m args below meth c C hlk hr => k_X12_shine_0 C hlk hr h)
-- SnowSentriesModel.treaty(II)I
set_option maxRecDepth 4000 in
theorem k_X12_treaty_51 {p : Program} {l : Launch} {e : Env} {s : State} {m : MethodId} {args : Array Value} {below : List Frame} {meth : Method} {c : Code} {G : GG} {M : Mm} {r : Int32} {M2 : Mm} (C : CX p s m args c prog_14_method_39_code 4 "SnowSentriesModel" 1 G) (hlk : meth.locks = false) (hr : meth.sig.returnType = (some .int)) : f_X12_treaty_51 M = some (r, M2) → Z p l e { frames := 1, cells := 0, slots := 0, locals := 25 } s m args below meth c 1 G 4 (MQ below (QC 1 G (some (.int r)) M2) args s 0 0 (AU 1 G)) 51 [] [] M := by
  intro h
  unfold f_X12_treaty_51 at h
  refine z_iconst (v := (-1 : Int32)) C d_X12_treaty_51 (by decide) ?_
  obtain ⟨rfl, rfl⟩ := o_pair h
  exact z_iret C hlk hr d_X12_treaty_52
set_option maxRecDepth 4000 in
theorem k_X12_treaty_45 {p : Program} {l : Launch} {e : Env} {s : State} {m : MethodId} {args : Array Value} {below : List Frame} {meth : Method} {c : Code} {G : GG} {M : Mm} {x1 : Int32} {x2 : Int32} {t_0 : Int64} {t_1 : Int64} {t_2 : Int64} {r : Int32} {M2 : Mm} (C : CX p s m args c prog_14_method_39_code 4 "SnowSentriesModel" 1 G) (hlk : meth.locks = false) (hr : meth.sig.returnType = (some .int)) : f_X12_treaty_45 M x1 x2 t_0 t_1 t_2 = some (r, M2) → Z p l e { frames := 1, cells := 0, slots := 0, locals := 25 } s m args below meth c 1 G 4 (MQ below (QC 1 G (some (.int r)) M2) args s 0 0 (AU 1 G)) 45 [(0, .ref (gB G + 0)), (1, .int x1), (2, .int x2)] [.long t_2, .long t_1, .long t_0] M := by
  intro h
  unfold f_X12_treaty_45 at h
  obtain ⟨p2, e1, h⟩ := o_bd h
  refine z_S (S := []) (As := [.long t_0, .long t_1, .long t_2]) C (c_X12_in l G (M := M) e1) wc_X12_in wm_X12_75 ws_X12_in wi_X12 hy_X12_in ⟨Nat.le_of_ble_eq_true rfl, Nat.le_of_ble_eq_true rfl⟩ rfl rfl (Nat.le_of_ble_eq_true rfl) d_X12_treaty_45 ?_
  refine z_if_ne C d_X12_treaty_48 (fun q3 => ?_) (fun q3 => ?_)
  · have h := o_f q3 h
    refine z_aload_n 0 C d_X12_treaty_53 rfl rfl ?_
    refine z_get (k := 3) (v := .ref (gB G + 3)) C (eY_0 _ _) (by decide) rfl inX12 (by decide) wf_X12_20 rfl d_X12_treaty_54 ?_
    refine z_iload_n 1 C d_X12_treaty_57 rfl rfl ?_
    obtain ⟨q4, h⟩ := o_ck h
    refine z_ald (eY_3 _ _) C (by decide) q4 d_X12_treaty_58 ?_
    obtain ⟨v5, e6, h⟩ := o_nm h
    refine z_nI e6 ?_
    refine z_istore_n (L' := [(3, .int v5), (0, .ref (gB G + 0)), (1, .int x1), (2, .int x2)]) C d_X12_treaty_59 rfl (by decide) rfl ?_
    refine z_aload_n 1 C d_X12_treaty_60 rfl rfl ?_
    refine z_get (k := 3) (v := .ref (gB G + 3)) C (eY_0 _ _) (by decide) rfl inX12 (by decide) wf_X12_20 rfl d_X12_treaty_61 ?_
    refine z_iload_n 2 C d_X12_treaty_64 rfl rfl ?_
    refine z_iload_n 3 C d_X12_treaty_65 rfl rfl ?_
    obtain ⟨M7, e8, h⟩ := o_wr h
    refine z_ast (fun r q => eY_3 r q) C (by decide) q4 d_X12_treaty_66 ?_
    refine z_nM e8 ?_
    refine z_iload_n 0 C d_X12_treaty_67 rfl rfl ?_
    obtain ⟨rfl, rfl⟩ := o_pair h
    exact z_iret C hlk hr d_X12_treaty_68
  · have h := o_t q3 h
    exact z_sub [] rfl (k_X12_treaty_51 C hlk hr h)
set_option maxRecDepth 4000 in
theorem k_X12_treaty_23 {p : Program} {l : Launch} {e : Env} {s : State} {m : MethodId} {args : Array Value} {below : List Frame} {meth : Method} {c : Code} {G : GG} {M : Mm} {x1 : Int32} {x2 : Int32} {t_0 : Int64} {t_1 : Int64} {r : Int32} {M2 : Mm} (C : CX p s m args c prog_14_method_39_code 4 "SnowSentriesModel" 1 G) (hlk : meth.locks = false) (hr : meth.sig.returnType = (some .int)) : f_X12_treaty_23 M x1 x2 t_0 t_1 = some (r, M2) → Z p l e { frames := 1, cells := 0, slots := 0, locals := 25 } s m args below meth c 1 G 4 (MQ below (QC 1 G (some (.int r)) M2) args s 0 0 (AU 1 G)) 23 [(0, .ref (gB G + 0)), (1, .int x1), (2, .int x2)] [.long t_1, .long t_0] M := by
  intro h
  unfold f_X12_treaty_23 at h
  refine z_iload_n 1 C d_X12_treaty_23 rfl rfl ?_
  refine z_if_ne C d_X12_treaty_24 (fun q1 => ?_) (fun q1 => ?_)
  · have h := o_f q1 h
    refine z_iload_n 1 C d_X12_treaty_33 rfl rfl ?_
    refine z_iconst (v := (1 : Int32)) C d_X12_treaty_34 (by decide) ?_
    refine z_icmp_ne C d_X12_treaty_35 (fun q2 => ?_) (fun q2 => ?_)
    · have h := o_f q2 h
      refine z_lconst (v := (1 : Int64)) C d_X12_treaty_44 (by decide) ?_
      exact z_sub [0, 1, 2] rfl (k_X12_treaty_45 C hlk hr h)
    · have h := o_t q2 h
      refine z_ldc2 (v := (3 : Int64)) C wk_X12_204 d_X12_treaty_38 ?_
      refine z_goto C d_X12_treaty_41 ?_
      exact z_sub [0, 1, 2] rfl (k_X12_treaty_45 C hlk hr h)
  · have h := o_t q1 h
    refine z_ldc2 (v := (99 : Int64)) C wk_X12_223 d_X12_treaty_27 ?_
    refine z_goto C d_X12_treaty_30 ?_
    exact z_sub [0, 1, 2] rfl (k_X12_treaty_45 C hlk hr h)
set_option maxRecDepth 4000 in
theorem k_X12_treaty_0 {p : Program} {l : Launch} {e : Env} {s : State} {m : MethodId} {args : Array Value} {below : List Frame} {meth : Method} {c : Code} {G : GG} {M : Mm} {x1 : Int32} {x2 : Int32} {r : Int32} {M2 : Mm} (C : CX p s m args c prog_14_method_39_code 4 "SnowSentriesModel" 1 G) (hlk : meth.locks = false) (hr : meth.sig.returnType = (some .int)) : f_X12_treaty M x1 x2 = some (r, M2) → Z p l e { frames := 1, cells := 0, slots := 0, locals := 25 } s m args below meth c 1 G 4 (MQ below (QC 1 G (some (.int r)) M2) args s 0 0 (AU 1 G)) 0 [(0, .ref (gB G + 0)), (1, .int x1), (2, .int x2)] [] M := by
  intro h
  unfold f_X12_treaty at h
  refine z_iload_n 1 C d_X12_treaty_0 rfl rfl ?_
  refine z_i2l C d_X12_treaty_1 ?_
  refine z_lconst (v := (0 : Int64)) C d_X12_treaty_2 (by decide) ?_
  refine z_ldc2 (v := (2 : Int64)) C wk_X12_188 d_X12_treaty_3 ?_
  obtain ⟨p2, e1, h⟩ := o_bd h
  refine z_S (S := []) (As := [.long x1.toInt64, .long (0 : Int64), .long (2 : Int64)]) C (c_X12_in l G (M := M) e1) wc_X12_in wm_X12_75 ws_X12_in wi_X12 hy_X12_in ⟨Nat.le_of_ble_eq_true rfl, Nat.le_of_ble_eq_true rfl⟩ rfl rfl (Nat.le_of_ble_eq_true rfl) d_X12_treaty_6 ?_
  refine z_if_eq C d_X12_treaty_9 (fun q3 => ?_) (fun q3 => ?_)
  · have h := o_t q3 h
    exact z_sub [] rfl (k_X12_treaty_51 C hlk hr h)
  · have h := o_f q3 h
    refine z_iload_n 2 C d_X12_treaty_12 rfl rfl ?_
    refine z_i2l C d_X12_treaty_13 ?_
    refine z_iload_n 1 C d_X12_treaty_14 rfl rfl ?_
    refine z_if_ne C d_X12_treaty_15 (fun q4 => ?_) (fun q4 => ?_)
    · have h := o_f q4 h
      refine z_lconst (v := (0 : Int64)) C d_X12_treaty_22 (by decide) ?_
      exact z_sub [0, 1, 2] rfl (k_X12_treaty_23 C hlk hr h)
    · have h := o_t q4 h
      refine z_lconst (v := (1 : Int64)) C d_X12_treaty_18 (by decide) ?_
      refine z_goto C d_X12_treaty_19 ?_
      exact z_sub [0, 1, 2] rfl (k_X12_treaty_23 C hlk hr h)
theorem c_X12_treaty (l : Launch) (G : GG) {M : Mm} {x1 : Int32} {x2 : Int32} {r : Int32} {M2 : Mm} (h : f_X12_treaty M x1 x2 = some (r, M2)) : CT l 1 G y_X12_treaty prog_14_method_39_code 4 (some .int) 1 25 [.ref (gB G + 0), .int x1, .int x2] M (some (.int r)) M2 :=
  CT.of (by decide +kernel) (Nat.le_of_ble_eq_true rfl) rfl (fun p e s m args below meth c C hlk hr => k_X12_treaty_0 C hlk hr h)
-- SnowSentriesModel.chance(I)I
set_option maxRecDepth 4000 in
theorem k_X12_chance_0 {p : Program} {l : Launch} {e : Env} {s : State} {m : MethodId} {args : Array Value} {below : List Frame} {meth : Method} {c : Code} {G : GG} {M : Mm} {x1 : Int32} {r : Int32} {M2 : Mm} (C : CX p s m args c prog_14_method_40_code 3 "SnowSentriesModel" 1 G) (hlk : meth.locks = false) (hr : meth.sig.returnType = (some .int)) : f_X12_chance M x1 = some (r, M2) → Z p l e { frames := 1, cells := 0, slots := 0, locals := 25 } s m args below meth c 1 G 3 (MQ below (QC 1 G (some (.int r)) M2) args s 0 0 (AU 1 G)) 0 [(0, .ref (gB G + 0)), (1, .int x1)] [] M := by
  intro h
  unfold f_X12_chance at h
  refine z_iload_n 1 C d_X12_chance_0 rfl rfl ?_
  refine z_i2l C d_X12_chance_1 ?_
  refine z_lconst (v := (0 : Int64)) C d_X12_chance_2 (by decide) ?_
  refine z_ldc2 (v := (10 : Int64)) C wk_X12_225 d_X12_chance_3 ?_
  obtain ⟨p2, e1, h⟩ := o_bd h
  refine z_S (S := []) (As := [.long x1.toInt64, .long (0 : Int64), .long (10 : Int64)]) C (c_X12_in l G (M := M) e1) wc_X12_in wm_X12_75 ws_X12_in wi_X12 hy_X12_in ⟨Nat.le_of_ble_eq_true rfl, Nat.le_of_ble_eq_true rfl⟩ rfl rfl (Nat.le_of_ble_eq_true rfl) d_X12_chance_6 ?_
  refine z_if_ne C d_X12_chance_9 (fun q3 => ?_) (fun q3 => ?_)
  · have h := o_f q3 h
    refine z_aload_n 0 C d_X12_chance_14 rfl rfl ?_
    refine z_get (k := 6) (v := .int (M.1 0 6)) C (eY_0 _ _) (by decide) rfl inX12 (by decide) wf_X12_26 rfl d_X12_chance_15 ?_
    obtain ⟨v4, e5, h⟩ := o_nm h
    refine z_nI e5 ?_
    refine z_istore_n (L' := [(2, .int v4), (0, .ref (gB G + 0)), (1, .int x1)]) C d_X12_chance_18 rfl (by decide) rfl ?_
    refine z_aload_n 1 C d_X12_chance_19 rfl rfl ?_
    refine z_iload_n 2 C d_X12_chance_20 rfl rfl ?_
    obtain ⟨M6, e7, h⟩ := o_wr h
    refine z_pI (k := 6) (ty := .int) C (fun r q => eY_0 r q) (fun _ _ => rfl) (by decide) rfl inX12 tyX12 tyX12_ok nmX12 (by decide) wf_X12_26 rfl (by decide +kernel) rfl rfl (Nat.le_of_ble_eq_true rfl) d_X12_chance_21 ?_
    refine z_nM e7 ?_
    refine z_iload_n 0 C d_X12_chance_24 rfl rfl ?_
    obtain ⟨rfl, rfl⟩ := o_pair h
    exact z_iret C hlk hr d_X12_chance_25
  · have h := o_t q3 h
    refine z_iconst (v := (-1 : Int32)) C d_X12_chance_12 (by decide) ?_
    obtain ⟨rfl, rfl⟩ := o_pair h
    exact z_iret C hlk hr d_X12_chance_13
theorem c_X12_chance (l : Launch) (G : GG) {M : Mm} {x1 : Int32} {r : Int32} {M2 : Mm} (h : f_X12_chance M x1 = some (r, M2)) : CT l 1 G y_X12_chance prog_14_method_40_code 3 (some .int) 1 25 [.ref (gB G + 0), .int x1] M (some (.int r)) M2 :=
  CT.of (by decide +kernel) (Nat.le_of_ble_eq_true rfl) rfl (fun p e s m args below meth c C hlk hr => k_X12_chance_0 C hlk hr h)
-- SnowSentriesModel.light(IIII)I
set_option maxRecDepth 4000 in
theorem k_X12_light_41 {p : Program} {l : Launch} {e : Env} {s : State} {m : MethodId} {args : Array Value} {below : List Frame} {meth : Method} {c : Code} {G : GG} {M : Mm} {r : Int32} {M2 : Mm} (C : CX p s m args c prog_14_method_41_code 6 "SnowSentriesModel" 1 G) (hlk : meth.locks = false) (hr : meth.sig.returnType = (some .int)) : f_X12_light_41 M = some (r, M2) → Z p l e { frames := 2, cells := 0, slots := 0, locals := 46 } s m args below meth c 1 G 6 (MQ below (QC 1 G (some (.int r)) M2) args s 0 0 (AU 1 G)) 41 [] [] M := by
  intro h
  unfold f_X12_light_41 at h
  refine z_iconst (v := (-1 : Int32)) C d_X12_light_41 (by decide) ?_
  obtain ⟨rfl, rfl⟩ := o_pair h
  exact z_iret C hlk hr d_X12_light_42
set_option maxRecDepth 4000 in
theorem k_X12_light_0 {p : Program} {l : Launch} {e : Env} {s : State} {m : MethodId} {args : Array Value} {below : List Frame} {meth : Method} {c : Code} {G : GG} {M : Mm} {x1 : Int32} {x2 : Int32} {x3 : Int32} {x4 : Int32} {r : Int32} {M2 : Mm} (C : CX p s m args c prog_14_method_41_code 6 "SnowSentriesModel" 1 G) (hlk : meth.locks = false) (hr : meth.sig.returnType = (some .int)) : f_X12_light M x1 x2 x3 x4 = some (r, M2) → Z p l e { frames := 2, cells := 0, slots := 0, locals := 46 } s m args below meth c 1 G 6 (MQ below (QC 1 G (some (.int r)) M2) args s 0 0 (AU 1 G)) 0 [(0, .ref (gB G + 0)), (1, .int x1), (2, .int x2), (3, .int x3), (4, .int x4)] [] M := by
  intro h
  unfold f_X12_light at h
  refine z_aload_n 0 C d_X12_light_0 rfl rfl ?_
  refine z_iload_n 1 C d_X12_light_1 rfl rfl ?_
  obtain ⟨p2, e1, h⟩ := o_bd h
  refine z_V (S := []) (As := [.int x1]) C (c_X12_isFurlong l G e1) (eY_0 _ _) (by decide) rfl wc_X12_isFurlong wm_X12_201 ws_X12_isFurlong wl_X12_isFurlong wi_X12 hy_X12_isFurlong ⟨Nat.le_of_ble_eq_true rfl, Nat.le_of_ble_eq_true rfl⟩ rfl rfl (Nat.le_of_ble_eq_true rfl) d_X12_light_2 ?_
  refine z_if_eq C d_X12_light_5 (fun q3 => ?_) (fun q3 => ?_)
  · have h := o_t q3 h
    exact z_sub [] rfl (k_X12_light_41 C hlk hr h)
  · have h := o_f q3 h
    refine z_iload_n 2 C d_X12_light_8 rfl rfl ?_
    refine z_i2l C d_X12_light_9 ?_
    refine z_lconst (v := (1 : Int64)) C d_X12_light_10 (by decide) ?_
    refine z_ldc2 (v := (20 : Int64)) C wk_X12_227 d_X12_light_11 ?_
    obtain ⟨p5, e4, h⟩ := o_bd h
    refine z_S (S := []) (As := [.long x2.toInt64, .long (1 : Int64), .long (20 : Int64)]) C (c_X12_in l G (M := M) e4) wc_X12_in wm_X12_75 ws_X12_in wi_X12 hy_X12_in ⟨Nat.le_of_ble_eq_true rfl, Nat.le_of_ble_eq_true rfl⟩ rfl rfl (Nat.le_of_ble_eq_true rfl) d_X12_light_14 ?_
    refine z_if_eq C d_X12_light_17 (fun q6 => ?_) (fun q6 => ?_)
    · have h := o_t q6 h
      exact z_sub [] rfl (k_X12_light_41 C hlk hr h)
    · have h := o_f q6 h
      refine z_iload_n 3 C d_X12_light_20 rfl rfl ?_
      obtain ⟨p8, e7, h⟩ := o_bd h
      refine z_S (S := []) (As := [.int x3]) C (c_X12_isHour l G (M := M) e7) wc_X12_isHour wm_X12_194 ws_X12_isHour wi_X12 hy_X12_isHour ⟨Nat.le_of_ble_eq_true rfl, Nat.le_of_ble_eq_true rfl⟩ rfl rfl (Nat.le_of_ble_eq_true rfl) d_X12_light_21 ?_
      refine z_if_eq C d_X12_light_24 (fun q9 => ?_) (fun q9 => ?_)
      · have h := o_t q9 h
        exact z_sub [] rfl (k_X12_light_41 C hlk hr h)
      · have h := o_f q9 h
        refine z_iload 4 C d_X12_light_27 rfl ?_
        refine z_i2l C d_X12_light_29 ?_
        refine z_iload_n 3 C d_X12_light_30 rfl rfl ?_
        refine z_i2l C d_X12_light_31 ?_
        refine z_ldc2 (v := (11 : Int64)) C wk_X12_192 d_X12_light_32 ?_
        obtain ⟨p11, e10, h⟩ := o_bd h
        refine z_S (S := []) (As := [.long x4.toInt64, .long x3.toInt64, .long (11 : Int64)]) C (c_X12_in l G (M := M) e10) wc_X12_in wm_X12_75 ws_X12_in wi_X12 hy_X12_in ⟨Nat.le_of_ble_eq_true rfl, Nat.le_of_ble_eq_true rfl⟩ rfl rfl (Nat.le_of_ble_eq_true rfl) d_X12_light_35 ?_
        refine z_if_ne C d_X12_light_38 (fun q12 => ?_) (fun q12 => ?_)
        · have h := o_f q12 h
          refine z_aload_n 0 C d_X12_light_43 rfl rfl ?_
          refine z_get (k := 0) (v := .ref (gB G + 1)) C (eY_0 _ _) (by decide) rfl inX12 (by decide) wf_X12_7 rfl d_X12_light_44 ?_
          refine z_sipush (v := (207 : Int32)) C d_X12_light_47 (by decide) ?_
          refine z_ald (eY_1 _ _) C (by decide) (show inn (207 : Int32) 840 from by decide) d_X12_light_50 ?_
          obtain ⟨v13, e14, h⟩ := o_nm h
          refine z_nI e14 ?_
          refine z_istore (L' := [(5, .int v13), (0, .ref (gB G + 0)), (1, .int x1), (2, .int x2), (3, .int x3), (4, .int x4)]) C d_X12_light_51 (by decide) rfl ?_
          refine z_iload 0 C d_X12_light_53 rfl ?_
          refine z_bipush (v := (6 : Int32)) C d_X12_light_55 (by decide) ?_
          refine z_icmp_ne C d_X12_light_57 (fun q15 => ?_) (fun q15 => ?_)
          · have h := o_f q15 h
            refine z_aload_n 1 C d_X12_light_63 rfl rfl ?_
            refine z_get (k := 0) (v := .ref (gB G + 1)) C (eY_0 _ _) (by decide) rfl inX12 (by decide) wf_X12_7 rfl d_X12_light_64 ?_
            refine z_sipush (v := (183 : Int32)) C d_X12_light_67 (by decide) ?_
            refine z_iconst (v := (4 : Int32)) C d_X12_light_70 (by decide) ?_
            refine z_iload 0 C d_X12_light_71 rfl ?_
            refine z_imul C d_X12_light_73 ?_
            refine z_iadd C d_X12_light_74 ?_
            refine z_iload_n 2 C d_X12_light_75 rfl rfl ?_
            obtain ⟨q18, h⟩ := o_ck h
            obtain ⟨M16, e17, h⟩ := o_wr h
            refine z_ast (fun r q => eY_1 r q) C (by decide) q18 d_X12_light_76 ?_
            refine z_nM e17 ?_
            refine z_aload_n 1 C d_X12_light_77 rfl rfl ?_
            refine z_get (k := 0) (v := .ref (gB G + 1)) C (eY_0 _ _) (by decide) rfl inX12 (by decide) wf_X12_7 rfl d_X12_light_78 ?_
            refine z_sipush (v := (183 : Int32)) C d_X12_light_81 (by decide) ?_
            refine z_iconst (v := (4 : Int32)) C d_X12_light_84 (by decide) ?_
            refine z_iload 0 C d_X12_light_85 rfl ?_
            refine z_imul C d_X12_light_87 ?_
            refine z_iadd C d_X12_light_88 ?_
            refine z_iconst (v := (1 : Int32)) C d_X12_light_89 (by decide) ?_
            refine z_iadd C d_X12_light_90 ?_
            refine z_iload_n 3 C d_X12_light_91 rfl rfl ?_
            obtain ⟨q21, h⟩ := o_ck h
            obtain ⟨M19, e20, h⟩ := o_wr h
            refine z_ast (fun r q => eY_1 r q) C (by decide) q21 d_X12_light_92 ?_
            refine z_nM e20 ?_
            refine z_aload_n 1 C d_X12_light_93 rfl rfl ?_
            refine z_get (k := 0) (v := .ref (gB G + 1)) C (eY_0 _ _) (by decide) rfl inX12 (by decide) wf_X12_7 rfl d_X12_light_94 ?_
            refine z_sipush (v := (183 : Int32)) C d_X12_light_97 (by decide) ?_
            refine z_iconst (v := (4 : Int32)) C d_X12_light_100 (by decide) ?_
            refine z_iload 0 C d_X12_light_101 rfl ?_
            refine z_imul C d_X12_light_103 ?_
            refine z_iadd C d_X12_light_104 ?_
            refine z_iconst (v := (2 : Int32)) C d_X12_light_105 (by decide) ?_
            refine z_iadd C d_X12_light_106 ?_
            refine z_iload_n 4 C d_X12_light_107 rfl rfl ?_
            obtain ⟨q24, h⟩ := o_ck h
            obtain ⟨M22, e23, h⟩ := o_wr h
            refine z_ast (fun r q => eY_1 r q) C (by decide) q24 d_X12_light_108 ?_
            refine z_nM e23 ?_
            refine z_aload_n 1 C d_X12_light_109 rfl rfl ?_
            refine z_get (k := 0) (v := .ref (gB G + 1)) C (eY_0 _ _) (by decide) rfl inX12 (by decide) wf_X12_7 rfl d_X12_light_110 ?_
            refine z_sipush (v := (183 : Int32)) C d_X12_light_113 (by decide) ?_
            refine z_iconst (v := (4 : Int32)) C d_X12_light_116 (by decide) ?_
            refine z_iload 0 C d_X12_light_117 rfl ?_
            refine z_imul C d_X12_light_119 ?_
            refine z_iadd C d_X12_light_120 ?_
            refine z_iconst (v := (3 : Int32)) C d_X12_light_121 (by decide) ?_
            refine z_iadd C d_X12_light_122 ?_
            refine z_iload 5 C d_X12_light_123 rfl ?_
            obtain ⟨q27, h⟩ := o_ck h
            obtain ⟨M25, e26, h⟩ := o_wr h
            refine z_ast (fun r q => eY_1 r q) C (by decide) q27 d_X12_light_125 ?_
            refine z_nM e26 ?_
            refine z_aload_n 1 C d_X12_light_126 rfl rfl ?_
            refine z_get (k := 0) (v := .ref (gB G + 1)) C (eY_0 _ _) (by decide) rfl inX12 (by decide) wf_X12_7 rfl d_X12_light_127 ?_
            refine z_sipush (v := (207 : Int32)) C d_X12_light_130 (by decide) ?_
            refine z_dup2 C d_X12_light_133 rfl rfl ?_
            refine z_ald (eY_1 _ _) C (by decide) (show inn (207 : Int32) 840 from by decide) d_X12_light_134 ?_
            refine z_iconst (v := (1 : Int32)) C d_X12_light_135 (by decide) ?_
            refine z_iadd C d_X12_light_136 ?_
            obtain ⟨M28, e29, h⟩ := o_wr h
            refine z_ast (fun r q => eY_1 r q) C (by decide) (show inn (207 : Int32) 840 from by decide) d_X12_light_137 ?_
            refine z_nM e29 ?_
            refine z_iload 0 C d_X12_light_138 rfl ?_
            refine z_iconst (v := (1 : Int32)) C d_X12_light_140 (by decide) ?_
            refine z_iadd C d_X12_light_141 ?_
            obtain ⟨rfl, rfl⟩ := o_pair h
            exact z_iret C hlk hr d_X12_light_142
          · have h := o_t q15 h
            refine z_bipush (v := (-3 : Int32)) C d_X12_light_60 (by decide) ?_
            obtain ⟨rfl, rfl⟩ := o_pair h
            exact z_iret C hlk hr d_X12_light_62
        · have h := o_t q12 h
          exact z_sub [] rfl (k_X12_light_41 C hlk hr h)
theorem c_X12_light (l : Launch) (G : GG) {M : Mm} {x1 : Int32} {x2 : Int32} {x3 : Int32} {x4 : Int32} {r : Int32} {M2 : Mm} (h : f_X12_light M x1 x2 x3 x4 = some (r, M2)) : CT l 1 G y_X12_light prog_14_method_41_code 6 (some .int) 2 46 [.ref (gB G + 0), .int x1, .int x2, .int x3, .int x4] M (some (.int r)) M2 :=
  CT.of (by decide +kernel) (Nat.le_of_ble_eq_true rfl) rfl (fun p e s m args below meth c C hlk hr => k_X12_light_0 C hlk hr h)
-- SnowSentriesModel.quench(I)I
set_option maxRecDepth 4000 in
theorem k_X12_quench_80 {p : Program} {l : Launch} {e : Env} {s : State} {m : MethodId} {args : Array Value} {below : List Frame} {meth : Method} {c : Code} {G : GG} {M : Mm} {r : Int32} {M2 : Mm} (C : CX p s m args c prog_14_method_42_code 3 "SnowSentriesModel" 1 G) (hlk : meth.locks = false) (hr : meth.sig.returnType = (some .int)) : f_X12_quench_80 M = some (r, M2) → Z p l e { frames := 1, cells := 0, slots := 0, locals := 25 } s m args below meth c 1 G 3 (MQ below (QC 1 G (some (.int r)) M2) args s 0 0 (AU 1 G)) 80 [(0, .ref (gB G + 0))] [] M := by
  intro h
  unfold f_X12_quench_80 at h
  refine z_aload_n 0 C d_X12_quench_80 rfl rfl ?_
  refine z_get (k := 0) (v := .ref (gB G + 1)) C (eY_0 _ _) (by decide) rfl inX12 (by decide) wf_X12_7 rfl d_X12_quench_81 ?_
  refine z_sipush (v := (207 : Int32)) C d_X12_quench_84 (by decide) ?_
  refine z_ald (eY_1 _ _) C (by decide) (show inn (207 : Int32) 840 from by decide) d_X12_quench_87 ?_
  obtain ⟨rfl, rfl⟩ := o_pair h
  exact z_iret C hlk hr d_X12_quench_88
set_option maxRecDepth 4000 in
theorem kb_X12_quench_38 {p : Program} {l : Launch} {e : Env} {s : State} {m : MethodId} {args : Array Value} {below : List Frame} {meth : Method} {c : Code} {G : GG} {k38 : Mm → Int32 → Option (Int32 × Mm)} {M : Mm} {x2 : Int32} {r : Int32} {M2 : Mm} (C : CX p s m args c prog_14_method_42_code 3 "SnowSentriesModel" 1 G) (hlk : meth.locks = false) (hr : meth.sig.returnType = (some .int)) (hk38 : ∀ (M : Mm) (x2 : Int32), k38 M x2 = some (r, M2) → Z p l e { frames := 1, cells := 0, slots := 0, locals := 25 } s m args below meth c 1 G 3 (MQ below (QC 1 G (some (.int r)) M2) args s 0 0 (AU 1 G)) 38 [(0, .ref (gB G + 0)), (2, .int x2)] [] M) : b_X12_quench_38 k38 M x2 = some (r, M2) → Z p l e { frames := 1, cells := 0, slots := 0, locals := 25 } s m args below meth c 1 G 3 (MQ below (QC 1 G (some (.int r)) M2) args s 0 0 (AU 1 G)) 38 [(0, .ref (gB G + 0)), (2, .int x2)] [] M := by
  intro h
  unfold b_X12_quench_38 at h
  refine z_iload_n 1 C d_X12_quench_38 rfl rfl ?_
  refine z_iconst (v := (4 : Int32)) C d_X12_quench_39 (by decide) ?_
  refine z_aload_n 0 C d_X12_quench_40 rfl rfl ?_
  refine z_get (k := 0) (v := .ref (gB G + 1)) C (eY_0 _ _) (by decide) rfl inX12 (by decide) wf_X12_7 rfl d_X12_quench_41 ?_
  refine z_sipush (v := (207 : Int32)) C d_X12_quench_44 (by decide) ?_
  refine z_ald (eY_1 _ _) C (by decide) (show inn (207 : Int32) 840 from by decide) d_X12_quench_47 ?_
  refine z_imul C d_X12_quench_48 ?_
  refine z_icmp_ge C d_X12_quench_49 (fun q1 => ?_) (fun q1 => ?_)
  · have h := o_t q1 h
    exact z_sub [0] rfl (k_X12_quench_80 C hlk hr h)
  · have h := o_f q1 h
    refine z_aload_n 0 C d_X12_quench_52 rfl rfl ?_
    refine z_get (k := 0) (v := .ref (gB G + 1)) C (eY_0 _ _) (by decide) rfl inX12 (by decide) wf_X12_7 rfl d_X12_quench_53 ?_
    refine z_sipush (v := (183 : Int32)) C d_X12_quench_56 (by decide) ?_
    refine z_iload_n 1 C d_X12_quench_59 rfl rfl ?_
    refine z_iadd C d_X12_quench_60 ?_
    refine z_aload_n 0 C d_X12_quench_61 rfl rfl ?_
    refine z_get (k := 0) (v := .ref (gB G + 1)) C (eY_0 _ _) (by decide) rfl inX12 (by decide) wf_X12_7 rfl d_X12_quench_62 ?_
    refine z_sipush (v := (183 : Int32)) C d_X12_quench_65 (by decide) ?_
    refine z_iload_n 1 C d_X12_quench_68 rfl rfl ?_
    refine z_iadd C d_X12_quench_69 ?_
    refine z_iconst (v := (4 : Int32)) C d_X12_quench_70 (by decide) ?_
    refine z_iadd C d_X12_quench_71 ?_
    obtain ⟨q2, h⟩ := o_ck h
    refine z_ald (eY_1 _ _) C (by decide) q2 d_X12_quench_72 ?_
    obtain ⟨q5, h⟩ := o_ck h
    obtain ⟨M3, e4, h⟩ := o_wr h
    refine z_ast (fun r q => eY_1 r q) C (by decide) q5 d_X12_quench_73 ?_
    refine z_nM e4 ?_
    refine z_iinc (v := (1 : Int32)) (L' := [(2, .int (x2 + (1 : Int32))), (0, .ref (gB G + 0))]) 1 C d_X12_quench_74 rfl (by decide) (by decide) rfl ?_
    refine z_goto C d_X12_quench_77 ?_
    exact z_sub [1, 0] rfl (hk38 _ _  h)
theorem k_X12_quench_38 {p : Program} {l : Launch} {e : Env} {s : State} {m : MethodId} {args : Array Value} {below : List Frame} {meth : Method} {c : Code} {G : GG} {r : Int32} {M2 : Mm} (C : CX p s m args c prog_14_method_42_code 3 "SnowSentriesModel" 1 G) (hlk : meth.locks = false) (hr : meth.sig.returnType = (some .int)) : ∀ (n : Nat) (M : Mm) (x2 : Int32), f_X12_quench_38 n M x2 = some (r, M2) → Z p l e { frames := 1, cells := 0, slots := 0, locals := 25 } s m args below meth c 1 G 3 (MQ below (QC 1 G (some (.int r)) M2) args s 0 0 (AU 1 G)) 38 [(0, .ref (gB G + 0)), (2, .int x2)] [] M := by
  intro n
  induction n with
  | zero =>
    intro M x2  h
    exact absurd h (fun z => by cases z)
  | succ n ih =>
    intro M x2  h
    exact kb_X12_quench_38 C hlk hr  (fun M x2 h => ih M x2 h) h
set_option maxRecDepth 4000 in
theorem k_X12_quench_0 {p : Program} {l : Launch} {e : Env} {s : State} {m : MethodId} {args : Array Value} {below : List Frame} {meth : Method} {c : Code} {G : GG} {M : Mm} {x1 : Int32} {r : Int32} {M2 : Mm} (C : CX p s m args c prog_14_method_42_code 3 "SnowSentriesModel" 1 G) (hlk : meth.locks = false) (hr : meth.sig.returnType = (some .int)) : f_X12_quench M x1 = some (r, M2) → Z p l e { frames := 1, cells := 0, slots := 0, locals := 25 } s m args below meth c 1 G 3 (MQ below (QC 1 G (some (.int r)) M2) args s 0 0 (AU 1 G)) 0 [(0, .ref (gB G + 0)), (1, .int x1)] [] M := by
  intro h
  unfold f_X12_quench at h
  refine z_iload_n 1 C d_X12_quench_0 rfl rfl ?_
  refine z_i2l C d_X12_quench_1 ?_
  refine z_lconst (v := (0 : Int64)) C d_X12_quench_2 (by decide) ?_
  refine z_aload_n 0 C d_X12_quench_3 rfl rfl ?_
  refine z_get (k := 0) (v := .ref (gB G + 1)) C (eY_0 _ _) (by decide) rfl inX12 (by decide) wf_X12_7 rfl d_X12_quench_4 ?_
  refine z_sipush (v := (207 : Int32)) C d_X12_quench_7 (by decide) ?_
  refine z_ald (eY_1 _ _) C (by decide) (show inn (207 : Int32) 840 from by decide) d_X12_quench_10 ?_
  refine z_iconst (v := (1 : Int32)) C d_X12_quench_11 (by decide) ?_
  refine z_isub C d_X12_quench_12 ?_
  refine z_i2l C d_X12_quench_13 ?_
  obtain ⟨p2, e1, h⟩ := o_bd h
  refine z_S (S := []) (As := [.long x1.toInt64, .long (0 : Int64), .long (((M.1 1 (207 : Int32).toNatClampNeg) - (1 : Int32)).toInt64)]) C (c_X12_in l G (M := M) e1) wc_X12_in wm_X12_75 ws_X12_in wi_X12 hy_X12_in ⟨Nat.le_of_ble_eq_true rfl, Nat.le_of_ble_eq_true rfl⟩ rfl rfl (Nat.le_of_ble_eq_true rfl) d_X12_quench_14 ?_
  refine z_if_ne C d_X12_quench_17 (fun q3 => ?_) (fun q3 => ?_)
  · have h := o_f q3 h
    refine z_aload_n 0 C d_X12_quench_22 rfl rfl ?_
    refine z_get (k := 0) (v := .ref (gB G + 1)) C (eY_0 _ _) (by decide) rfl inX12 (by decide) wf_X12_7 rfl d_X12_quench_23 ?_
    refine z_sipush (v := (207 : Int32)) C d_X12_quench_26 (by decide) ?_
    refine z_dup2 C d_X12_quench_29 rfl rfl ?_
    refine z_ald (eY_1 _ _) C (by decide) (show inn (207 : Int32) 840 from by decide) d_X12_quench_30 ?_
    refine z_iconst (v := (1 : Int32)) C d_X12_quench_31 (by decide) ?_
    refine z_isub C d_X12_quench_32 ?_
    obtain ⟨M4, e5, h⟩ := o_wr h
    refine z_ast (fun r q => eY_1 r q) C (by decide) (show inn (207 : Int32) 840 from by decide) d_X12_quench_33 ?_
    refine z_nM e5 ?_
    refine z_iconst (v := (4 : Int32)) C d_X12_quench_34 (by decide) ?_
    refine z_iload_n 1 C d_X12_quench_35 rfl rfl ?_
    refine z_imul C d_X12_quench_36 ?_
    obtain ⟨v6, e7, h⟩ := o_nm h
    refine z_nI e7 ?_
    refine z_istore_n (L' := [(2, .int v6), (0, .ref (gB G + 0)), (1, .int x1)]) C d_X12_quench_37 rfl (by decide) rfl ?_
    exact z_sub [1, 0] rfl (k_X12_quench_38 C hlk hr _ _ _ h)
  · have h := o_t q3 h
    refine z_iconst (v := (-1 : Int32)) C d_X12_quench_20 (by decide) ?_
    obtain ⟨rfl, rfl⟩ := o_pair h
    exact z_iret C hlk hr d_X12_quench_21
theorem c_X12_quench (l : Launch) (G : GG) {M : Mm} {x1 : Int32} {r : Int32} {M2 : Mm} (h : f_X12_quench M x1 = some (r, M2)) : CT l 1 G y_X12_quench prog_14_method_42_code 3 (some .int) 1 25 [.ref (gB G + 0), .int x1] M (some (.int r)) M2 :=
  CT.of (by decide +kernel) (Nat.le_of_ble_eq_true rfl) rfl (fun p e s m args below meth c C hlk hr => k_X12_quench_0 C hlk hr h)
-- SnowSentriesModel.mend(III)I
set_option maxRecDepth 4000 in
theorem k_X12_mend_27 {p : Program} {l : Launch} {e : Env} {s : State} {m : MethodId} {args : Array Value} {below : List Frame} {meth : Method} {c : Code} {G : GG} {M : Mm} {r : Int32} {M2 : Mm} (C : CX p s m args c prog_14_method_43_code 5 "SnowSentriesModel" 1 G) (hlk : meth.locks = false) (hr : meth.sig.returnType = (some .int)) : f_X12_mend_27 M = some (r, M2) → Z p l e { frames := 2, cells := 0, slots := 0, locals := 46 } s m args below meth c 1 G 5 (MQ below (QC 1 G (some (.int r)) M2) args s 0 0 (AU 1 G)) 27 [] [] M := by
  intro h
  unfold f_X12_mend_27 at h
  refine z_iconst (v := (-1 : Int32)) C d_X12_mend_27 (by decide) ?_
  obtain ⟨rfl, rfl⟩ := o_pair h
  exact z_iret C hlk hr d_X12_mend_28
set_option maxRecDepth 4000 in
theorem k_X12_mend_0 {p : Program} {l : Launch} {e : Env} {s : State} {m : MethodId} {args : Array Value} {below : List Frame} {meth : Method} {c : Code} {G : GG} {M : Mm} {x1 : Int32} {x2 : Int32} {x3 : Int32} {r : Int32} {M2 : Mm} (C : CX p s m args c prog_14_method_43_code 5 "SnowSentriesModel" 1 G) (hlk : meth.locks = false) (hr : meth.sig.returnType = (some .int)) : f_X12_mend M x1 x2 x3 = some (r, M2) → Z p l e { frames := 2, cells := 0, slots := 0, locals := 46 } s m args below meth c 1 G 5 (MQ below (QC 1 G (some (.int r)) M2) args s 0 0 (AU 1 G)) 0 [(0, .ref (gB G + 0)), (1, .int x1), (2, .int x2), (3, .int x3)] [] M := by
  intro h
  unfold f_X12_mend at h
  refine z_iload_n 1 C d_X12_mend_0 rfl rfl ?_
  obtain ⟨p2, e1, h⟩ := o_bd h
  refine z_S (S := []) (As := [.int x1]) C (c_X12_isSide l G (M := M) e1) wc_X12_isSide wm_X12_210 ws_X12_isSide wi_X12 hy_X12_isSide ⟨Nat.le_of_ble_eq_true rfl, Nat.le_of_ble_eq_true rfl⟩ rfl rfl (Nat.le_of_ble_eq_true rfl) d_X12_mend_1 ?_
  refine z_if_eq C d_X12_mend_4 (fun q3 => ?_) (fun q3 => ?_)
  · have h := o_t q3 h
    exact z_sub [] rfl (k_X12_mend_27 C hlk hr h)
  · have h := o_f q3 h
    refine z_aload_n 0 C d_X12_mend_7 rfl rfl ?_
    refine z_iload_n 2 C d_X12_mend_8 rfl rfl ?_
    obtain ⟨p5, e4, h⟩ := o_bd h
    refine z_V (S := []) (As := [.int x2]) C (c_X12_isFurlong l G e4) (eY_0 _ _) (by decide) rfl wc_X12_isFurlong wm_X12_201 ws_X12_isFurlong wl_X12_isFurlong wi_X12 hy_X12_isFurlong ⟨Nat.le_of_ble_eq_true rfl, Nat.le_of_ble_eq_true rfl⟩ rfl rfl (Nat.le_of_ble_eq_true rfl) d_X12_mend_9 ?_
    refine z_if_eq C d_X12_mend_12 (fun q6 => ?_) (fun q6 => ?_)
    · have h := o_t q6 h
      exact z_sub [] rfl (k_X12_mend_27 C hlk hr h)
    · have h := o_f q6 h
      refine z_iload_n 3 C d_X12_mend_15 rfl rfl ?_
      refine z_i2l C d_X12_mend_16 ?_
      refine z_lconst (v := (0 : Int64)) C d_X12_mend_17 (by decide) ?_
      refine z_ldc2 (v := (99 : Int64)) C wk_X12_223 d_X12_mend_18 ?_
      obtain ⟨p8, e7, h⟩ := o_bd h
      refine z_S (S := []) (As := [.long x3.toInt64, .long (0 : Int64), .long (99 : Int64)]) C (c_X12_in l G (M := M) e7) wc_X12_in wm_X12_75 ws_X12_in wi_X12 hy_X12_in ⟨Nat.le_of_ble_eq_true rfl, Nat.le_of_ble_eq_true rfl⟩ rfl rfl (Nat.le_of_ble_eq_true rfl) d_X12_mend_21 ?_
      refine z_if_ne C d_X12_mend_24 (fun q9 => ?_) (fun q9 => ?_)
      · have h := o_f q9 h
        refine z_aload_n 0 C d_X12_mend_29 rfl rfl ?_
        refine z_iconst (v := (0 : Int32)) C d_X12_mend_30 (by decide) ?_
        refine z_iload_n 1 C d_X12_mend_31 rfl rfl ?_
        refine z_iload_n 2 C d_X12_mend_32 rfl rfl ?_
        obtain ⟨p11, e10, h⟩ := o_bd h
        refine z_V (S := []) (As := [.int (0 : Int32), .int x1, .int x2]) C (c_X12_isThere l G e10) (eY_0 _ _) (by decide) rfl wc_X12_isThere wm_X12_215 ws_X12_isThere wl_X12_isThere wi_X12 hy_X12_isThere ⟨Nat.le_of_ble_eq_true rfl, Nat.le_of_ble_eq_true rfl⟩ rfl rfl (Nat.le_of_ble_eq_true rfl) d_X12_mend_33 ?_
        refine z_if_ne C d_X12_mend_36 (fun q12 => ?_) (fun q12 => ?_)
        · have h := o_f q12 h
          refine z_aload_n 0 C d_X12_mend_42 rfl rfl ?_
          refine z_get (k := 0) (v := .ref (gB G + 1)) C (eY_0 _ _) (by decide) rfl inX12 (by decide) wf_X12_7 rfl d_X12_mend_43 ?_
          refine z_sipush (v := (140 : Int32)) C d_X12_mend_46 (by decide) ?_
          refine z_iload_n 2 C d_X12_mend_49 rfl rfl ?_
          refine z_iadd C d_X12_mend_50 ?_
          obtain ⟨q13, h⟩ := o_ck h
          refine z_ald (eY_1 _ _) C (by decide) q13 d_X12_mend_51 ?_
          refine z_iload_n 3 C d_X12_mend_52 rfl rfl ?_
          refine z_icmp_ge C d_X12_mend_53 (fun q14 => ?_) (fun q14 => ?_)
          · have h := o_t q14 h
            refine z_iload_n 1 C d_X12_mend_59 rfl rfl ?_
            refine z_iload_n 2 C d_X12_mend_60 rfl rfl ?_
            obtain ⟨p16, e15, h⟩ := o_bd h
            refine z_S (S := []) (As := [.int x1, .int x2]) C (c_X12_manAt l G (M := M) e15) wc_X12_manAt wm_X12_198 ws_X12_manAt wi_X12 hy_X12_manAt ⟨Nat.le_of_ble_eq_true rfl, Nat.le_of_ble_eq_true rfl⟩ rfl rfl (Nat.le_of_ble_eq_true rfl) d_X12_mend_61 ?_
            refine z_iconst (v := (4 : Int32)) C d_X12_mend_64 (by decide) ?_
            refine z_iadd C d_X12_mend_65 ?_
            obtain ⟨v17, e18, h⟩ := o_nm h
            refine z_nI e18 ?_
            refine z_istore (L' := [(4, .int v17), (0, .ref (gB G + 0)), (1, .int x1), (2, .int x2), (3, .int x3)]) C d_X12_mend_66 (by decide) rfl ?_
            refine z_aload_n 1 C d_X12_mend_68 rfl rfl ?_
            refine z_get (k := 0) (v := .ref (gB G + 1)) C (eY_0 _ _) (by decide) rfl inX12 (by decide) wf_X12_7 rfl d_X12_mend_69 ?_
            refine z_iload 0 C d_X12_mend_72 rfl ?_
            obtain ⟨q19, h⟩ := o_ck h
            refine z_ald (eY_1 _ _) C (by decide) q19 d_X12_mend_74 ?_
            refine z_iload_n 4 C d_X12_mend_75 rfl rfl ?_
            refine z_iadd C d_X12_mend_76 ?_
            refine z_bipush (v := (99 : Int32)) C d_X12_mend_77 (by decide) ?_
            refine z_icmp_le C d_X12_mend_79 (fun q20 => ?_) (fun q20 => ?_)
            · have h := o_t q20 h
              refine z_aload_n 1 C d_X12_mend_85 rfl rfl ?_
              refine z_get (k := 0) (v := .ref (gB G + 1)) C (eY_0 _ _) (by decide) rfl inX12 (by decide) wf_X12_7 rfl d_X12_mend_86 ?_
              refine z_iload 0 C d_X12_mend_89 rfl ?_
              refine z_dup2 C d_X12_mend_91 rfl rfl ?_
              refine z_ald (eY_1 _ _) C (by decide) q19 d_X12_mend_92 ?_
              refine z_iload_n 4 C d_X12_mend_93 rfl rfl ?_
              refine z_iadd C d_X12_mend_94 ?_
              obtain ⟨M21, e22, h⟩ := o_wr h
              refine z_ast (fun r q => eY_1 r q) C (by decide) q19 d_X12_mend_95 ?_
              refine z_nM e22 ?_
              refine z_aload_n 1 C d_X12_mend_96 rfl rfl ?_
              refine z_get (k := 0) (v := .ref (gB G + 1)) C (eY_0 _ _) (by decide) rfl inX12 (by decide) wf_X12_7 rfl d_X12_mend_97 ?_
              refine z_sipush (v := (140 : Int32)) C d_X12_mend_100 (by decide) ?_
              refine z_iload_n 3 C d_X12_mend_103 rfl rfl ?_
              refine z_iadd C d_X12_mend_104 ?_
              refine z_dup2 C d_X12_mend_105 rfl rfl ?_
              refine z_ald (eY_1 _ _) C (by decide) q13 d_X12_mend_106 ?_
              refine z_iload_n 4 C d_X12_mend_107 rfl rfl ?_
              refine z_isub C d_X12_mend_108 ?_
              obtain ⟨M23, e24, h⟩ := o_wr h
              refine z_ast (fun r q => eY_1 r q) C (by decide) q13 d_X12_mend_109 ?_
              refine z_nM e24 ?_
              refine z_aload_n 1 C d_X12_mend_110 rfl rfl ?_
              refine z_get (k := 0) (v := .ref (gB G + 1)) C (eY_0 _ _) (by decide) rfl inX12 (by decide) wf_X12_7 rfl d_X12_mend_111 ?_
              refine z_iload 0 C d_X12_mend_114 rfl ?_
              refine z_ald (eY_1 _ _) C (by decide) q19 d_X12_mend_116 ?_
              obtain ⟨rfl, rfl⟩ := o_pair h
              exact z_iret C hlk hr d_X12_mend_117
            · have h := o_f q20 h
              refine z_bipush (v := (-3 : Int32)) C d_X12_mend_82 (by decide) ?_
              obtain ⟨rfl, rfl⟩ := o_pair h
              exact z_iret C hlk hr d_X12_mend_84
          · have h := o_f q14 h
            refine z_bipush (v := (-2 : Int32)) C d_X12_mend_56 (by decide) ?_
            obtain ⟨rfl, rfl⟩ := o_pair h
            exact z_iret C hlk hr d_X12_mend_58
        · have h := o_t q12 h
          refine z_bipush (v := (-4 : Int32)) C d_X12_mend_39 (by decide) ?_
          obtain ⟨rfl, rfl⟩ := o_pair h
          exact z_iret C hlk hr d_X12_mend_41
      · have h := o_t q9 h
        exact z_sub [] rfl (k_X12_mend_27 C hlk hr h)
theorem c_X12_mend (l : Launch) (G : GG) {M : Mm} {x1 : Int32} {x2 : Int32} {x3 : Int32} {r : Int32} {M2 : Mm} (h : f_X12_mend M x1 x2 x3 = some (r, M2)) : CT l 1 G y_X12_mend prog_14_method_43_code 5 (some .int) 2 46 [.ref (gB G + 0), .int x1, .int x2, .int x3] M (some (.int r)) M2 :=
  CT.of (by decide +kernel) (Nat.le_of_ble_eq_true rfl) rfl (fun p e s m args below meth c C hlk hr => k_X12_mend_0 C hlk hr h)
-- SnowSentriesModel.carry(III)I
set_option maxRecDepth 4000 in
theorem k_X12_carry_34 {p : Program} {l : Launch} {e : Env} {s : State} {m : MethodId} {args : Array Value} {below : List Frame} {meth : Method} {c : Code} {G : GG} {M : Mm} {r : Int32} {M2 : Mm} (C : CX p s m args c prog_14_method_44_code 4 "SnowSentriesModel" 1 G) (hlk : meth.locks = false) (hr : meth.sig.returnType = (some .int)) : f_X12_carry_34 M = some (r, M2) → Z p l e { frames := 2, cells := 0, slots := 0, locals := 46 } s m args below meth c 1 G 4 (MQ below (QC 1 G (some (.int r)) M2) args s 0 0 (AU 1 G)) 34 [] [] M := by
  intro h
  unfold f_X12_carry_34 at h
  refine z_iconst (v := (-1 : Int32)) C d_X12_carry_34 (by decide) ?_
  obtain ⟨rfl, rfl⟩ := o_pair h
  exact z_iret C hlk hr d_X12_carry_35
set_option maxRecDepth 4000 in
theorem k_X12_carry_30 {p : Program} {l : Launch} {e : Env} {s : State} {m : MethodId} {args : Array Value} {below : List Frame} {meth : Method} {c : Code} {G : GG} {M : Mm} {x1 : Int32} {x2 : Int32} {x3 : Int32} {r : Int32} {M2 : Mm} (C : CX p s m args c prog_14_method_44_code 4 "SnowSentriesModel" 1 G) (hlk : meth.locks = false) (hr : meth.sig.returnType = (some .int)) : f_X12_carry_30 M x1 x2 x3 = some (r, M2) → Z p l e { frames := 2, cells := 0, slots := 0, locals := 46 } s m args below meth c 1 G 4 (MQ below (QC 1 G (some (.int r)) M2) args s 0 0 (AU 1 G)) 30 [(0, .ref (gB G + 0)), (1, .int x1), (2, .int x2), (3, .int x3)] [] M := by
  intro h
  unfold f_X12_carry_30 at h
  refine z_iload_n 3 C d_X12_carry_30 rfl rfl ?_
  refine z_if_ge C d_X12_carry_31 (fun q1 => ?_) (fun q1 => ?_)
  · have h := o_t q1 h
    refine z_aload_n 0 C d_X12_carry_36 rfl rfl ?_
    refine z_get (k := 0) (v := .ref (gB G + 1)) C (eY_0 _ _) (by decide) rfl inX12 (by decide) wf_X12_7 rfl d_X12_carry_37 ?_
    refine z_sipush (v := (140 : Int32)) C d_X12_carry_40 (by decide) ?_
    refine z_iload_n 1 C d_X12_carry_43 rfl rfl ?_
    refine z_iadd C d_X12_carry_44 ?_
    obtain ⟨q2, h⟩ := o_ck h
    refine z_ald (eY_1 _ _) C (by decide) q2 d_X12_carry_45 ?_
    refine z_iload_n 3 C d_X12_carry_46 rfl rfl ?_
    refine z_icmp_ge C d_X12_carry_47 (fun q3 => ?_) (fun q3 => ?_)
    · have h := o_t q3 h
      refine z_aload_n 0 C d_X12_carry_53 rfl rfl ?_
      refine z_get (k := 0) (v := .ref (gB G + 1)) C (eY_0 _ _) (by decide) rfl inX12 (by decide) wf_X12_7 rfl d_X12_carry_54 ?_
      refine z_sipush (v := (140 : Int32)) C d_X12_carry_57 (by decide) ?_
      refine z_iload_n 1 C d_X12_carry_60 rfl rfl ?_
      refine z_iadd C d_X12_carry_61 ?_
      refine z_dup2 C d_X12_carry_62 rfl rfl ?_
      refine z_ald (eY_1 _ _) C (by decide) q2 d_X12_carry_63 ?_
      refine z_iload_n 3 C d_X12_carry_64 rfl rfl ?_
      refine z_isub C d_X12_carry_65 ?_
      obtain ⟨M4, e5, h⟩ := o_wr h
      refine z_ast (fun r q => eY_1 r q) C (by decide) q2 d_X12_carry_66 ?_
      refine z_nM e5 ?_
      refine z_aload_n 0 C d_X12_carry_67 rfl rfl ?_
      refine z_get (k := 0) (v := .ref (gB G + 1)) C (eY_0 _ _) (by decide) rfl inX12 (by decide) wf_X12_7 rfl d_X12_carry_68 ?_
      refine z_sipush (v := (140 : Int32)) C d_X12_carry_71 (by decide) ?_
      refine z_iload_n 2 C d_X12_carry_74 rfl rfl ?_
      refine z_iadd C d_X12_carry_75 ?_
      refine z_dup2 C d_X12_carry_76 rfl rfl ?_
      obtain ⟨q6, h⟩ := o_ck h
      refine z_ald (eY_1 _ _) C (by decide) q6 d_X12_carry_77 ?_
      refine z_iload_n 3 C d_X12_carry_78 rfl rfl ?_
      refine z_iadd C d_X12_carry_79 ?_
      obtain ⟨M7, e8, h⟩ := o_wr h
      refine z_ast (fun r q => eY_1 r q) C (by decide) q6 d_X12_carry_80 ?_
      refine z_nM e8 ?_
      refine z_aload_n 0 C d_X12_carry_81 rfl rfl ?_
      refine z_get (k := 0) (v := .ref (gB G + 1)) C (eY_0 _ _) (by decide) rfl inX12 (by decide) wf_X12_7 rfl d_X12_carry_82 ?_
      refine z_sipush (v := (140 : Int32)) C d_X12_carry_85 (by decide) ?_
      refine z_iload_n 2 C d_X12_carry_88 rfl rfl ?_
      refine z_iadd C d_X12_carry_89 ?_
      refine z_ald (eY_1 _ _) C (by decide) q6 d_X12_carry_90 ?_
      obtain ⟨rfl, rfl⟩ := o_pair h
      exact z_iret C hlk hr d_X12_carry_91
    · have h := o_f q3 h
      refine z_bipush (v := (-2 : Int32)) C d_X12_carry_50 (by decide) ?_
      obtain ⟨rfl, rfl⟩ := o_pair h
      exact z_iret C hlk hr d_X12_carry_52
  · have h := o_f q1 h
    exact z_sub [] rfl (k_X12_carry_34 C hlk hr h)
set_option maxRecDepth 4000 in
theorem k_X12_carry_0 {p : Program} {l : Launch} {e : Env} {s : State} {m : MethodId} {args : Array Value} {below : List Frame} {meth : Method} {c : Code} {G : GG} {M : Mm} {x1 : Int32} {x2 : Int32} {x3 : Int32} {r : Int32} {M2 : Mm} (C : CX p s m args c prog_14_method_44_code 4 "SnowSentriesModel" 1 G) (hlk : meth.locks = false) (hr : meth.sig.returnType = (some .int)) : f_X12_carry M x1 x2 x3 = some (r, M2) → Z p l e { frames := 2, cells := 0, slots := 0, locals := 46 } s m args below meth c 1 G 4 (MQ below (QC 1 G (some (.int r)) M2) args s 0 0 (AU 1 G)) 0 [(0, .ref (gB G + 0)), (1, .int x1), (2, .int x2), (3, .int x3)] [] M := by
  intro h
  unfold f_X12_carry at h
  refine z_aload_n 0 C d_X12_carry_0 rfl rfl ?_
  refine z_iload_n 1 C d_X12_carry_1 rfl rfl ?_
  obtain ⟨p2, e1, h⟩ := o_bd h
  refine z_V (S := []) (As := [.int x1]) C (c_X12_isFurlong l G e1) (eY_0 _ _) (by decide) rfl wc_X12_isFurlong wm_X12_201 ws_X12_isFurlong wl_X12_isFurlong wi_X12 hy_X12_isFurlong ⟨Nat.le_of_ble_eq_true rfl, Nat.le_of_ble_eq_true rfl⟩ rfl rfl (Nat.le_of_ble_eq_true rfl) d_X12_carry_2 ?_
  refine z_if_eq C d_X12_carry_5 (fun q3 => ?_) (fun q3 => ?_)
  · have h := o_t q3 h
    exact z_sub [] rfl (k_X12_carry_34 C hlk hr h)
  · have h := o_f q3 h
    refine z_aload_n 0 C d_X12_carry_8 rfl rfl ?_
    refine z_iload_n 2 C d_X12_carry_9 rfl rfl ?_
    obtain ⟨p5, e4, h⟩ := o_bd h
    refine z_V (S := []) (As := [.int x2]) C (c_X12_isFurlong l G e4) (eY_0 _ _) (by decide) rfl wc_X12_isFurlong wm_X12_201 ws_X12_isFurlong wl_X12_isFurlong wi_X12 hy_X12_isFurlong ⟨Nat.le_of_ble_eq_true rfl, Nat.le_of_ble_eq_true rfl⟩ rfl rfl (Nat.le_of_ble_eq_true rfl) d_X12_carry_10 ?_
    refine z_if_eq C d_X12_carry_13 (fun q6 => ?_) (fun q6 => ?_)
    · have h := o_t q6 h
      exact z_sub [] rfl (k_X12_carry_34 C hlk hr h)
    · have h := o_f q6 h
      refine z_iload_n 1 C d_X12_carry_16 rfl rfl ?_
      refine z_iload_n 2 C d_X12_carry_17 rfl rfl ?_
      refine z_isub C d_X12_carry_18 ?_
      refine z_iconst (v := (1 : Int32)) C d_X12_carry_19 (by decide) ?_
      refine z_icmp_eq C d_X12_carry_20 (fun q7 => ?_) (fun q7 => ?_)
      · have h := o_t q7 h
        exact z_sub [0, 1, 2, 3] rfl (k_X12_carry_30 C hlk hr h)
      · have h := o_f q7 h
        refine z_iload_n 2 C d_X12_carry_23 rfl rfl ?_
        refine z_iload_n 1 C d_X12_carry_24 rfl rfl ?_
        refine z_isub C d_X12_carry_25 ?_
        refine z_iconst (v := (1 : Int32)) C d_X12_carry_26 (by decide) ?_
        refine z_icmp_ne C d_X12_carry_27 (fun q8 => ?_) (fun q8 => ?_)
        · have h := o_f q8 h
          exact z_sub [] rfl (k_X12_carry_34 C hlk hr h)
        · have h := o_t q8 h
          exact z_sub [0, 1, 2, 3] rfl (k_X12_carry_30 C hlk hr h)
theorem c_X12_carry (l : Launch) (G : GG) {M : Mm} {x1 : Int32} {x2 : Int32} {x3 : Int32} {r : Int32} {M2 : Mm} (h : f_X12_carry M x1 x2 x3 = some (r, M2)) : CT l 1 G y_X12_carry prog_14_method_44_code 4 (some .int) 2 46 [.ref (gB G + 0), .int x1, .int x2, .int x3] M (some (.int r)) M2 :=
  CT.of (by decide +kernel) (Nat.le_of_ble_eq_true rfl) rfl (fun p e s m args below meth c C hlk hr => k_X12_carry_0 C hlk hr h)
-- SnowSentriesModel.warms(III)I
set_option maxRecDepth 4000 in
theorem k_X12_warms_31 {p : Program} {l : Launch} {e : Env} {s : State} {m : MethodId} {args : Array Value} {below : List Frame} {meth : Method} {c : Code} {G : GG} {s_0 : Int32} {M : Mm}  {r : Int32} (C : CX p s m args c prog_14_method_45_code 4 "SnowSentriesModel" 1 G) (hlk : meth.locks = false) (hr : meth.sig.returnType = (some .int)) : f_X12_warms_31 s_0 = some r → Z p l e { frames := 0, cells := 0, slots := 0, locals := 0 } s m args below meth c 1 G 4 (MQ below (QC 1 G (some (.int r)) M) args s 0 0 (AU 1 G)) 31 [] [.int s_0] M := by
  intro h
  unfold f_X12_warms_31 at h
  obtain rfl := o_some h
  exact z_iret C hlk hr d_X12_warms_31
set_option maxRecDepth 4000 in
theorem k_X12_warms_14 {p : Program} {l : Launch} {e : Env} {s : State} {m : MethodId} {args : Array Value} {below : List Frame} {meth : Method} {c : Code} {G : GG} {x0 : Int32} {s_0 : Int32} {M : Mm}  {r : Int32} (C : CX p s m args c prog_14_method_45_code 4 "SnowSentriesModel" 1 G) (hlk : meth.locks = false) (hr : meth.sig.returnType = (some .int)) : f_X12_warms_14 x0 s_0 = some r → Z p l e { frames := 0, cells := 0, slots := 0, locals := 0 } s m args below meth c 1 G 4 (MQ below (QC 1 G (some (.int r)) M) args s 0 0 (AU 1 G)) 14 [(0, .int x0)] [.int s_0] M := by
  intro h
  unfold f_X12_warms_14 at h
  refine z_istore_n (L' := [(3, .int s_0), (0, .int x0)]) C d_X12_warms_14 rfl (by decide) rfl ?_
  refine z_iload_n 1 C d_X12_warms_15 rfl rfl ?_
  refine z_iconst (v := (4 : Int32)) C d_X12_warms_16 (by decide) ?_
  refine z_iload_n 0 C d_X12_warms_17 rfl rfl ?_
  refine z_imul C d_X12_warms_18 ?_
  refine z_icmp_le C d_X12_warms_19 (fun q1 => ?_) (fun q1 => ?_)
  · have h := o_t q1 h
    refine z_iconst (v := (0 : Int32)) C d_X12_warms_30 (by decide) ?_
    exact z_sub [] rfl (k_X12_warms_31 C hlk hr h)
  · have h := o_f q1 h
    refine z_iload_n 1 C d_X12_warms_22 rfl rfl ?_
    refine z_iconst (v := (4 : Int32)) C d_X12_warms_23 (by decide) ?_
    refine z_iload_n 0 C d_X12_warms_24 rfl rfl ?_
    refine z_imul C d_X12_warms_25 ?_
    refine z_isub C d_X12_warms_26 ?_
    refine z_goto C d_X12_warms_27 ?_
    exact z_sub [] rfl (k_X12_warms_31 C hlk hr h)
set_option maxRecDepth 4000 in
theorem k_X12_warms_0 {p : Program} {l : Launch} {e : Env} {s : State} {m : MethodId} {args : Array Value} {below : List Frame} {meth : Method} {c : Code} {G : GG} {x0 : Int32} {x1 : Int32} {x2 : Int32} {M : Mm}  {r : Int32} (C : CX p s m args c prog_14_method_45_code 4 "SnowSentriesModel" 1 G) (hlk : meth.locks = false) (hr : meth.sig.returnType = (some .int)) : f_X12_warms x0 x1 x2 = some r → Z p l e { frames := 0, cells := 0, slots := 0, locals := 0 } s m args below meth c 1 G 4 (MQ below (QC 1 G (some (.int r)) M) args s 0 0 (AU 1 G)) 0 [(0, .int x0), (1, .int x1), (2, .int x2)] [] M := by
  intro h
  unfold f_X12_warms at h
  refine z_iload_n 1 C d_X12_warms_0 rfl rfl ?_
  refine z_iload_n 2 C d_X12_warms_1 rfl rfl ?_
  refine z_icmp_ge C d_X12_warms_2 (fun q1 => ?_) (fun q1 => ?_)
  · have h := o_t q1 h
    refine z_iload_n 1 C d_X12_warms_11 rfl rfl ?_
    refine z_iload_n 2 C d_X12_warms_12 rfl rfl ?_
    refine z_isub C d_X12_warms_13 ?_
    exact z_sub [0] rfl (k_X12_warms_14 C hlk hr h)
  · have h := o_f q1 h
    refine z_iload_n 2 C d_X12_warms_5 rfl rfl ?_
    refine z_iload_n 1 C d_X12_warms_6 rfl rfl ?_
    refine z_isub C d_X12_warms_7 ?_
    refine z_goto C d_X12_warms_8 ?_
    exact z_sub [0] rfl (k_X12_warms_14 C hlk hr h)
theorem c_X12_warms (l : Launch) (G : GG) {x0 : Int32} {x1 : Int32} {x2 : Int32} {M : Mm} {r : Int32} (h : f_X12_warms x0 x1 x2 = some r) : CT l 1 G y_X12_warms prog_14_method_45_code 4 (some .int) 0 0 [.int x0, .int x1, .int x2] M (some (.int r)) M :=
  CT.of (by decide +kernel) (Nat.le_of_ble_eq_true rfl) rfl (fun p e s m args below meth c C hlk hr => k_X12_warms_0 C hlk hr h)
-- SnowSentriesModel.fires(II)I
set_option maxRecDepth 4000 in
theorem k_X12_fires_81 {p : Program} {l : Launch} {e : Env} {s : State} {m : MethodId} {args : Array Value} {below : List Frame} {meth : Method} {c : Code} {G : GG} {k5 : Int32 → Int32 → Option Int32} {M : Mm} {x1 : Int32} {x2 : Int32} {x4 : Int32} {s_0 : Int32} {s_1 : Int32} {r : Int32} (C : CX p s m args c prog_14_method_46_code 6 "SnowSentriesModel" 1 G) (hlk : meth.locks = false) (hr : meth.sig.returnType = (some .int)) (hk5 : ∀ (x3 : Int32) (x4 : Int32), k5 x3 x4 = some r → Z p l e { frames := 1, cells := 0, slots := 0, locals := 25 } s m args below meth c 1 G 6 (MQ below (QC 1 G (some (.int r)) M) args s 0 0 (AU 1 G)) 5 [(0, .ref (gB G + 0)), (1, .int x1), (2, .int x2), (3, .int x3), (4, .int x4)] [] M) : f_X12_fires_81 k5 M x1 x2 x4 s_0 s_1 = some r → Z p l e { frames := 1, cells := 0, slots := 0, locals := 25 } s m args below meth c 1 G 6 (MQ below (QC 1 G (some (.int r)) M) args s 0 0 (AU 1 G)) 81 [(0, .ref (gB G + 0)), (1, .int x1), (2, .int x2), (4, .int x4)] [.int s_1, .int s_0] M := by
  intro h
  unfold f_X12_fires_81 at h
  refine z_iadd C d_X12_fires_81 ?_
  obtain ⟨v1, e2, h⟩ := o_nm h
  refine z_nI e2 ?_
  refine z_istore_n (L' := [(3, .int v1), (0, .ref (gB G + 0)), (1, .int x1), (2, .int x2), (4, .int x4)]) C d_X12_fires_82 rfl (by decide) rfl ?_
  refine z_iinc (v := (1 : Int32)) (L' := [(4, .int (x4 + (1 : Int32))), (3, .int v1), (0, .ref (gB G + 0)), (1, .int x1), (2, .int x2)]) 4 C d_X12_fires_83 rfl (by decide) (by decide) rfl ?_
  refine z_goto C d_X12_fires_86 ?_
  exact z_sub [2, 3, 4, 1, 0] rfl (hk5 _ _  h)
set_option maxRecDepth 4000 in
theorem kb_X12_fires_5 {p : Program} {l : Launch} {e : Env} {s : State} {m : MethodId} {args : Array Value} {below : List Frame} {meth : Method} {c : Code} {G : GG} {k5 : Int32 → Int32 → Option Int32} {M : Mm} {x1 : Int32} {x2 : Int32} {x3 : Int32} {x4 : Int32} {r : Int32} (C : CX p s m args c prog_14_method_46_code 6 "SnowSentriesModel" 1 G) (hlk : meth.locks = false) (hr : meth.sig.returnType = (some .int)) (hk5 : ∀ (x3 : Int32) (x4 : Int32), k5 x3 x4 = some r → Z p l e { frames := 1, cells := 0, slots := 0, locals := 25 } s m args below meth c 1 G 6 (MQ below (QC 1 G (some (.int r)) M) args s 0 0 (AU 1 G)) 5 [(0, .ref (gB G + 0)), (1, .int x1), (2, .int x2), (3, .int x3), (4, .int x4)] [] M) : b_X12_fires_5 k5 M x1 x2 x3 x4 = some r → Z p l e { frames := 1, cells := 0, slots := 0, locals := 25 } s m args below meth c 1 G 6 (MQ below (QC 1 G (some (.int r)) M) args s 0 0 (AU 1 G)) 5 [(0, .ref (gB G + 0)), (1, .int x1), (2, .int x2), (3, .int x3), (4, .int x4)] [] M := by
  intro h
  unfold b_X12_fires_5 at h
  refine z_iload 4 C d_X12_fires_5 rfl ?_
  refine z_aload_n 0 C d_X12_fires_7 rfl rfl ?_
  refine z_get (k := 0) (v := .ref (gB G + 1)) C (eY_0 _ _) (by decide) rfl inX12 (by decide) wf_X12_7 rfl d_X12_fires_8 ?_
  refine z_sipush (v := (207 : Int32)) C d_X12_fires_11 (by decide) ?_
  refine z_ald (eY_1 _ _) C (by decide) (show inn (207 : Int32) 840 from by decide) d_X12_fires_14 ?_
  refine z_icmp_ge C d_X12_fires_15 (fun q1 => ?_) (fun q1 => ?_)
  · have h := o_t q1 h
    refine z_iload_n 3 C d_X12_fires_89 rfl rfl ?_
    obtain rfl := o_some h
    exact z_iret C hlk hr d_X12_fires_90
  · have h := o_f q1 h
    refine z_sipush (v := (183 : Int32)) C d_X12_fires_18 (by decide) ?_
    refine z_iconst (v := (4 : Int32)) C d_X12_fires_21 (by decide) ?_
    refine z_iload 4 C d_X12_fires_22 rfl ?_
    refine z_imul C d_X12_fires_24 ?_
    refine z_iadd C d_X12_fires_25 ?_
    obtain ⟨v2, e3, h⟩ := o_nm h
    refine z_nI e3 ?_
    refine z_istore (L' := [(5, .int v2), (0, .ref (gB G + 0)), (1, .int x1), (2, .int x2), (3, .int x3), (4, .int x4)]) C d_X12_fires_26 (by decide) rfl ?_
    refine z_iload_n 4 C d_X12_fires_28 rfl rfl ?_
    refine z_iload_n 3 C d_X12_fires_29 rfl rfl ?_
    refine z_i2l C d_X12_fires_30 ?_
    refine z_aload_n 1 C d_X12_fires_31 rfl rfl ?_
    refine z_get (k := 0) (v := .ref (gB G + 1)) C (eY_0 _ _) (by decide) rfl inX12 (by decide) wf_X12_7 rfl d_X12_fires_32 ?_
    refine z_iload 0 C d_X12_fires_35 rfl ?_
    refine z_iconst (v := (2 : Int32)) C d_X12_fires_37 (by decide) ?_
    refine z_iadd C d_X12_fires_38 ?_
    obtain ⟨q4, h⟩ := o_ck h
    refine z_ald (eY_1 _ _) C (by decide) q4 d_X12_fires_39 ?_
    refine z_i2l C d_X12_fires_40 ?_
    refine z_aload_n 1 C d_X12_fires_41 rfl rfl ?_
    refine z_get (k := 0) (v := .ref (gB G + 1)) C (eY_0 _ _) (by decide) rfl inX12 (by decide) wf_X12_7 rfl d_X12_fires_42 ?_
    refine z_iload 0 C d_X12_fires_45 rfl ?_
    refine z_iconst (v := (3 : Int32)) C d_X12_fires_47 (by decide) ?_
    refine z_iadd C d_X12_fires_48 ?_
    obtain ⟨q5, h⟩ := o_ck h
    refine z_ald (eY_1 _ _) C (by decide) q5 d_X12_fires_49 ?_
    refine z_i2l C d_X12_fires_50 ?_
    obtain ⟨p7, e6, h⟩ := o_bd h
    refine z_S (S := [.int x3]) (As := [.long x2.toInt64, .long ((M.1 1 (v2 + (2 : Int32)).toNatClampNeg).toInt64), .long ((M.1 1 (v2 + (3 : Int32)).toNatClampNeg).toInt64)]) C (c_X12_in l G (M := M) e6) wc_X12_in wm_X12_75 ws_X12_in wi_X12 hy_X12_in ⟨Nat.le_of_ble_eq_true rfl, Nat.le_of_ble_eq_true rfl⟩ rfl rfl (Nat.le_of_ble_eq_true rfl) d_X12_fires_51 ?_
    refine z_if_eq C d_X12_fires_54 (fun q8 => ?_) (fun q8 => ?_)
    · have h := o_t q8 h
      refine z_iconst (v := (0 : Int32)) C d_X12_fires_80 (by decide) ?_
      exact z_sub [1, 2, 3, 5] rfl (k_X12_fires_81 C hlk hr hk5 h)
    · have h := o_f q8 h
      refine z_aload_n 1 C d_X12_fires_57 rfl rfl ?_
      refine z_get (k := 0) (v := .ref (gB G + 1)) C (eY_0 _ _) (by decide) rfl inX12 (by decide) wf_X12_7 rfl d_X12_fires_58 ?_
      refine z_iload 0 C d_X12_fires_61 rfl ?_
      refine z_iconst (v := (1 : Int32)) C d_X12_fires_63 (by decide) ?_
      refine z_iadd C d_X12_fires_64 ?_
      obtain ⟨q9, h⟩ := o_ck h
      refine z_ald (eY_1 _ _) C (by decide) q9 d_X12_fires_65 ?_
      refine z_aload_n 1 C d_X12_fires_66 rfl rfl ?_
      refine z_get (k := 0) (v := .ref (gB G + 1)) C (eY_0 _ _) (by decide) rfl inX12 (by decide) wf_X12_7 rfl d_X12_fires_67 ?_
      refine z_iload 0 C d_X12_fires_70 rfl ?_
      obtain ⟨q10, h⟩ := o_ck h
      refine z_ald (eY_1 _ _) C (by decide) q10 d_X12_fires_72 ?_
      refine z_iload_n 2 C d_X12_fires_73 rfl rfl ?_
      obtain ⟨p12, e11, h⟩ := o_bd h
      refine z_S (S := [.int x3]) (As := [.int (M.1 1 (v2 + (1 : Int32)).toNatClampNeg), .int (M.1 1 v2.toNatClampNeg), .int x1]) C (c_X12_warms l G (M := M) e11) wc_X12_warms wm_X12_229 ws_X12_warms wi_X12 hy_X12_warms ⟨Nat.le_of_ble_eq_true rfl, Nat.le_of_ble_eq_true rfl⟩ rfl rfl (Nat.le_of_ble_eq_true rfl) d_X12_fires_74 ?_
      refine z_goto C d_X12_fires_77 ?_
      exact z_sub [1, 2, 3, 5] rfl (k_X12_fires_81 C hlk hr hk5 h)
theorem k_X12_fires_5 {p : Program} {l : Launch} {e : Env} {s : State} {m : MethodId} {args : Array Value} {below : List Frame} {meth : Method} {c : Code} {G : GG} {M : Mm} {x1 : Int32} {x2 : Int32} {r : Int32} (C : CX p s m args c prog_14_method_46_code 6 "SnowSentriesModel" 1 G) (hlk : meth.locks = false) (hr : meth.sig.returnType = (some .int)) : ∀ (n : Nat) (x3 : Int32) (x4 : Int32), f_X12_fires_5 M x1 x2 n x3 x4 = some r → Z p l e { frames := 1, cells := 0, slots := 0, locals := 25 } s m args below meth c 1 G 6 (MQ below (QC 1 G (some (.int r)) M) args s 0 0 (AU 1 G)) 5 [(0, .ref (gB G + 0)), (1, .int x1), (2, .int x2), (3, .int x3), (4, .int x4)] [] M := by
  intro n
  induction n with
  | zero =>
    intro x3 x4  h
    exact absurd h (fun z => by cases z)
  | succ n ih =>
    intro x3 x4  h
    exact kb_X12_fires_5 C hlk hr  (fun x3 x4 h => ih x3 x4 h) h
set_option maxRecDepth 4000 in
theorem k_X12_fires_0 {p : Program} {l : Launch} {e : Env} {s : State} {m : MethodId} {args : Array Value} {below : List Frame} {meth : Method} {c : Code} {G : GG} {M : Mm} {x1 : Int32} {x2 : Int32} {r : Int32} (C : CX p s m args c prog_14_method_46_code 6 "SnowSentriesModel" 1 G) (hlk : meth.locks = false) (hr : meth.sig.returnType = (some .int)) : f_X12_fires M x1 x2 = some r → Z p l e { frames := 1, cells := 0, slots := 0, locals := 25 } s m args below meth c 1 G 6 (MQ below (QC 1 G (some (.int r)) M) args s 0 0 (AU 1 G)) 0 [(0, .ref (gB G + 0)), (1, .int x1), (2, .int x2)] [] M := by
  intro h
  unfold f_X12_fires at h
  refine z_iconst (v := (0 : Int32)) C d_X12_fires_0 (by decide) ?_
  refine z_istore_n (L' := [(3, .int (0 : Int32)), (0, .ref (gB G + 0)), (1, .int x1), (2, .int x2)]) C d_X12_fires_1 rfl (by decide) rfl ?_
  refine z_iconst (v := (0 : Int32)) C d_X12_fires_2 (by decide) ?_
  refine z_istore (L' := [(4, .int (0 : Int32)), (3, .int (0 : Int32)), (0, .ref (gB G + 0)), (1, .int x1), (2, .int x2)]) C d_X12_fires_3 (by decide) rfl ?_
  exact z_sub [2, 3, 4, 1, 0] rfl (k_X12_fires_5 C hlk hr _ _ _ h)
theorem c_X12_fires (l : Launch) (G : GG) {M : Mm} {x1 : Int32} {x2 : Int32} {r : Int32} (h : f_X12_fires M x1 x2 = some r) : CT l 1 G y_X12_fires prog_14_method_46_code 6 (some .int) 1 25 [.ref (gB G + 0), .int x1, .int x2] M (some (.int r)) M :=
  CT.of (by decide +kernel) (Nat.le_of_ble_eq_true rfl) rfl (fun p e s m args below meth c C hlk hr => k_X12_fires_0 C hlk hr h)
-- SnowSentriesModel.heat(IIZ)I
set_option maxRecDepth 4000 in
theorem k_X12_heat_44 {p : Program} {l : Launch} {e : Env} {s : State} {m : MethodId} {args : Array Value} {below : List Frame} {meth : Method} {c : Code} {G : GG} {M : Mm} {s_0 : Int32} {r : Int32} (C : CX p s m args c prog_14_method_47_code 4 "SnowSentriesModel" 1 G) (hlk : meth.locks = false) (hr : meth.sig.returnType = (some .int)) : f_X12_heat_44 M s_0 = some r → Z p l e { frames := 2, cells := 0, slots := 0, locals := 50 } s m args below meth c 1 G 4 (MQ below (QC 1 G (some (.int r)) M) args s 0 0 (AU 1 G)) 44 [] [.int s_0] M := by
  intro h
  unfold f_X12_heat_44 at h
  obtain rfl := o_some h
  exact z_iret C hlk hr d_X12_heat_44
set_option maxRecDepth 4000 in
theorem k_X12_heat_39 {p : Program} {l : Launch} {e : Env} {s : State} {m : MethodId} {args : Array Value} {below : List Frame} {meth : Method} {c : Code} {G : GG} {M : Mm} {s_0 : Int32} {s_1 : Int32} {r : Int32} (C : CX p s m args c prog_14_method_47_code 4 "SnowSentriesModel" 1 G) (hlk : meth.locks = false) (hr : meth.sig.returnType = (some .int)) : f_X12_heat_39 M s_0 s_1 = some r → Z p l e { frames := 2, cells := 0, slots := 0, locals := 50 } s m args below meth c 1 G 4 (MQ below (QC 1 G (some (.int r)) M) args s 0 0 (AU 1 G)) 39 [] [.int s_1, .int s_0] M := by
  intro h
  unfold f_X12_heat_39 at h
  refine z_iadd C d_X12_heat_39 ?_
  refine z_goto C d_X12_heat_40 ?_
  exact z_sub [] rfl (k_X12_heat_44 C hlk hr h)
set_option maxRecDepth 4000 in
theorem k_X12_heat_43 {p : Program} {l : Launch} {e : Env} {s : State} {m : MethodId} {args : Array Value} {below : List Frame} {meth : Method} {c : Code} {G : GG} {M : Mm} {r : Int32} (C : CX p s m args c prog_14_method_47_code 4 "SnowSentriesModel" 1 G) (hlk : meth.locks = false) (hr : meth.sig.returnType = (some .int)) : f_X12_heat_43 M = some r → Z p l e { frames := 2, cells := 0, slots := 0, locals := 50 } s m args below meth c 1 G 4 (MQ below (QC 1 G (some (.int r)) M) args s 0 0 (AU 1 G)) 43 [] [] M := by
  intro h
  unfold f_X12_heat_43 at h
  refine z_iconst (v := (-1 : Int32)) C d_X12_heat_43 (by decide) ?_
  exact z_sub [] rfl (k_X12_heat_44 C hlk hr h)
set_option maxRecDepth 4000 in
theorem k_X12_heat_0 {p : Program} {l : Launch} {e : Env} {s : State} {m : MethodId} {args : Array Value} {below : List Frame} {meth : Method} {c : Code} {G : GG} {M : Mm} {x1 : Int32} {x2 : Int32} {x3 : Int32} {r : Int32} (C : CX p s m args c prog_14_method_47_code 4 "SnowSentriesModel" 1 G) (hlk : meth.locks = false) (hr : meth.sig.returnType = (some .int)) : f_X12_heat M x1 x2 x3 = some r → Z p l e { frames := 2, cells := 0, slots := 0, locals := 50 } s m args below meth c 1 G 4 (MQ below (QC 1 G (some (.int r)) M) args s 0 0 (AU 1 G)) 0 [(0, .ref (gB G + 0)), (1, .int x1), (2, .int x2), (3, .int x3)] [] M := by
  intro h
  unfold f_X12_heat at h
  refine z_aload_n 0 C d_X12_heat_0 rfl rfl ?_
  refine z_iload_n 1 C d_X12_heat_1 rfl rfl ?_
  obtain ⟨p2, e1, h⟩ := o_bd h
  refine z_V (S := []) (As := [.int x1]) C (c_X12_isFurlong l G e1) (eY_0 _ _) (by decide) rfl wc_X12_isFurlong wm_X12_201 ws_X12_isFurlong wl_X12_isFurlong wi_X12 hy_X12_isFurlong ⟨Nat.le_of_ble_eq_true rfl, Nat.le_of_ble_eq_true rfl⟩ rfl rfl (Nat.le_of_ble_eq_true rfl) d_X12_heat_2 ?_
  refine z_if_eq C d_X12_heat_5 (fun q3 => ?_) (fun q3 => ?_)
  · have h := o_t q3 h
    exact z_sub [] rfl (k_X12_heat_43 C hlk hr h)
  · have h := o_f q3 h
    refine z_iload_n 2 C d_X12_heat_8 rfl rfl ?_
    obtain ⟨p5, e4, h⟩ := o_bd h
    refine z_S (S := []) (As := [.int x2]) C (c_X12_isHour l G (M := M) e4) wc_X12_isHour wm_X12_194 ws_X12_isHour wi_X12 hy_X12_isHour ⟨Nat.le_of_ble_eq_true rfl, Nat.le_of_ble_eq_true rfl⟩ rfl rfl (Nat.le_of_ble_eq_true rfl) d_X12_heat_9 ?_
    refine z_if_eq C d_X12_heat_12 (fun q6 => ?_) (fun q6 => ?_)
    · have h := o_t q6 h
      exact z_sub [] rfl (k_X12_heat_43 C hlk hr h)
    · have h := o_f q6 h
      refine z_aload_n 0 C d_X12_heat_15 rfl rfl ?_
      refine z_iload_n 1 C d_X12_heat_16 rfl rfl ?_
      refine z_iload_n 2 C d_X12_heat_17 rfl rfl ?_
      obtain ⟨p8, e7, h⟩ := o_bd h
      refine z_V (S := []) (As := [.int x1, .int x2]) C (c_X12_fires l G e7) (eY_0 _ _) (by decide) rfl wc_X12_fires wm_X12_233 ws_X12_fires wl_X12_fires wi_X12 hy_X12_fires ⟨Nat.le_of_ble_eq_true rfl, Nat.le_of_ble_eq_true rfl⟩ rfl rfl (Nat.le_of_ble_eq_true rfl) d_X12_heat_18 ?_
      refine z_iload_n 3 C d_X12_heat_21 rfl rfl ?_
      refine z_if_eq C d_X12_heat_22 (fun q9 => ?_) (fun q9 => ?_)
      · have h := o_t q9 h
        refine z_iconst (v := (0 : Int32)) C d_X12_heat_38 (by decide) ?_
        exact z_sub [] rfl (k_X12_heat_39 C hlk hr h)
      · have h := o_f q9 h
        refine z_aload_n 0 C d_X12_heat_25 rfl rfl ?_
        refine z_get (k := 0) (v := .ref (gB G + 1)) C (eY_0 _ _) (by decide) rfl inX12 (by decide) wf_X12_7 rfl d_X12_heat_26 ?_
        refine z_sipush (v := (171 : Int32)) C d_X12_heat_29 (by decide) ?_
        refine z_iload_n 2 C d_X12_heat_32 rfl rfl ?_
        refine z_iadd C d_X12_heat_33 ?_
        obtain ⟨q10, h⟩ := o_ck h
        refine z_ald (eY_1 _ _) C (by decide) q10 d_X12_heat_34 ?_
        refine z_goto C d_X12_heat_35 ?_
        exact z_sub [] rfl (k_X12_heat_39 C hlk hr h)
theorem c_X12_heat (l : Launch) (G : GG) {M : Mm} {x1 : Int32} {x2 : Int32} {x3 : Int32} {r : Int32} (h : f_X12_heat M x1 x2 x3 = some r) : CT l 1 G y_X12_heat prog_14_method_47_code 4 (some .int) 2 50 [.ref (gB G + 0), .int x1, .int x2, .int x3] M (some (.int r)) M :=
  CT.of (by decide +kernel) (Nat.le_of_ble_eq_true rfl) rfl (fun p e s m args below meth c C hlk hr => k_X12_heat_0 C hlk hr h)
-- SnowSentriesModel.melts(III)I
set_option maxRecDepth 4000 in
theorem k_X12_melts_98 {p : Program} {l : Launch} {e : Env} {s : State} {m : MethodId} {args : Array Value} {below : List Frame} {meth : Method} {c : Code} {G : GG} {k64 : Mm → Int32 → Int32 → Int32 → Option (Int32 × Mm)} {M : Mm} {x1 : Int32} {x5 : Int32} {x6 : Int32} {x7 : Int32} {s_0 : Int32} {r : Int32} {M2 : Mm} (C : CX p s m args c prog_14_method_48_code 9 "SnowSentriesModel" 1 G) (hlk : meth.locks = false) (hr : meth.sig.returnType = (some .int)) (hk64 : ∀ (M : Mm) (x5 : Int32) (x6 : Int32) (x7 : Int32), k64 M x5 x6 x7 = some (r, M2) → Z p l e { frames := 0, cells := 0, slots := 0, locals := 0 } s m args below meth c 1 G 9 (MQ below (QC 1 G (some (.int r)) M2) args s 0 0 (AU 1 G)) 64 [(0, .ref (gB G + 0)), (1, .int x1), (5, .int x5), (6, .int x6), (7, .int x7)] [] M) : f_X12_melts_98 k64 M x1 x5 x6 x7 s_0 = some (r, M2) → Z p l e { frames := 0, cells := 0, slots := 0, locals := 0 } s m args below meth c 1 G 9 (MQ below (QC 1 G (some (.int r)) M2) args s 0 0 (AU 1 G)) 98 [(0, .ref (gB G + 0)), (1, .int x1), (5, .int x5), (6, .int x6), (7, .int x7)] [.int s_0] M := by
  intro h
  unfold f_X12_melts_98 at h
  refine z_istore (L' := [(8, .int s_0), (0, .ref (gB G + 0)), (1, .int x1), (5, .int x5), (6, .int x6), (7, .int x7)]) C d_X12_melts_98 (by decide) rfl ?_
  refine z_aload_n 1 C d_X12_melts_100 rfl rfl ?_
  refine z_get (k := 0) (v := .ref (gB G + 1)) C (eY_0 _ _) (by decide) rfl inX12 (by decide) wf_X12_7 rfl d_X12_melts_101 ?_
  refine z_iload_n 2 C d_X12_melts_104 rfl rfl ?_
  refine z_iload 5 C d_X12_melts_105 rfl ?_
  refine z_iadd C d_X12_melts_107 ?_
  refine z_dup2 C d_X12_melts_108 rfl rfl ?_
  obtain ⟨q1, h⟩ := o_ck h
  refine z_ald (eY_1 _ _) C (by decide) q1 d_X12_melts_109 ?_
  refine z_iload 0 C d_X12_melts_110 rfl ?_
  refine z_isub C d_X12_melts_112 ?_
  obtain ⟨M2, e3, h⟩ := o_wr h
  refine z_ast (fun r q => eY_1 r q) C (by decide) q1 d_X12_melts_113 ?_
  refine z_nM e3 ?_
  refine z_iload 3 C d_X12_melts_114 rfl ?_
  refine z_iload 0 C d_X12_melts_116 rfl ?_
  refine z_isub C d_X12_melts_118 ?_
  obtain ⟨v4, e5, h⟩ := o_nm h
  refine z_nI e5 ?_
  refine z_istore (L' := [(5, .int v4), (8, .int s_0), (0, .ref (gB G + 0)), (1, .int x1), (6, .int x6), (7, .int x7)]) C d_X12_melts_119 (by decide) rfl ?_
  refine z_iload 4 C d_X12_melts_121 rfl ?_
  refine z_iload 1 C d_X12_melts_123 rfl ?_
  refine z_iadd C d_X12_melts_125 ?_
  obtain ⟨v6, e7, h⟩ := o_nm h
  refine z_nI e7 ?_
  refine z_istore (L' := [(6, .int v6), (5, .int v4), (8, .int s_0), (0, .ref (gB G + 0)), (1, .int x1), (7, .int x7)]) C d_X12_melts_126 (by decide) rfl ?_
  refine z_iinc (v := (-1 : Int32)) (L' := [(7, .int (x7 + (-1 : Int32))), (6, .int v6), (5, .int v4), (8, .int s_0), (0, .ref (gB G + 0)), (1, .int x1)]) 5 C d_X12_melts_128 rfl (by decide) (by decide) rfl ?_
  refine z_goto C d_X12_melts_131 ?_
  exact z_sub [4, 5, 2, 1, 0] rfl (hk64 _ _ _ _  h)
set_option maxRecDepth 4000 in
theorem kb_X12_melts_64 {p : Program} {l : Launch} {e : Env} {s : State} {m : MethodId} {args : Array Value} {below : List Frame} {meth : Method} {c : Code} {G : GG} {k64 : Mm → Int32 → Int32 → Int32 → Option (Int32 × Mm)} {x1 : Int32} {M : Mm} {x5 : Int32} {x6 : Int32} {x7 : Int32} {r : Int32} {M2 : Mm} (C : CX p s m args c prog_14_method_48_code 9 "SnowSentriesModel" 1 G) (hlk : meth.locks = false) (hr : meth.sig.returnType = (some .int)) (hk64 : ∀ (M : Mm) (x5 : Int32) (x6 : Int32) (x7 : Int32), k64 M x5 x6 x7 = some (r, M2) → Z p l e { frames := 0, cells := 0, slots := 0, locals := 0 } s m args below meth c 1 G 9 (MQ below (QC 1 G (some (.int r)) M2) args s 0 0 (AU 1 G)) 64 [(0, .ref (gB G + 0)), (1, .int x1), (5, .int x5), (6, .int x6), (7, .int x7)] [] M) : b_X12_melts_64 k64 x1 M x5 x6 x7 = some (r, M2) → Z p l e { frames := 0, cells := 0, slots := 0, locals := 0 } s m args below meth c 1 G 9 (MQ below (QC 1 G (some (.int r)) M2) args s 0 0 (AU 1 G)) 64 [(0, .ref (gB G + 0)), (1, .int x1), (5, .int x5), (6, .int x6), (7, .int x7)] [] M := by
  intro h
  unfold b_X12_melts_64 at h
  refine z_iload 4 C d_X12_melts_64 rfl ?_
  refine z_iconst (v := (2 : Int32)) C d_X12_melts_66 (by decide) ?_
  refine z_icmp_lt C d_X12_melts_67 (fun q1 => ?_) (fun q1 => ?_)
  · have h := o_t q1 h
    refine z_iload 3 C d_X12_melts_134 rfl ?_
    obtain ⟨rfl, rfl⟩ := o_pair h
    exact z_iret C hlk hr d_X12_melts_136
  · have h := o_f q1 h
    refine z_aload_n 0 C d_X12_melts_70 rfl rfl ?_
    refine z_get (k := 0) (v := .ref (gB G + 1)) C (eY_0 _ _) (by decide) rfl inX12 (by decide) wf_X12_7 rfl d_X12_melts_71 ?_
    refine z_iload_n 1 C d_X12_melts_74 rfl rfl ?_
    refine z_iload 4 C d_X12_melts_75 rfl ?_
    refine z_iadd C d_X12_melts_77 ?_
    obtain ⟨q2, h⟩ := o_ck h
    refine z_ald (eY_1 _ _) C (by decide) q2 d_X12_melts_78 ?_
    refine z_iload 2 C d_X12_melts_79 rfl ?_
    refine z_icmp_ge C d_X12_melts_81 (fun q3 => ?_) (fun q3 => ?_)
    · have h := o_t q3 h
      refine z_iload 2 C d_X12_melts_96 rfl ?_
      exact z_sub [0, 1, 2, 3, 4] rfl (k_X12_melts_98 C hlk hr hk64 h)
    · have h := o_f q3 h
      refine z_aload_n 0 C d_X12_melts_84 rfl rfl ?_
      refine z_get (k := 0) (v := .ref (gB G + 1)) C (eY_0 _ _) (by decide) rfl inX12 (by decide) wf_X12_7 rfl d_X12_melts_85 ?_
      refine z_iload_n 1 C d_X12_melts_88 rfl rfl ?_
      refine z_iload 4 C d_X12_melts_89 rfl ?_
      refine z_iadd C d_X12_melts_91 ?_
      refine z_ald (eY_1 _ _) C (by decide) q2 d_X12_melts_92 ?_
      refine z_goto C d_X12_melts_93 ?_
      exact z_sub [0, 1, 2, 3, 4] rfl (k_X12_melts_98 C hlk hr hk64 h)
theorem k_X12_melts_64 {p : Program} {l : Launch} {e : Env} {s : State} {m : MethodId} {args : Array Value} {below : List Frame} {meth : Method} {c : Code} {G : GG} {x1 : Int32} {r : Int32} {M2 : Mm} (C : CX p s m args c prog_14_method_48_code 9 "SnowSentriesModel" 1 G) (hlk : meth.locks = false) (hr : meth.sig.returnType = (some .int)) : ∀ (n : Nat) (M : Mm) (x5 : Int32) (x6 : Int32) (x7 : Int32), f_X12_melts_64 x1 n M x5 x6 x7 = some (r, M2) → Z p l e { frames := 0, cells := 0, slots := 0, locals := 0 } s m args below meth c 1 G 9 (MQ below (QC 1 G (some (.int r)) M2) args s 0 0 (AU 1 G)) 64 [(0, .ref (gB G + 0)), (1, .int x1), (5, .int x5), (6, .int x6), (7, .int x7)] [] M := by
  intro n
  induction n with
  | zero =>
    intro M x5 x6 x7  h
    exact absurd h (fun z => by cases z)
  | succ n ih =>
    intro M x5 x6 x7  h
    exact kb_X12_melts_64 C hlk hr  (fun M x5 x6 x7 h => ih M x5 x6 x7 h) h
set_option maxRecDepth 4000 in
theorem k_X12_melts_56 {p : Program} {l : Launch} {e : Env} {s : State} {m : MethodId} {args : Array Value} {below : List Frame} {meth : Method} {c : Code} {G : GG} {M : Mm} {x1 : Int32} {s_0 : Int32} {r : Int32} {M2 : Mm} (C : CX p s m args c prog_14_method_48_code 9 "SnowSentriesModel" 1 G) (hlk : meth.locks = false) (hr : meth.sig.returnType = (some .int)) : f_X12_melts_56 M x1 s_0 = some (r, M2) → Z p l e { frames := 0, cells := 0, slots := 0, locals := 0 } s m args below meth c 1 G 9 (MQ below (QC 1 G (some (.int r)) M2) args s 0 0 (AU 1 G)) 56 [(0, .ref (gB G + 0)), (1, .int x1)] [.int s_0] M := by
  intro h
  unfold f_X12_melts_56 at h
  refine z_istore (L' := [(5, .int s_0), (0, .ref (gB G + 0)), (1, .int x1)]) C d_X12_melts_56 (by decide) rfl ?_
  refine z_iconst (v := (0 : Int32)) C d_X12_melts_58 (by decide) ?_
  refine z_istore (L' := [(6, .int (0 : Int32)), (5, .int s_0), (0, .ref (gB G + 0)), (1, .int x1)]) C d_X12_melts_59 (by decide) rfl ?_
  refine z_iconst (v := (4 : Int32)) C d_X12_melts_61 (by decide) ?_
  refine z_istore (L' := [(7, .int (4 : Int32)), (6, .int (0 : Int32)), (5, .int s_0), (0, .ref (gB G + 0)), (1, .int x1)]) C d_X12_melts_62 (by decide) rfl ?_
  exact z_sub [3, 4, 2, 1, 0] rfl (k_X12_melts_64 C hlk hr _ _ _ _ _ h)
set_option maxRecDepth 4000 in
theorem k_X12_melts_54 {p : Program} {l : Launch} {e : Env} {s : State} {m : MethodId} {args : Array Value} {below : List Frame} {meth : Method} {c : Code} {G : GG} {M : Mm} {x1 : Int32} {x5 : Int32} {r : Int32} {M2 : Mm} (C : CX p s m args c prog_14_method_48_code 9 "SnowSentriesModel" 1 G) (hlk : meth.locks = false) (hr : meth.sig.returnType = (some .int)) : f_X12_melts_54 M x1 x5 = some (r, M2) → Z p l e { frames := 0, cells := 0, slots := 0, locals := 0 } s m args below meth c 1 G 9 (MQ below (QC 1 G (some (.int r)) M2) args s 0 0 (AU 1 G)) 54 [(0, .ref (gB G + 0)), (1, .int x1), (5, .int x5)] [] M := by
  intro h
  unfold f_X12_melts_54 at h
  refine z_iload 2 C d_X12_melts_54 rfl ?_
  exact z_sub [0, 1] rfl (k_X12_melts_56 C hlk hr h)
set_option maxRecDepth 4000 in
theorem k_X12_melts_23 {p : Program} {l : Launch} {e : Env} {s : State} {m : MethodId} {args : Array Value} {below : List Frame} {meth : Method} {c : Code} {G : GG} {M : Mm} {x1 : Int32} {x4 : Int32} {s_0 : Int32} {r : Int32} {M2 : Mm} (C : CX p s m args c prog_14_method_48_code 9 "SnowSentriesModel" 1 G) (hlk : meth.locks = false) (hr : meth.sig.returnType = (some .int)) : f_X12_melts_23 M x1 x4 s_0 = some (r, M2) → Z p l e { frames := 0, cells := 0, slots := 0, locals := 0 } s m args below meth c 1 G 9 (MQ below (QC 1 G (some (.int r)) M2) args s 0 0 (AU 1 G)) 23 [(0, .ref (gB G + 0)), (1, .int x1), (4, .int x4)] [.int s_0] M := by
  intro h
  unfold f_X12_melts_23 at h
  refine z_istore (L' := [(5, .int s_0), (0, .ref (gB G + 0)), (1, .int x1), (4, .int x4)]) C d_X12_melts_23 (by decide) rfl ?_
  refine z_iload 3 C d_X12_melts_25 rfl ?_
  refine z_iconst (v := (1 : Int32)) C d_X12_melts_27 (by decide) ?_
  refine z_icmp_ne C d_X12_melts_28 (fun q1 => ?_) (fun q1 => ?_)
  · have h := o_f q1 h
    refine z_iload 3 C d_X12_melts_38 rfl ?_
    refine z_iconst (v := (3 : Int32)) C d_X12_melts_40 (by decide) ?_
    refine z_icmp_ne C d_X12_melts_41 (fun q2 => ?_) (fun q2 => ?_)
    · have h := o_f q2 h
      exact z_sub [1, 2, 0] rfl (k_X12_melts_54 C hlk hr h)
    · have h := o_t q2 h
      refine z_iload 0 C d_X12_melts_44 rfl ?_
      refine z_iconst (v := (2 : Int32)) C d_X12_melts_46 (by decide) ?_
      refine z_icmp_le C d_X12_melts_47 (fun q3 => ?_) (fun q3 => ?_)
      · have h := o_t q3 h
        exact z_sub [1, 2, 0] rfl (k_X12_melts_54 C hlk hr h)
      · have h := o_f q3 h
        refine z_iconst (v := (2 : Int32)) C d_X12_melts_50 (by decide) ?_
        refine z_goto C d_X12_melts_51 ?_
        exact z_sub [1, 2] rfl (k_X12_melts_56 C hlk hr h)
  · have h := o_t q1 h
    refine z_iload 0 C d_X12_melts_31 rfl ?_
    refine z_iconst (v := (2 : Int32)) C d_X12_melts_33 (by decide) ?_
    refine z_idiv C d_X12_melts_34 (by decide) ?_
    refine z_goto C d_X12_melts_35 ?_
    exact z_sub [1, 2] rfl (k_X12_melts_56 C hlk hr h)
set_option maxRecDepth 4000 in
theorem k_X12_melts_0 {p : Program} {l : Launch} {e : Env} {s : State} {m : MethodId} {args : Array Value} {below : List Frame} {meth : Method} {c : Code} {G : GG} {M : Mm} {x1 : Int32} {x2 : Int32} {x3 : Int32} {r : Int32} {M2 : Mm} (C : CX p s m args c prog_14_method_48_code 9 "SnowSentriesModel" 1 G) (hlk : meth.locks = false) (hr : meth.sig.returnType = (some .int)) : f_X12_melts M x1 x2 x3 = some (r, M2) → Z p l e { frames := 0, cells := 0, slots := 0, locals := 0 } s m args below meth c 1 G 9 (MQ below (QC 1 G (some (.int r)) M2) args s 0 0 (AU 1 G)) 0 [(0, .ref (gB G + 0)), (1, .int x1), (2, .int x2), (3, .int x3)] [] M := by
  intro h
  unfold f_X12_melts at h
  refine z_aload_n 0 C d_X12_melts_0 rfl rfl ?_
  refine z_get (k := 0) (v := .ref (gB G + 1)) C (eY_0 _ _) (by decide) rfl inX12 (by decide) wf_X12_7 rfl d_X12_melts_1 ?_
  refine z_iload_n 1 C d_X12_melts_4 rfl rfl ?_
  refine z_iconst (v := (1 : Int32)) C d_X12_melts_5 (by decide) ?_
  refine z_iadd C d_X12_melts_6 ?_
  obtain ⟨q1, h⟩ := o_ck h
  refine z_ald (eY_1 _ _) C (by decide) q1 d_X12_melts_7 ?_
  obtain ⟨v2, e3, h⟩ := o_nm h
  refine z_nI e3 ?_
  refine z_istore (L' := [(4, .int v2), (0, .ref (gB G + 0)), (1, .int x1), (2, .int x2), (3, .int x3)]) C d_X12_melts_8 (by decide) rfl ?_
  refine z_iload 0 C d_X12_melts_10 rfl ?_
  refine z_iconst (v := (2 : Int32)) C d_X12_melts_12 (by decide) ?_
  refine z_icmp_ne C d_X12_melts_13 (fun q4 => ?_) (fun q4 => ?_)
  · have h := o_f q4 h
    refine z_iload_n 3 C d_X12_melts_20 rfl rfl ?_
    refine z_iload_n 4 C d_X12_melts_21 rfl rfl ?_
    refine z_iadd C d_X12_melts_22 ?_
    exact z_sub [1, 2, 0] rfl (k_X12_melts_23 C hlk hr h)
  · have h := o_t q4 h
    refine z_iload_n 3 C d_X12_melts_16 rfl rfl ?_
    refine z_goto C d_X12_melts_17 ?_
    exact z_sub [1, 2, 0] rfl (k_X12_melts_23 C hlk hr h)
theorem c_X12_melts (l : Launch) (G : GG) {M : Mm} {x1 : Int32} {x2 : Int32} {x3 : Int32} {r : Int32} {M2 : Mm} (h : f_X12_melts M x1 x2 x3 = some (r, M2)) : CT l 1 G y_X12_melts prog_14_method_48_code 9 (some .int) 0 0 [.ref (gB G + 0), .int x1, .int x2, .int x3] M (some (.int r)) M2 :=
  CT.of (by decide +kernel) (Nat.le_of_ble_eq_true rfl) rfl (fun p e s m args below meth c C hlk hr => k_X12_melts_0 C hlk hr h)
-- SnowSentriesModel.melting(IIII)V
set_option maxRecDepth 4000 in
theorem k_X12_melting_237 {p : Program} {l : Launch} {e : Env} {s : State} {m : MethodId} {args : Array Value} {below : List Frame} {meth : Method} {c : Code} {G : GG} {k85 : Mm → Int32 → Option Mm} {M : Mm} {x1 : Int32} {x2 : Int32} {x3 : Int32} {x4 : Int32} {x5 : Int32} {x6 : Int32} {x7 : Int32} {x9 : Int32} {M2 : Mm} (C : CX p s m args c prog_14_method_49_code 13 "SnowSentriesModel" 1 G) (hlk : meth.locks = false) (hr : meth.sig.returnType = none) (hk85 : ∀ (M : Mm) (x9 : Int32), k85 M x9 = some M2 → Z p l e { frames := 2, cells := 0, slots := 0, locals := 50 } s m args below meth c 1 G 13 (MQ below (QC 1 G none M2) args s 0 0 (AU 1 G)) 85 [(0, .ref (gB G + 0)), (1, .int x1), (2, .int x2), (3, .int x3), (4, .int x4), (5, .int x5), (6, .int x6), (7, .int x7), (9, .int x9)] [] M) : f_X12_melting_237 k85 M x1 x2 x3 x4 x5 x6 x7 x9 = some M2 → Z p l e { frames := 2, cells := 0, slots := 0, locals := 50 } s m args below meth c 1 G 13 (MQ below (QC 1 G none M2) args s 0 0 (AU 1 G)) 237 [(0, .ref (gB G + 0)), (1, .int x1), (2, .int x2), (3, .int x3), (4, .int x4), (5, .int x5), (6, .int x6), (7, .int x7), (9, .int x9)] [] M := by
  intro h
  unfold f_X12_melting_237 at h
  refine z_iinc (v := (1 : Int32)) (L' := [(9, .int (x9 + (1 : Int32))), (0, .ref (gB G + 0)), (1, .int x1), (2, .int x2), (3, .int x3), (4, .int x4), (5, .int x5), (6, .int x6), (7, .int x7)]) 8 C d_X12_melting_237 rfl (by decide) (by decide) rfl ?_
  refine z_goto C d_X12_melting_240 ?_
  exact z_sub [1, 2, 3, 4, 5, 6, 7, 8, 0] rfl (hk85 _ _  h)
set_option maxRecDepth 4000 in
theorem kb_X12_melting_213 {p : Program} {l : Launch} {e : Env} {s : State} {m : MethodId} {args : Array Value} {below : List Frame} {meth : Method} {c : Code} {G : GG} {k85 : Mm → Int32 → Option Mm} {k213 : Mm → Int32 → Option Mm} {x1 : Int32} {x2 : Int32} {x3 : Int32} {x4 : Int32} {x5 : Int32} {x6 : Int32} {x7 : Int32} {x9 : Int32} {x10 : Int32} {M : Mm} {x12 : Int32} {M2 : Mm} (C : CX p s m args c prog_14_method_49_code 13 "SnowSentriesModel" 1 G) (hlk : meth.locks = false) (hr : meth.sig.returnType = none) (hk85 : ∀ (M : Mm) (x9 : Int32), k85 M x9 = some M2 → Z p l e { frames := 2, cells := 0, slots := 0, locals := 50 } s m args below meth c 1 G 13 (MQ below (QC 1 G none M2) args s 0 0 (AU 1 G)) 85 [(0, .ref (gB G + 0)), (1, .int x1), (2, .int x2), (3, .int x3), (4, .int x4), (5, .int x5), (6, .int x6), (7, .int x7), (9, .int x9)] [] M) (hk213 : ∀ (M : Mm) (x12 : Int32), k213 M x12 = some M2 → Z p l e { frames := 2, cells := 0, slots := 0, locals := 50 } s m args below meth c 1 G 13 (MQ below (QC 1 G none M2) args s 0 0 (AU 1 G)) 213 [(0, .ref (gB G + 0)), (1, .int x1), (2, .int x2), (3, .int x3), (4, .int x4), (5, .int x5), (6, .int x6), (7, .int x7), (9, .int x9), (10, .int x10), (12, .int x12)] [] M) : b_X12_melting_213 k85 k213 x1 x2 x3 x4 x5 x6 x7 x9 x10 M x12 = some M2 → Z p l e { frames := 2, cells := 0, slots := 0, locals := 50 } s m args below meth c 1 G 13 (MQ below (QC 1 G none M2) args s 0 0 (AU 1 G)) 213 [(0, .ref (gB G + 0)), (1, .int x1), (2, .int x2), (3, .int x3), (4, .int x4), (5, .int x5), (6, .int x6), (7, .int x7), (9, .int x9), (10, .int x10), (12, .int x12)] [] M := by
  intro h
  unfold b_X12_melting_213 at h
  refine z_iload 10 C d_X12_melting_213 rfl ?_
  refine z_bipush (v := (7 : Int32)) C d_X12_melting_215 (by decide) ?_
  refine z_icmp_ge C d_X12_melting_217 (fun q1 => ?_) (fun q1 => ?_)
  · have h := o_t q1 h
    exact z_sub [0, 1, 2, 3, 4, 5, 6, 7, 8] rfl (k_X12_melting_237 C hlk hr hk85 h)
  · have h := o_f q1 h
    refine z_aload_n 0 C d_X12_melting_220 rfl rfl ?_
    refine z_get (k := 0) (v := .ref (gB G + 1)) C (eY_0 _ _) (by decide) rfl inX12 (by decide) wf_X12_7 rfl d_X12_melting_221 ?_
    refine z_iload 9 C d_X12_melting_224 rfl ?_
    refine z_iload 10 C d_X12_melting_226 rfl ?_
    refine z_iadd C d_X12_melting_228 ?_
    refine z_iconst (v := (0 : Int32)) C d_X12_melting_229 (by decide) ?_
    obtain ⟨q4, h⟩ := o_ck h
    obtain ⟨M2, e3, h⟩ := o_wr h
    refine z_ast (fun r q => eY_1 r q) C (by decide) q4 d_X12_melting_230 ?_
    refine z_nM e3 ?_
    refine z_iinc (v := (1 : Int32)) (L' := [(12, .int (x12 + (1 : Int32))), (0, .ref (gB G + 0)), (1, .int x1), (2, .int x2), (3, .int x3), (4, .int x4), (5, .int x5), (6, .int x6), (7, .int x7), (9, .int x9), (10, .int x10)]) 10 C d_X12_melting_231 rfl (by decide) (by decide) rfl ?_
    refine z_goto C d_X12_melting_234 ?_
    exact z_sub [1, 2, 3, 4, 5, 6, 7, 8, 9, 10, 0] rfl (hk213 _ _  h)
theorem k_X12_melting_213 {p : Program} {l : Launch} {e : Env} {s : State} {m : MethodId} {args : Array Value} {below : List Frame} {meth : Method} {c : Code} {G : GG} {k85 : Mm → Int32 → Option Mm} {x1 : Int32} {x2 : Int32} {x3 : Int32} {x4 : Int32} {x5 : Int32} {x6 : Int32} {x7 : Int32} {x9 : Int32} {x10 : Int32} {M2 : Mm} (C : CX p s m args c prog_14_method_49_code 13 "SnowSentriesModel" 1 G) (hlk : meth.locks = false) (hr : meth.sig.returnType = none) (hk85 : ∀ (M : Mm) (x9 : Int32), k85 M x9 = some M2 → Z p l e { frames := 2, cells := 0, slots := 0, locals := 50 } s m args below meth c 1 G 13 (MQ below (QC 1 G none M2) args s 0 0 (AU 1 G)) 85 [(0, .ref (gB G + 0)), (1, .int x1), (2, .int x2), (3, .int x3), (4, .int x4), (5, .int x5), (6, .int x6), (7, .int x7), (9, .int x9)] [] M) : ∀ (n : Nat) (M : Mm) (x12 : Int32), f_X12_melting_213 k85 x1 x2 x3 x4 x5 x6 x7 x9 x10 n M x12 = some M2 → Z p l e { frames := 2, cells := 0, slots := 0, locals := 50 } s m args below meth c 1 G 13 (MQ below (QC 1 G none M2) args s 0 0 (AU 1 G)) 213 [(0, .ref (gB G + 0)), (1, .int x1), (2, .int x2), (3, .int x3), (4, .int x4), (5, .int x5), (6, .int x6), (7, .int x7), (9, .int x9), (10, .int x10), (12, .int x12)] [] M := by
  intro n
  induction n with
  | zero =>
    intro M x12  h
    exact absurd h (fun z => by cases z)
  | succ n ih =>
    intro M x12  h
    exact kb_X12_melting_213 C hlk hr hk85 (fun M x12 h => ih M x12 h) h
set_option maxRecDepth 4000 in
theorem k_X12_melting_129 {p : Program} {l : Launch} {e : Env} {s : State} {m : MethodId} {args : Array Value} {below : List Frame} {meth : Method} {c : Code} {G : GG} {k85 : Mm → Int32 → Option Mm} {M : Mm} {x1 : Int32} {x2 : Int32} {x3 : Int32} {x4 : Int32} {x5 : Int32} {x6 : Int32} {x7 : Int32} {x9 : Int32} {x10 : Int32} {s_0 : Int32} {M2 : Mm} (C : CX p s m args c prog_14_method_49_code 13 "SnowSentriesModel" 1 G) (hlk : meth.locks = false) (hr : meth.sig.returnType = none) (hk85 : ∀ (M : Mm) (x9 : Int32), k85 M x9 = some M2 → Z p l e { frames := 2, cells := 0, slots := 0, locals := 50 } s m args below meth c 1 G 13 (MQ below (QC 1 G none M2) args s 0 0 (AU 1 G)) 85 [(0, .ref (gB G + 0)), (1, .int x1), (2, .int x2), (3, .int x3), (4, .int x4), (5, .int x5), (6, .int x6), (7, .int x7), (9, .int x9)] [] M) : f_X12_melting_129 k85 M x1 x2 x3 x4 x5 x6 x7 x9 x10 s_0 = some M2 → Z p l e { frames := 2, cells := 0, slots := 0, locals := 50 } s m args below meth c 1 G 13 (MQ below (QC 1 G none M2) args s 0 0 (AU 1 G)) 129 [(0, .ref (gB G + 0)), (1, .int x1), (2, .int x2), (3, .int x3), (4, .int x4), (5, .int x5), (6, .int x6), (7, .int x7), (9, .int x9), (10, .int x10)] [.int s_0] M := by
  intro h
  unfold f_X12_melting_129 at h
  refine z_istore (L' := [(11, .int s_0), (0, .ref (gB G + 0)), (1, .int x1), (2, .int x2), (3, .int x3), (4, .int x4), (5, .int x5), (6, .int x6), (7, .int x7), (9, .int x9), (10, .int x10)]) C d_X12_melting_129 (by decide) rfl ?_
  refine z_aload_n 1 C d_X12_melting_131 rfl rfl ?_
  refine z_get (k := 0) (v := .ref (gB G + 1)) C (eY_0 _ _) (by decide) rfl inX12 (by decide) wf_X12_7 rfl d_X12_melting_132 ?_
  refine z_iload 8 C d_X12_melting_135 rfl ?_
  refine z_dup2 C d_X12_melting_137 rfl rfl ?_
  obtain ⟨q1, h⟩ := o_ck h
  refine z_ald (eY_1 _ _) C (by decide) q1 d_X12_melting_138 ?_
  refine z_aload_n 1 C d_X12_melting_139 rfl rfl ?_
  refine z_iload 10 C d_X12_melting_140 rfl ?_
  refine z_iload 6 C d_X12_melting_142 rfl ?_
  refine z_iload 5 C d_X12_melting_144 rfl ?_
  obtain ⟨p3, e2, h⟩ := o_bd h
  refine z_V (S := [.int (M.1 1 x7.toNatClampNeg), .int x7, .ref (gB G + 1)]) (As := [.int x10, .int x5, .int x4]) C (c_X12_melts l G e2) (eY_0 _ _) (by decide) rfl wc_X12_melts wm_X12_236 ws_X12_melts wl_X12_melts wi_X12 hy_X12_melts ⟨Nat.le_of_ble_eq_true rfl, Nat.le_of_ble_eq_true rfl⟩ rfl rfl (Nat.le_of_ble_eq_true rfl) d_X12_melting_146 ?_
  refine z_iadd C d_X12_melting_149 ?_
  obtain ⟨M4, e5, h⟩ := o_wr h
  refine z_ast (fun r q => eY_1 r q) C (by decide) q1 d_X12_melting_150 ?_
  refine z_nM e5 ?_
  refine z_aload_n 1 C d_X12_melting_151 rfl rfl ?_
  refine z_get (k := 0) (v := .ref (gB G + 1)) C (eY_0 _ _) (by decide) rfl inX12 (by decide) wf_X12_7 rfl d_X12_melting_152 ?_
  refine z_iload 10 C d_X12_melting_155 rfl ?_
  refine z_iconst (v := (1 : Int32)) C d_X12_melting_157 (by decide) ?_
  refine z_iadd C d_X12_melting_158 ?_
  obtain ⟨q6, h⟩ := o_ck h
  refine z_ald (eY_1 _ _) C (by decide) q6 d_X12_melting_159 ?_
  refine z_iconst (v := (4 : Int32)) C d_X12_melting_160 (by decide) ?_
  refine z_icmp_ne C d_X12_melting_161 (fun q7 => ?_) (fun q7 => ?_)
  · have h := o_f q7 h
    exact z_sub [1, 2, 3, 4, 5, 6, 7, 8, 9] rfl (k_X12_melting_237 C hlk hr hk85 h)
  · have h := o_t q7 h
    refine z_iload 0 C d_X12_melting_164 rfl ?_
    refine z_if_eq C d_X12_melting_166 (fun q8 => ?_) (fun q8 => ?_)
    · have h := o_t q8 h
      exact z_sub [1, 2, 3, 4, 5, 6, 7, 8, 9] rfl (k_X12_melting_237 C hlk hr hk85 h)
    · have h := o_f q8 h
      refine z_aload_n 1 C d_X12_melting_169 rfl rfl ?_
      refine z_get (k := 0) (v := .ref (gB G + 1)) C (eY_0 _ _) (by decide) rfl inX12 (by decide) wf_X12_7 rfl d_X12_melting_170 ?_
      refine z_iload 10 C d_X12_melting_173 rfl ?_
      refine z_iconst (v := (4 : Int32)) C d_X12_melting_175 (by decide) ?_
      refine z_iadd C d_X12_melting_176 ?_
      obtain ⟨q9, h⟩ := o_ck h
      refine z_ald (eY_1 _ _) C (by decide) q9 d_X12_melting_177 ?_
      refine z_if_ne C d_X12_melting_178 (fun q10 => ?_) (fun q10 => ?_)
      · have h := o_f q10 h
        exact z_sub [1, 2, 3, 4, 5, 6, 7, 8, 9] rfl (k_X12_melting_237 C hlk hr hk85 h)
      · have h := o_t q10 h
        refine z_aload_n 1 C d_X12_melting_181 rfl rfl ?_
        refine z_get (k := 0) (v := .ref (gB G + 1)) C (eY_0 _ _) (by decide) rfl inX12 (by decide) wf_X12_7 rfl d_X12_melting_182 ?_
        refine z_iload 7 C d_X12_melting_185 rfl ?_
        refine z_dup2 C d_X12_melting_187 rfl rfl ?_
        obtain ⟨q11, h⟩ := o_ck h
        refine z_ald (eY_1 _ _) C (by decide) q11 d_X12_melting_188 ?_
        refine z_aload_n 1 C d_X12_melting_189 rfl rfl ?_
        refine z_get (k := 0) (v := .ref (gB G + 1)) C (eY_0 _ _) (by decide) rfl inX12 (by decide) wf_X12_7 rfl d_X12_melting_190 ?_
        refine z_iload 10 C d_X12_melting_193 rfl ?_
        refine z_iconst (v := (2 : Int32)) C d_X12_melting_195 (by decide) ?_
        refine z_iadd C d_X12_melting_196 ?_
        obtain ⟨q12, h⟩ := o_ck h
        refine z_ald (eY_1 _ _) C (by decide) q12 d_X12_melting_197 ?_
        refine z_aload_n 1 C d_X12_melting_198 rfl rfl ?_
        refine z_get (k := 0) (v := .ref (gB G + 1)) C (eY_0 _ _) (by decide) rfl inX12 (by decide) wf_X12_7 rfl d_X12_melting_199 ?_
        refine z_iload 10 C d_X12_melting_202 rfl ?_
        refine z_iconst (v := (3 : Int32)) C d_X12_melting_204 (by decide) ?_
        refine z_iadd C d_X12_melting_205 ?_
        obtain ⟨q13, h⟩ := o_ck h
        refine z_ald (eY_1 _ _) C (by decide) q13 d_X12_melting_206 ?_
        refine z_iadd C d_X12_melting_207 ?_
        refine z_iadd C d_X12_melting_208 ?_
        obtain ⟨M14, e15, h⟩ := o_wr h
        refine z_ast (fun r q => eY_1 r q) C (by decide) q11 d_X12_melting_209 ?_
        refine z_nM e15 ?_
        refine z_iconst (v := (0 : Int32)) C d_X12_melting_210 (by decide) ?_
        refine z_istore (L' := [(12, .int (0 : Int32)), (11, .int s_0), (0, .ref (gB G + 0)), (1, .int x1), (2, .int x2), (3, .int x3), (4, .int x4), (5, .int x5), (6, .int x6), (7, .int x7), (9, .int x9), (10, .int x10)]) C d_X12_melting_211 (by decide) rfl ?_
        exact z_sub [2, 3, 4, 5, 6, 7, 8, 9, 10, 11, 0] rfl (k_X12_melting_213 C hlk hr hk85 _ _ _ h)
set_option maxRecDepth 4000 in
theorem k_X12_melting_394 {p : Program} {l : Launch} {e : Env} {s : State} {m : MethodId} {args : Array Value} {below : List Frame} {meth : Method} {c : Code} {G : GG} {M : Mm} {s_1 : Int32} {s_2 : Int32} {M2 : Mm} (C : CX p s m args c prog_14_method_49_code 13 "SnowSentriesModel" 1 G) (hlk : meth.locks = false) (hr : meth.sig.returnType = none) : f_X12_melting_394 M s_1 s_2 = some M2 → Z p l e { frames := 2, cells := 0, slots := 0, locals := 50 } s m args below meth c 1 G 13 (MQ below (QC 1 G none M2) args s 0 0 (AU 1 G)) 394 [] [.int s_2, .int s_1, .ref (gB G + 1)] M := by
  intro h
  unfold f_X12_melting_394 at h
  obtain ⟨q3, h⟩ := o_ck h
  obtain ⟨M1, e2, h⟩ := o_wr h
  refine z_ast (fun r q => eY_1 r q) C (by decide) q3 d_X12_melting_394 ?_
  refine z_nM e2 ?_
  obtain rfl := o_some h
  exact z_vret C hlk hr d_X12_melting_395
set_option maxRecDepth 4000 in
theorem k_X12_melting_392 {p : Program} {l : Launch} {e : Env} {s : State} {m : MethodId} {args : Array Value} {below : List Frame} {meth : Method} {c : Code} {G : GG} {M : Mm} {x12 : Int32} {s_1 : Int32} {M2 : Mm} (C : CX p s m args c prog_14_method_49_code 13 "SnowSentriesModel" 1 G) (hlk : meth.locks = false) (hr : meth.sig.returnType = none) : f_X12_melting_392 M x12 s_1 = some M2 → Z p l e { frames := 2, cells := 0, slots := 0, locals := 50 } s m args below meth c 1 G 13 (MQ below (QC 1 G none M2) args s 0 0 (AU 1 G)) 392 [(12, .int x12)] [.int s_1, .ref (gB G + 1)] M := by
  intro h
  unfold f_X12_melting_392 at h
  refine z_iload 0 C d_X12_melting_392 rfl ?_
  exact z_sub [] rfl (k_X12_melting_394 C hlk hr h)
set_option maxRecDepth 4000 in
theorem k_X12_melting_368 {p : Program} {l : Launch} {e : Env} {s : State} {m : MethodId} {args : Array Value} {below : List Frame} {meth : Method} {c : Code} {G : GG} {M : Mm} {x10 : Int32} {x11 : Int32} {x12 : Int32} {s_1 : Int32} {M2 : Mm} (C : CX p s m args c prog_14_method_49_code 13 "SnowSentriesModel" 1 G) (hlk : meth.locks = false) (hr : meth.sig.returnType = none) : f_X12_melting_368 M x10 x11 x12 s_1 = some M2 → Z p l e { frames := 2, cells := 0, slots := 0, locals := 50 } s m args below meth c 1 G 13 (MQ below (QC 1 G none M2) args s 0 0 (AU 1 G)) 368 [(10, .int x10), (11, .int x11), (12, .int x12)] [.int s_1, .ref (gB G + 1)] M := by
  intro h
  unfold f_X12_melting_368 at h
  refine z_iload 1 C d_X12_melting_368 rfl ?_
  refine z_if_eq C d_X12_melting_370 (fun q1 => ?_) (fun q1 => ?_)
  · have h := o_t q1 h
    exact z_sub [2] rfl (k_X12_melting_392 C hlk hr h)
  · have h := o_f q1 h
    refine z_iload 0 C d_X12_melting_373 rfl ?_
    refine z_if_ne C d_X12_melting_375 (fun q2 => ?_) (fun q2 => ?_)
    · have h := o_f q2 h
      exact z_sub [2] rfl (k_X12_melting_392 C hlk hr h)
    · have h := o_t q2 h
      refine z_iload 2 C d_X12_melting_378 rfl ?_
      refine z_bipush (v := (-9 : Int32)) C d_X12_melting_380 (by decide) ?_
      refine z_icmp_le C d_X12_melting_382 (fun q3 => ?_) (fun q3 => ?_)
      · have h := o_t q3 h
        exact z_sub [2] rfl (k_X12_melting_392 C hlk hr h)
      · have h := o_f q3 h
        refine z_iload 2 C d_X12_melting_385 rfl ?_
        refine z_iconst (v := (1 : Int32)) C d_X12_melting_387 (by decide) ?_
        refine z_isub C d_X12_melting_388 ?_
        refine z_goto C d_X12_melting_389 ?_
        exact z_sub [] rfl (k_X12_melting_394 C hlk hr h)
set_option maxRecDepth 4000 in
theorem k_X12_melting_275 {p : Program} {l : Launch} {e : Env} {s : State} {m : MethodId} {args : Array Value} {below : List Frame} {meth : Method} {c : Code} {G : GG} {M : Mm} {x1 : Int32} {x2 : Int32} {x6 : Int32} {x7 : Int32} {s_0 : Int32} {M2 : Mm} (C : CX p s m args c prog_14_method_49_code 13 "SnowSentriesModel" 1 G) (hlk : meth.locks = false) (hr : meth.sig.returnType = none) : f_X12_melting_275 M x1 x2 x6 x7 s_0 = some M2 → Z p l e { frames := 2, cells := 0, slots := 0, locals := 50 } s m args below meth c 1 G 13 (MQ below (QC 1 G none M2) args s 0 0 (AU 1 G)) 275 [(0, .ref (gB G + 0)), (1, .int x1), (2, .int x2), (6, .int x6), (7, .int x7)] [.int s_0] M := by
  intro h
  unfold f_X12_melting_275 at h
  refine z_istore (L' := [(9, .int s_0), (0, .ref (gB G + 0)), (1, .int x1), (2, .int x2), (6, .int x6), (7, .int x7)]) C d_X12_melting_275 (by decide) rfl ?_
  refine z_aload_n 1 C d_X12_melting_277 rfl rfl ?_
  refine z_get (k := 0) (v := .ref (gB G + 1)) C (eY_0 _ _) (by decide) rfl inX12 (by decide) wf_X12_7 rfl d_X12_melting_278 ?_
  refine z_iload 5 C d_X12_melting_281 rfl ?_
  refine z_dup2 C d_X12_melting_283 rfl rfl ?_
  obtain ⟨q1, h⟩ := o_ck h
  refine z_ald (eY_1 _ _) C (by decide) q1 d_X12_melting_284 ?_
  refine z_iload 0 C d_X12_melting_285 rfl ?_
  refine z_isub C d_X12_melting_287 ?_
  obtain ⟨M2, e3, h⟩ := o_wr h
  refine z_ast (fun r q => eY_1 r q) C (by decide) q1 d_X12_melting_288 ?_
  refine z_nM e3 ?_
  refine z_aload_n 1 C d_X12_melting_289 rfl rfl ?_
  refine z_get (k := 0) (v := .ref (gB G + 1)) C (eY_0 _ _) (by decide) rfl inX12 (by decide) wf_X12_7 rfl d_X12_melting_290 ?_
  refine z_iload 4 C d_X12_melting_293 rfl ?_
  refine z_dup2 C d_X12_melting_295 rfl rfl ?_
  obtain ⟨q4, h⟩ := o_ck h
  refine z_ald (eY_1 _ _) C (by decide) q4 d_X12_melting_296 ?_
  refine z_iload 0 C d_X12_melting_297 rfl ?_
  refine z_iadd C d_X12_melting_299 ?_
  obtain ⟨M5, e6, h⟩ := o_wr h
  refine z_ast (fun r q => eY_1 r q) C (by decide) q4 d_X12_melting_300 ?_
  refine z_nM e6 ?_
  refine z_aload_n 1 C d_X12_melting_301 rfl rfl ?_
  refine z_iload_n 2 C d_X12_melting_302 rfl rfl ?_
  refine z_iconst (v := (0 : Int32)) C d_X12_melting_303 (by decide) ?_
  refine z_iload_n 3 C d_X12_melting_304 rfl rfl ?_
  obtain ⟨p8, e7, h⟩ := o_bd h
  refine z_V (S := []) (As := [.int x1, .int (0 : Int32), .int x2]) C (c_X12_counts l G e7) (eY_0 _ _) (by decide) rfl wc_X12_counts wm_X12_206 ws_X12_counts wl_X12_counts wi_X12 hy_X12_counts ⟨Nat.le_of_ble_eq_true rfl, Nat.le_of_ble_eq_true rfl⟩ rfl rfl (Nat.le_of_ble_eq_true rfl) d_X12_melting_305 ?_
  refine z_istore (L' := [(10, .int p8), (9, .int s_0), (0, .ref (gB G + 0)), (1, .int x1), (2, .int x2), (6, .int x6), (7, .int x7)]) C d_X12_melting_308 (by decide) rfl ?_
  refine z_aload_n 2 C d_X12_melting_310 rfl rfl ?_
  refine z_iload_n 3 C d_X12_melting_311 rfl rfl ?_
  refine z_iconst (v := (1 : Int32)) C d_X12_melting_312 (by decide) ?_
  refine z_iload_n 4 C d_X12_melting_313 rfl rfl ?_
  obtain ⟨p10, e9, h⟩ := o_bd h
  refine z_V (S := []) (As := [.int x1, .int (1 : Int32), .int x2]) C (c_X12_counts l G e9) (eY_0 _ _) (by decide) rfl wc_X12_counts wm_X12_206 ws_X12_counts wl_X12_counts wi_X12 hy_X12_counts ⟨Nat.le_of_ble_eq_true rfl, Nat.le_of_ble_eq_true rfl⟩ rfl rfl (Nat.le_of_ble_eq_true rfl) d_X12_melting_314 ?_
  refine z_istore (L' := [(11, .int p10), (10, .int p8), (9, .int s_0), (0, .ref (gB G + 0)), (1, .int x1), (2, .int x2), (6, .int x6), (7, .int x7)]) C d_X12_melting_317 (by decide) rfl ?_
  refine z_aload_n 3 C d_X12_melting_319 rfl rfl ?_
  refine z_get (k := 0) (v := .ref (gB G + 1)) C (eY_0 _ _) (by decide) rfl inX12 (by decide) wf_X12_7 rfl d_X12_melting_320 ?_
  refine z_iload_n 4 C d_X12_melting_323 rfl rfl ?_
  refine z_sipush (v := (160 : Int32)) C d_X12_melting_324 (by decide) ?_
  refine z_iadd C d_X12_melting_327 ?_
  refine z_iload_n 5 C d_X12_melting_328 rfl rfl ?_
  refine z_iadd C d_X12_melting_329 ?_
  obtain ⟨q11, h⟩ := o_ck h
  refine z_ald (eY_1 _ _) C (by decide) q11 d_X12_melting_330 ?_
  obtain ⟨v12, e13, h⟩ := o_nm h
  refine z_nI e13 ?_
  refine z_istore (L' := [(12, .int v12), (11, .int p10), (10, .int p8), (9, .int s_0), (0, .ref (gB G + 0)), (1, .int x1), (2, .int x2), (6, .int x6), (7, .int x7)]) C d_X12_melting_331 (by decide) rfl ?_
  refine z_aload_n 4 C d_X12_melting_333 rfl rfl ?_
  refine z_get (k := 0) (v := .ref (gB G + 1)) C (eY_0 _ _) (by decide) rfl inX12 (by decide) wf_X12_7 rfl d_X12_melting_334 ?_
  refine z_iload_n 5 C d_X12_melting_337 rfl rfl ?_
  refine z_sipush (v := (160 : Int32)) C d_X12_melting_338 (by decide) ?_
  refine z_iadd C d_X12_melting_341 ?_
  refine z_iload_n 6 C d_X12_melting_342 rfl rfl ?_
  refine z_iadd C d_X12_melting_343 ?_
  refine z_iload 2 C d_X12_melting_344 rfl ?_
  refine z_if_eq C d_X12_melting_346 (fun q14 => ?_) (fun q14 => ?_)
  · have h := o_t q14 h
    exact z_sub [2, 1, 0] rfl (k_X12_melting_368 C hlk hr h)
  · have h := o_f q14 h
    refine z_iload 1 C d_X12_melting_349 rfl ?_
    refine z_if_ne C d_X12_melting_351 (fun q15 => ?_) (fun q15 => ?_)
    · have h := o_f q15 h
      exact z_sub [2, 1, 0] rfl (k_X12_melting_368 C hlk hr h)
    · have h := o_t q15 h
      refine z_iload 0 C d_X12_melting_354 rfl ?_
      refine z_bipush (v := (9 : Int32)) C d_X12_melting_356 (by decide) ?_
      refine z_icmp_ge C d_X12_melting_358 (fun q16 => ?_) (fun q16 => ?_)
      · have h := o_t q16 h
        exact z_sub [2, 1, 0] rfl (k_X12_melting_368 C hlk hr h)
      · have h := o_f q16 h
        refine z_iload 0 C d_X12_melting_361 rfl ?_
        refine z_iconst (v := (1 : Int32)) C d_X12_melting_363 (by decide) ?_
        refine z_iadd C d_X12_melting_364 ?_
        refine z_goto C d_X12_melting_365 ?_
        exact z_sub [] rfl (k_X12_melting_394 C hlk hr h)
set_option maxRecDepth 4000 in
theorem k_X12_melting_243 {p : Program} {l : Launch} {e : Env} {s : State} {m : MethodId} {args : Array Value} {below : List Frame} {meth : Method} {c : Code} {G : GG} {M : Mm} {x1 : Int32} {x2 : Int32} {x3 : Int32} {x6 : Int32} {x7 : Int32} {M2 : Mm} (C : CX p s m args c prog_14_method_49_code 13 "SnowSentriesModel" 1 G) (hlk : meth.locks = false) (hr : meth.sig.returnType = none) : f_X12_melting_243 M x1 x2 x3 x6 x7 = some M2 → Z p l e { frames := 2, cells := 0, slots := 0, locals := 50 } s m args below meth c 1 G 13 (MQ below (QC 1 G none M2) args s 0 0 (AU 1 G)) 243 [(0, .ref (gB G + 0)), (1, .int x1), (2, .int x2), (3, .int x3), (6, .int x6), (7, .int x7)] [] M := by
  intro h
  unfold f_X12_melting_243 at h
  refine z_aload_n 0 C d_X12_melting_243 rfl rfl ?_
  refine z_get (k := 0) (v := .ref (gB G + 1)) C (eY_0 _ _) (by decide) rfl inX12 (by decide) wf_X12_7 rfl d_X12_melting_244 ?_
  refine z_iload 5 C d_X12_melting_247 rfl ?_
  obtain ⟨q1, h⟩ := o_ck h
  refine z_ald (eY_1 _ _) C (by decide) q1 d_X12_melting_249 ?_
  refine z_aload_n 0 C d_X12_melting_250 rfl rfl ?_
  refine z_get (k := 2) (v := .ref (gB G + 2)) C (eY_0 _ _) (by decide) rfl inX12 (by decide) wf_X12_17 rfl d_X12_melting_251 ?_
  refine z_iload_n 3 C d_X12_melting_254 rfl rfl ?_
  obtain ⟨q2, h⟩ := o_ck h
  refine z_ald (eY_2 _ _) C (by decide) q2 d_X12_melting_255 ?_
  refine z_icmp_ge C d_X12_melting_256 (fun q3 => ?_) (fun q3 => ?_)
  · have h := o_t q3 h
    refine z_aload_n 0 C d_X12_melting_269 rfl rfl ?_
    refine z_get (k := 2) (v := .ref (gB G + 2)) C (eY_0 _ _) (by decide) rfl inX12 (by decide) wf_X12_17 rfl d_X12_melting_270 ?_
    refine z_iload_n 3 C d_X12_melting_273 rfl rfl ?_
    refine z_ald (eY_2 _ _) C (by decide) q2 d_X12_melting_274 ?_
    exact z_sub [0, 1, 2, 4, 5] rfl (k_X12_melting_275 C hlk hr h)
  · have h := o_f q3 h
    refine z_aload_n 0 C d_X12_melting_259 rfl rfl ?_
    refine z_get (k := 0) (v := .ref (gB G + 1)) C (eY_0 _ _) (by decide) rfl inX12 (by decide) wf_X12_7 rfl d_X12_melting_260 ?_
    refine z_iload 5 C d_X12_melting_263 rfl ?_
    refine z_ald (eY_1 _ _) C (by decide) q1 d_X12_melting_265 ?_
    refine z_goto C d_X12_melting_266 ?_
    exact z_sub [0, 1, 2, 4, 5] rfl (k_X12_melting_275 C hlk hr h)
set_option maxRecDepth 4000 in
theorem kb_X12_melting_85 {p : Program} {l : Launch} {e : Env} {s : State} {m : MethodId} {args : Array Value} {below : List Frame} {meth : Method} {c : Code} {G : GG} {k85 : Mm → Int32 → Option Mm} {x1 : Int32} {x2 : Int32} {x3 : Int32} {x4 : Int32} {x5 : Int32} {x6 : Int32} {x7 : Int32} {M : Mm} {x9 : Int32} {M2 : Mm} (C : CX p s m args c prog_14_method_49_code 13 "SnowSentriesModel" 1 G) (hlk : meth.locks = false) (hr : meth.sig.returnType = none) (hk85 : ∀ (M : Mm) (x9 : Int32), k85 M x9 = some M2 → Z p l e { frames := 2, cells := 0, slots := 0, locals := 50 } s m args below meth c 1 G 13 (MQ below (QC 1 G none M2) args s 0 0 (AU 1 G)) 85 [(0, .ref (gB G + 0)), (1, .int x1), (2, .int x2), (3, .int x3), (4, .int x4), (5, .int x5), (6, .int x6), (7, .int x7), (9, .int x9)] [] M) : b_X12_melting_85 k85 x1 x2 x3 x4 x5 x6 x7 M x9 = some M2 → Z p l e { frames := 2, cells := 0, slots := 0, locals := 50 } s m args below meth c 1 G 13 (MQ below (QC 1 G none M2) args s 0 0 (AU 1 G)) 85 [(0, .ref (gB G + 0)), (1, .int x1), (2, .int x2), (3, .int x3), (4, .int x4), (5, .int x5), (6, .int x6), (7, .int x7), (9, .int x9)] [] M := by
  intro h
  unfold b_X12_melting_85 at h
  refine z_iload 8 C d_X12_melting_85 rfl ?_
  refine z_iconst (v := (2 : Int32)) C d_X12_melting_87 (by decide) ?_
  refine z_icmp_ge C d_X12_melting_88 (fun q1 => ?_) (fun q1 => ?_)
  · have h := o_t q1 h
    exact z_sub [0, 1, 2, 3, 6, 7] rfl (k_X12_melting_243 C hlk hr h)
  · have h := o_f q1 h
    refine z_iload_n 1 C d_X12_melting_91 rfl rfl ?_
    refine z_iload 8 C d_X12_melting_92 rfl ?_
    refine z_iload_n 2 C d_X12_melting_94 rfl rfl ?_
    obtain ⟨p3, e2, h⟩ := o_bd h
    refine z_S (S := [.int x1]) (As := [.int x9, .int x2]) C (c_X12_manAt l G (M := M) e2) wc_X12_manAt wm_X12_198 ws_X12_manAt wi_X12 hy_X12_manAt ⟨Nat.le_of_ble_eq_true rfl, Nat.le_of_ble_eq_true rfl⟩ rfl rfl (Nat.le_of_ble_eq_true rfl) d_X12_melting_95 ?_
    refine z_iadd C d_X12_melting_98 ?_
    obtain ⟨v4, e5, h⟩ := o_nm h
    refine z_nI e5 ?_
    refine z_istore (L' := [(10, .int v4), (0, .ref (gB G + 0)), (1, .int x1), (2, .int x2), (3, .int x3), (4, .int x4), (5, .int x5), (6, .int x6), (7, .int x7), (9, .int x9)]) C d_X12_melting_99 (by decide) rfl ?_
    refine z_aload_n 1 C d_X12_melting_101 rfl rfl ?_
    refine z_get (k := 0) (v := .ref (gB G + 1)) C (eY_0 _ _) (by decide) rfl inX12 (by decide) wf_X12_7 rfl d_X12_melting_102 ?_
    refine z_iload 0 C d_X12_melting_105 rfl ?_
    obtain ⟨q6, h⟩ := o_ck h
    refine z_ald (eY_1 _ _) C (by decide) q6 d_X12_melting_107 ?_
    refine z_iconst (v := (1 : Int32)) C d_X12_melting_108 (by decide) ?_
    refine z_icmp_ne C d_X12_melting_109 (fun q7 => ?_) (fun q7 => ?_)
    · have h := o_f q7 h
      exact z_sub [1, 2, 3, 4, 5, 6, 7, 8, 9] rfl (k_X12_melting_237 C hlk hr hk85 h)
    · have h := o_t q7 h
      refine z_aload_n 1 C d_X12_melting_112 rfl rfl ?_
      refine z_get (k := 0) (v := .ref (gB G + 1)) C (eY_0 _ _) (by decide) rfl inX12 (by decide) wf_X12_7 rfl d_X12_melting_113 ?_
      refine z_iload 0 C d_X12_melting_116 rfl ?_
      refine z_iconst (v := (4 : Int32)) C d_X12_melting_118 (by decide) ?_
      refine z_iadd C d_X12_melting_119 ?_
      obtain ⟨q8, h⟩ := o_ck h
      refine z_ald (eY_1 _ _) C (by decide) q8 d_X12_melting_120 ?_
      refine z_if_le C d_X12_melting_121 (fun q9 => ?_) (fun q9 => ?_)
      · have h := o_t q9 h
        refine z_iconst (v := (0 : Int32)) C d_X12_melting_128 (by decide) ?_
        exact z_sub [1, 2, 3, 4, 5, 6, 7, 8, 9, 0] rfl (k_X12_melting_129 C hlk hr hk85 h)
      · have h := o_f q9 h
        refine z_iconst (v := (1 : Int32)) C d_X12_melting_124 (by decide) ?_
        refine z_goto C d_X12_melting_125 ?_
        exact z_sub [1, 2, 3, 4, 5, 6, 7, 8, 9, 0] rfl (k_X12_melting_129 C hlk hr hk85 h)
theorem k_X12_melting_85 {p : Program} {l : Launch} {e : Env} {s : State} {m : MethodId} {args : Array Value} {below : List Frame} {meth : Method} {c : Code} {G : GG} {x1 : Int32} {x2 : Int32} {x3 : Int32} {x4 : Int32} {x5 : Int32} {x6 : Int32} {x7 : Int32} {M2 : Mm} (C : CX p s m args c prog_14_method_49_code 13 "SnowSentriesModel" 1 G) (hlk : meth.locks = false) (hr : meth.sig.returnType = none) : ∀ (n : Nat) (M : Mm) (x9 : Int32), f_X12_melting_85 x1 x2 x3 x4 x5 x6 x7 n M x9 = some M2 → Z p l e { frames := 2, cells := 0, slots := 0, locals := 50 } s m args below meth c 1 G 13 (MQ below (QC 1 G none M2) args s 0 0 (AU 1 G)) 85 [(0, .ref (gB G + 0)), (1, .int x1), (2, .int x2), (3, .int x3), (4, .int x4), (5, .int x5), (6, .int x6), (7, .int x7), (9, .int x9)] [] M := by
  intro n
  induction n with
  | zero =>
    intro M x9  h
    exact absurd h (fun z => by cases z)
  | succ n ih =>
    intro M x9  h
    exact kb_X12_melting_85 C hlk hr  (fun M x9 h => ih M x9 h) h
set_option maxRecDepth 4000 in
theorem k_X12_melting_56 {p : Program} {l : Launch} {e : Env} {s : State} {m : MethodId} {args : Array Value} {below : List Frame} {meth : Method} {c : Code} {G : GG} {M : Mm} {x1 : Int32} {x2 : Int32} {x3 : Int32} {x4 : Int32} {x5 : Int32} {x6 : Int32} {x7 : Int32} {s_0 : Int32} {M2 : Mm} (C : CX p s m args c prog_14_method_49_code 13 "SnowSentriesModel" 1 G) (hlk : meth.locks = false) (hr : meth.sig.returnType = none) : f_X12_melting_56 M x1 x2 x3 x4 x5 x6 x7 s_0 = some M2 → Z p l e { frames := 2, cells := 0, slots := 0, locals := 50 } s m args below meth c 1 G 13 (MQ below (QC 1 G none M2) args s 0 0 (AU 1 G)) 56 [(0, .ref (gB G + 0)), (1, .int x1), (2, .int x2), (3, .int x3), (4, .int x4), (5, .int x5), (6, .int x6), (7, .int x7)] [.int s_0] M := by
  intro h
  unfold f_X12_melting_56 at h
  refine z_istore (L' := [(8, .int s_0), (0, .ref (gB G + 0)), (1, .int x1), (2, .int x2), (3, .int x3), (4, .int x4), (5, .int x5), (6, .int x6), (7, .int x7)]) C d_X12_melting_56 (by decide) rfl ?_
  refine z_aload_n 1 C d_X12_melting_58 rfl rfl ?_
  refine z_get (k := 0) (v := .ref (gB G + 1)) C (eY_0 _ _) (by decide) rfl inX12 (by decide) wf_X12_7 rfl d_X12_melting_59 ?_
  refine z_iload 7 C d_X12_melting_62 rfl ?_
  refine z_dup2 C d_X12_melting_64 rfl rfl ?_
  obtain ⟨q1, h⟩ := o_ck h
  refine z_ald (eY_1 _ _) C (by decide) q1 d_X12_melting_65 ?_
  refine z_iload 0 C d_X12_melting_66 rfl ?_
  refine z_isub C d_X12_melting_68 ?_
  obtain ⟨M2, e3, h⟩ := o_wr h
  refine z_ast (fun r q => eY_1 r q) C (by decide) q1 d_X12_melting_69 ?_
  refine z_nM e3 ?_
  refine z_aload_n 1 C d_X12_melting_70 rfl rfl ?_
  refine z_get (k := 0) (v := .ref (gB G + 1)) C (eY_0 _ _) (by decide) rfl inX12 (by decide) wf_X12_7 rfl d_X12_melting_71 ?_
  refine z_iload 8 C d_X12_melting_74 rfl ?_
  refine z_dup2 C d_X12_melting_76 rfl rfl ?_
  obtain ⟨q4, h⟩ := o_ck h
  refine z_ald (eY_1 _ _) C (by decide) q4 d_X12_melting_77 ?_
  refine z_iload 0 C d_X12_melting_78 rfl ?_
  refine z_iadd C d_X12_melting_80 ?_
  obtain ⟨M5, e6, h⟩ := o_wr h
  refine z_ast (fun r q => eY_1 r q) C (by decide) q4 d_X12_melting_81 ?_
  refine z_nM e6 ?_
  refine z_iconst (v := (0 : Int32)) C d_X12_melting_82 (by decide) ?_
  refine z_istore (L' := [(9, .int (0 : Int32)), (8, .int s_0), (0, .ref (gB G + 0)), (1, .int x1), (2, .int x2), (3, .int x3), (4, .int x4), (5, .int x5), (6, .int x6), (7, .int x7)]) C d_X12_melting_83 (by decide) rfl ?_
  exact z_sub [2, 3, 4, 5, 6, 7, 8, 9, 0] rfl (k_X12_melting_85 C hlk hr _ _ _ h)
set_option maxRecDepth 4000 in
theorem k_X12_melting_0 {p : Program} {l : Launch} {e : Env} {s : State} {m : MethodId} {args : Array Value} {below : List Frame} {meth : Method} {c : Code} {G : GG} {M : Mm} {x1 : Int32} {x2 : Int32} {x3 : Int32} {x4 : Int32} {M2 : Mm} (C : CX p s m args c prog_14_method_49_code 13 "SnowSentriesModel" 1 G) (hlk : meth.locks = false) (hr : meth.sig.returnType = none) : f_X12_melting M x1 x2 x3 x4 = some M2 → Z p l e { frames := 2, cells := 0, slots := 0, locals := 50 } s m args below meth c 1 G 13 (MQ below (QC 1 G none M2) args s 0 0 (AU 1 G)) 0 [(0, .ref (gB G + 0)), (1, .int x1), (2, .int x2), (3, .int x3), (4, .int x4)] [] M := by
  intro h
  unfold f_X12_melting at h
  refine z_aload_n 0 C d_X12_melting_0 rfl rfl ?_
  refine z_iload_n 2 C d_X12_melting_1 rfl rfl ?_
  refine z_iload_n 3 C d_X12_melting_2 rfl rfl ?_
  obtain ⟨p2, e1, h⟩ := o_bd h
  refine z_V (S := []) (As := [.int x2, .int x3]) C (c_X12_fires l G e1) (eY_0 _ _) (by decide) rfl wc_X12_fires wm_X12_233 ws_X12_fires wl_X12_fires wi_X12 hy_X12_fires ⟨Nat.le_of_ble_eq_true rfl, Nat.le_of_ble_eq_true rfl⟩ rfl rfl (Nat.le_of_ble_eq_true rfl) d_X12_melting_3 ?_
  refine z_istore (L' := [(5, .int p2), (0, .ref (gB G + 0)), (1, .int x1), (2, .int x2), (3, .int x3), (4, .int x4)]) C d_X12_melting_6 (by decide) rfl ?_
  refine z_iload_n 2 C d_X12_melting_8 rfl rfl ?_
  refine z_sipush (v := (140 : Int32)) C d_X12_melting_9 (by decide) ?_
  refine z_iadd C d_X12_melting_12 ?_
  refine z_iload_n 3 C d_X12_melting_13 rfl rfl ?_
  refine z_iadd C d_X12_melting_14 ?_
  obtain ⟨v3, e4, h⟩ := o_nm h
  refine z_nI e4 ?_
  refine z_istore (L' := [(6, .int v3), (5, .int p2), (0, .ref (gB G + 0)), (1, .int x1), (2, .int x2), (3, .int x3), (4, .int x4)]) C d_X12_melting_15 (by decide) rfl ?_
  refine z_iload_n 3 C d_X12_melting_17 rfl rfl ?_
  refine z_sipush (v := (150 : Int32)) C d_X12_melting_18 (by decide) ?_
  refine z_iadd C d_X12_melting_21 ?_
  refine z_iload_n 4 C d_X12_melting_22 rfl rfl ?_
  refine z_iadd C d_X12_melting_23 ?_
  obtain ⟨v5, e6, h⟩ := o_nm h
  refine z_nI e6 ?_
  refine z_istore (L' := [(7, .int v5), (6, .int v3), (5, .int p2), (0, .ref (gB G + 0)), (1, .int x1), (2, .int x2), (3, .int x3), (4, .int x4)]) C d_X12_melting_24 (by decide) rfl ?_
  refine z_aload_n 3 C d_X12_melting_26 rfl rfl ?_
  refine z_get (k := 0) (v := .ref (gB G + 1)) C (eY_0 _ _) (by decide) rfl inX12 (by decide) wf_X12_7 rfl d_X12_melting_27 ?_
  refine z_iload 1 C d_X12_melting_30 rfl ?_
  obtain ⟨q7, h⟩ := o_ck h
  refine z_ald (eY_1 _ _) C (by decide) q7 d_X12_melting_32 ?_
  refine z_iload 2 C d_X12_melting_33 rfl ?_
  refine z_iload 7 C d_X12_melting_35 rfl ?_
  refine z_iadd C d_X12_melting_37 ?_
  refine z_icmp_ge C d_X12_melting_38 (fun q8 => ?_) (fun q8 => ?_)
  · have h := o_t q8 h
    refine z_iload 2 C d_X12_melting_51 rfl ?_
    refine z_iload 7 C d_X12_melting_53 rfl ?_
    refine z_iadd C d_X12_melting_55 ?_
    exact z_sub [3, 4, 5, 6, 7, 2, 1, 0] rfl (k_X12_melting_56 C hlk hr h)
  · have h := o_f q8 h
    refine z_aload_n 3 C d_X12_melting_41 rfl rfl ?_
    refine z_get (k := 0) (v := .ref (gB G + 1)) C (eY_0 _ _) (by decide) rfl inX12 (by decide) wf_X12_7 rfl d_X12_melting_42 ?_
    refine z_iload 1 C d_X12_melting_45 rfl ?_
    refine z_ald (eY_1 _ _) C (by decide) q7 d_X12_melting_47 ?_
    refine z_goto C d_X12_melting_48 ?_
    exact z_sub [3, 4, 5, 6, 7, 2, 1, 0] rfl (k_X12_melting_56 C hlk hr h)
theorem c_X12_melting (l : Launch) (G : GG) {M : Mm} {x1 : Int32} {x2 : Int32} {x3 : Int32} {x4 : Int32} {M2 : Mm} (h : f_X12_melting M x1 x2 x3 x4 = some M2) : CT l 1 G y_X12_melting prog_14_method_49_code 13 none 2 50 [.ref (gB G + 0), .int x1, .int x2, .int x3, .int x4] M none M2 :=
  CT.of (by decide +kernel) (Nat.le_of_ble_eq_true rfl) rfl (fun p e s m args below meth c C hlk hr => k_X12_melting_0 C hlk hr h)
-- SnowSentriesModel.goes(I)V
set_option maxRecDepth 4000 in
theorem k_X12_goes_44 {p : Program} {l : Launch} {e : Env} {s : State} {m : MethodId} {args : Array Value} {below : List Frame} {meth : Method} {c : Code} {G : GG} {M : Mm} {x1 : Int32} {M2 : Mm} (C : CX p s m args c prog_14_method_50_code 4 "SnowSentriesModel" 1 G) (hlk : meth.locks = false) (hr : meth.sig.returnType = none) : f_X12_goes_44 M x1 = some M2 → Z p l e { frames := 3, cells := 0, slots := 0, locals := 82 } s m args below meth c 1 G 4 (MQ below (QC 1 G none M2) args s 0 0 (AU 1 G)) 44 [(0, .ref (gB G + 0)), (1, .int x1)] [] M := by
  intro h
  unfold f_X12_goes_44 at h
  refine z_aload_n 0 C d_X12_goes_44 rfl rfl ?_
  refine z_get (k := 0) (v := .ref (gB G + 1)) C (eY_0 _ _) (by decide) rfl inX12 (by decide) wf_X12_7 rfl d_X12_goes_45 ?_
  refine z_iload_n 1 C d_X12_goes_48 rfl rfl ?_
  refine z_sipush (v := (170 : Int32)) C d_X12_goes_49 (by decide) ?_
  refine z_iadd C d_X12_goes_52 ?_
  refine z_dup2 C d_X12_goes_53 rfl rfl ?_
  obtain ⟨q1, h⟩ := o_ck h
  refine z_ald (eY_1 _ _) C (by decide) q1 d_X12_goes_54 ?_
  refine z_iconst (v := (1 : Int32)) C d_X12_goes_55 (by decide) ?_
  refine z_iadd C d_X12_goes_56 ?_
  obtain ⟨M2, e3, h⟩ := o_wr h
  refine z_ast (fun r q => eY_1 r q) C (by decide) q1 d_X12_goes_57 ?_
  refine z_nM e3 ?_
  obtain rfl := o_some h
  exact z_vret C hlk hr d_X12_goes_58
set_option maxRecDepth 4000 in
theorem kb_X12_goes_13 {p : Program} {l : Launch} {e : Env} {s : State} {m : MethodId} {args : Array Value} {below : List Frame} {meth : Method} {c : Code} {G : GG} {k13 : Mm → Int32 → Option Mm} {x1 : Int32} {x2 : Int32} {M : Mm} {x3 : Int32} {M2 : Mm} (C : CX p s m args c prog_14_method_50_code 4 "SnowSentriesModel" 1 G) (hlk : meth.locks = false) (hr : meth.sig.returnType = none) (hk13 : ∀ (M : Mm) (x3 : Int32), k13 M x3 = some M2 → Z p l e { frames := 3, cells := 0, slots := 0, locals := 82 } s m args below meth c 1 G 4 (MQ below (QC 1 G none M2) args s 0 0 (AU 1 G)) 13 [(0, .ref (gB G + 0)), (1, .int x1), (2, .int x2), (3, .int x3)] [] M) : b_X12_goes_13 k13 x1 x2 M x3 = some M2 → Z p l e { frames := 3, cells := 0, slots := 0, locals := 82 } s m args below meth c 1 G 4 (MQ below (QC 1 G none M2) args s 0 0 (AU 1 G)) 13 [(0, .ref (gB G + 0)), (1, .int x1), (2, .int x2), (3, .int x3)] [] M := by
  intro h
  unfold b_X12_goes_13 at h
  refine z_iload_n 3 C d_X12_goes_13 rfl rfl ?_
  refine z_aload_n 0 C d_X12_goes_14 rfl rfl ?_
  refine z_get (k := 1) (v := .int (M.1 0 1)) C (eY_0 _ _) (by decide) rfl inX12 (by decide) wf_X12_13 rfl d_X12_goes_15 ?_
  refine z_icmp_ge C d_X12_goes_18 (fun q1 => ?_) (fun q1 => ?_)
  · have h := o_t q1 h
    exact z_sub [0, 1] rfl (k_X12_goes_44 C hlk hr h)
  · have h := o_f q1 h
    refine z_aload_n 0 C d_X12_goes_21 rfl rfl ?_
    refine z_iload_n 1 C d_X12_goes_22 rfl rfl ?_
    refine z_iload_n 3 C d_X12_goes_23 rfl rfl ?_
    refine z_iload_n 2 C d_X12_goes_24 rfl rfl ?_
    refine z_aload_n 0 C d_X12_goes_25 rfl rfl ?_
    refine z_get (k := 0) (v := .ref (gB G + 1)) C (eY_0 _ _) (by decide) rfl inX12 (by decide) wf_X12_7 rfl d_X12_goes_26 ?_
    refine z_sipush (v := (171 : Int32)) C d_X12_goes_29 (by decide) ?_
    refine z_iload_n 2 C d_X12_goes_32 rfl rfl ?_
    refine z_iadd C d_X12_goes_33 ?_
    obtain ⟨q2, h⟩ := o_ck h
    refine z_ald (eY_1 _ _) C (by decide) q2 d_X12_goes_34 ?_
    obtain ⟨p4, e3, h⟩ := o_bd h
    refine z_V (S := []) (As := [.int x1, .int x3, .int x2, .int (M.1 1 ((171 : Int32) + x2).toNatClampNeg)]) C (c_X12_melting l G e3) (eY_0 _ _) (by decide) rfl wc_X12_melting wm_X12_239 ws_X12_melting wl_X12_melting wi_X12 hy_X12_melting ⟨Nat.le_of_ble_eq_true rfl, Nat.le_of_ble_eq_true rfl⟩ rfl rfl (Nat.le_of_ble_eq_true rfl) d_X12_goes_35 ?_
    refine z_iinc (v := (1 : Int32)) (L' := [(3, .int (x3 + (1 : Int32))), (0, .ref (gB G + 0)), (1, .int x1), (2, .int x2)]) 3 C d_X12_goes_38 rfl (by decide) (by decide) rfl ?_
    refine z_goto C d_X12_goes_41 ?_
    exact z_sub [1, 2, 3, 0] rfl (hk13 _ _  h)
theorem k_X12_goes_13 {p : Program} {l : Launch} {e : Env} {s : State} {m : MethodId} {args : Array Value} {below : List Frame} {meth : Method} {c : Code} {G : GG} {x1 : Int32} {x2 : Int32} {M2 : Mm} (C : CX p s m args c prog_14_method_50_code 4 "SnowSentriesModel" 1 G) (hlk : meth.locks = false) (hr : meth.sig.returnType = none) : ∀ (n : Nat) (M : Mm) (x3 : Int32), f_X12_goes_13 x1 x2 n M x3 = some M2 → Z p l e { frames := 3, cells := 0, slots := 0, locals := 82 } s m args below meth c 1 G 4 (MQ below (QC 1 G none M2) args s 0 0 (AU 1 G)) 13 [(0, .ref (gB G + 0)), (1, .int x1), (2, .int x2), (3, .int x3)] [] M := by
  intro n
  induction n with
  | zero =>
    intro M x3  h
    exact absurd h (fun z => by cases z)
  | succ n ih =>
    intro M x3  h
    exact kb_X12_goes_13 C hlk hr  (fun M x3 h => ih M x3 h) h
set_option maxRecDepth 4000 in
theorem k_X12_goes_0 {p : Program} {l : Launch} {e : Env} {s : State} {m : MethodId} {args : Array Value} {below : List Frame} {meth : Method} {c : Code} {G : GG} {M : Mm} {x1 : Int32} {M2 : Mm} (C : CX p s m args c prog_14_method_50_code 4 "SnowSentriesModel" 1 G) (hlk : meth.locks = false) (hr : meth.sig.returnType = none) : f_X12_goes M x1 = some M2 → Z p l e { frames := 3, cells := 0, slots := 0, locals := 82 } s m args below meth c 1 G 4 (MQ below (QC 1 G none M2) args s 0 0 (AU 1 G)) 0 [(0, .ref (gB G + 0)), (1, .int x1)] [] M := by
  intro h
  unfold f_X12_goes at h
  refine z_aload_n 0 C d_X12_goes_0 rfl rfl ?_
  refine z_get (k := 0) (v := .ref (gB G + 1)) C (eY_0 _ _) (by decide) rfl inX12 (by decide) wf_X12_7 rfl d_X12_goes_1 ?_
  refine z_iload_n 1 C d_X12_goes_4 rfl rfl ?_
  refine z_sipush (v := (170 : Int32)) C d_X12_goes_5 (by decide) ?_
  refine z_iadd C d_X12_goes_8 ?_
  obtain ⟨q1, h⟩ := o_ck h
  refine z_ald (eY_1 _ _) C (by decide) q1 d_X12_goes_9 ?_
  obtain ⟨v2, e3, h⟩ := o_nm h
  refine z_nI e3 ?_
  refine z_istore_n (L' := [(2, .int v2), (0, .ref (gB G + 0)), (1, .int x1)]) C d_X12_goes_10 rfl (by decide) rfl ?_
  refine z_iconst (v := (0 : Int32)) C d_X12_goes_11 (by decide) ?_
  refine z_istore_n (L' := [(3, .int (0 : Int32)), (2, .int v2), (0, .ref (gB G + 0)), (1, .int x1)]) C d_X12_goes_12 rfl (by decide) rfl ?_
  exact z_sub [2, 3, 1, 0] rfl (k_X12_goes_13 C hlk hr _ _ _ h)
theorem c_X12_goes (l : Launch) (G : GG) {M : Mm} {x1 : Int32} {M2 : Mm} (h : f_X12_goes M x1 = some M2) : CT l 1 G y_X12_goes prog_14_method_50_code 4 none 3 82 [.ref (gB G + 0), .int x1] M none M2 :=
  CT.of (by decide +kernel) (Nat.le_of_ble_eq_true rfl) rfl (fun p e s m args below meth c C hlk hr => k_X12_goes_0 C hlk hr h)
-- SnowSentriesModel.go(I)I
set_option maxRecDepth 4000 in
theorem k_X12_go_46 {p : Program} {l : Launch} {e : Env} {s : State} {m : MethodId} {args : Array Value} {below : List Frame} {meth : Method} {c : Code} {G : GG} {M : Mm} {r : Int32} {M2 : Mm} (C : CX p s m args c prog_14_method_51_code 3 "SnowSentriesModel" 1 G) (hlk : meth.locks = false) (hr : meth.sig.returnType = (some .int)) : f_X12_go_46 M = some (r, M2) → Z p l e { frames := 4, cells := 0, slots := 0, locals := 105 } s m args below meth c 1 G 3 (MQ below (QC 1 G (some (.int r)) M2) args s 0 0 (AU 1 G)) 46 [(0, .ref (gB G + 0))] [] M := by
  intro h
  unfold f_X12_go_46 at h
  refine z_aload_n 0 C d_X12_go_46 rfl rfl ?_
  obtain ⟨p2, e1, h⟩ := o_bd h
  refine z_V (S := []) (As := []) C (c_X12_hourNow l G e1) (eY_0 _ _) (by decide) rfl wc_X12_hourNow wm_X12_185 ws_X12_hourNow wl_X12_hourNow wi_X12 hy_X12_hourNow ⟨Nat.le_of_ble_eq_true rfl, Nat.le_of_ble_eq_true rfl⟩ rfl rfl (Nat.le_of_ble_eq_true rfl) d_X12_go_47 ?_
  obtain ⟨rfl, rfl⟩ := o_pair h
  exact z_iret C hlk hr d_X12_go_50
set_option maxRecDepth 4000 in
theorem kb_X12_go_30 {p : Program} {l : Launch} {e : Env} {s : State} {m : MethodId} {args : Array Value} {below : List Frame} {meth : Method} {c : Code} {G : GG} {k30 : Mm → Int32 → Option (Int32 × Mm)} {x1 : Int32} {M : Mm} {x2 : Int32} {r : Int32} {M2 : Mm} (C : CX p s m args c prog_14_method_51_code 3 "SnowSentriesModel" 1 G) (hlk : meth.locks = false) (hr : meth.sig.returnType = (some .int)) (hk30 : ∀ (M : Mm) (x2 : Int32), k30 M x2 = some (r, M2) → Z p l e { frames := 4, cells := 0, slots := 0, locals := 105 } s m args below meth c 1 G 3 (MQ below (QC 1 G (some (.int r)) M2) args s 0 0 (AU 1 G)) 30 [(0, .ref (gB G + 0)), (1, .int x1), (2, .int x2)] [] M) : b_X12_go_30 k30 x1 M x2 = some (r, M2) → Z p l e { frames := 4, cells := 0, slots := 0, locals := 105 } s m args below meth c 1 G 3 (MQ below (QC 1 G (some (.int r)) M2) args s 0 0 (AU 1 G)) 30 [(0, .ref (gB G + 0)), (1, .int x1), (2, .int x2)] [] M := by
  intro h
  unfold b_X12_go_30 at h
  refine z_iload_n 2 C d_X12_go_30 rfl rfl ?_
  refine z_iload_n 1 C d_X12_go_31 rfl rfl ?_
  refine z_icmp_ge C d_X12_go_32 (fun q1 => ?_) (fun q1 => ?_)
  · have h := o_t q1 h
    exact z_sub [0] rfl (k_X12_go_46 C hlk hr h)
  · have h := o_f q1 h
    refine z_aload_n 0 C d_X12_go_35 rfl rfl ?_
    refine z_iconst (v := (0 : Int32)) C d_X12_go_36 (by decide) ?_
    obtain ⟨p3, e2, h⟩ := o_bd h
    refine z_V (S := []) (As := [.int (0 : Int32)]) C (c_X12_goes l G e2) (eY_0 _ _) (by decide) rfl wc_X12_goes wm_X12_245 ws_X12_goes wl_X12_goes wi_X12 hy_X12_goes ⟨Nat.le_of_ble_eq_true rfl, Nat.le_of_ble_eq_true rfl⟩ rfl rfl (Nat.le_of_ble_eq_true rfl) d_X12_go_37 ?_
    refine z_iinc (v := (1 : Int32)) (L' := [(2, .int (x2 + (1 : Int32))), (0, .ref (gB G + 0)), (1, .int x1)]) 2 C d_X12_go_40 rfl (by decide) (by decide) rfl ?_
    refine z_goto C d_X12_go_43 ?_
    exact z_sub [1, 2, 0] rfl (hk30 _ _  h)
theorem k_X12_go_30 {p : Program} {l : Launch} {e : Env} {s : State} {m : MethodId} {args : Array Value} {below : List Frame} {meth : Method} {c : Code} {G : GG} {x1 : Int32} {r : Int32} {M2 : Mm} (C : CX p s m args c prog_14_method_51_code 3 "SnowSentriesModel" 1 G) (hlk : meth.locks = false) (hr : meth.sig.returnType = (some .int)) : ∀ (n : Nat) (M : Mm) (x2 : Int32), f_X12_go_30 x1 n M x2 = some (r, M2) → Z p l e { frames := 4, cells := 0, slots := 0, locals := 105 } s m args below meth c 1 G 3 (MQ below (QC 1 G (some (.int r)) M2) args s 0 0 (AU 1 G)) 30 [(0, .ref (gB G + 0)), (1, .int x1), (2, .int x2)] [] M := by
  intro n
  induction n with
  | zero =>
    intro M x2  h
    exact absurd h (fun z => by cases z)
  | succ n ih =>
    intro M x2  h
    exact kb_X12_go_30 C hlk hr  (fun M x2 h => ih M x2 h) h
set_option maxRecDepth 4000 in
theorem k_X12_go_0 {p : Program} {l : Launch} {e : Env} {s : State} {m : MethodId} {args : Array Value} {below : List Frame} {meth : Method} {c : Code} {G : GG} {M : Mm} {x1 : Int32} {r : Int32} {M2 : Mm} (C : CX p s m args c prog_14_method_51_code 3 "SnowSentriesModel" 1 G) (hlk : meth.locks = false) (hr : meth.sig.returnType = (some .int)) : f_X12_go M x1 = some (r, M2) → Z p l e { frames := 4, cells := 0, slots := 0, locals := 105 } s m args below meth c 1 G 3 (MQ below (QC 1 G (some (.int r)) M2) args s 0 0 (AU 1 G)) 0 [(0, .ref (gB G + 0)), (1, .int x1)] [] M := by
  intro h
  unfold f_X12_go at h
  refine z_iload_n 1 C d_X12_go_0 rfl rfl ?_
  refine z_i2l C d_X12_go_1 ?_
  refine z_lconst (v := (1 : Int64)) C d_X12_go_2 (by decide) ?_
  refine z_ldc2 (v := (12 : Int64)) C wk_X12_243 d_X12_go_3 ?_
  obtain ⟨p2, e1, h⟩ := o_bd h
  refine z_S (S := []) (As := [.long x1.toInt64, .long (1 : Int64), .long (12 : Int64)]) C (c_X12_in l G (M := M) e1) wc_X12_in wm_X12_75 ws_X12_in wi_X12 hy_X12_in ⟨Nat.le_of_ble_eq_true rfl, Nat.le_of_ble_eq_true rfl⟩ rfl rfl (Nat.le_of_ble_eq_true rfl) d_X12_go_6 ?_
  refine z_if_ne C d_X12_go_9 (fun q3 => ?_) (fun q3 => ?_)
  · have h := o_f q3 h
    refine z_aload_n 0 C d_X12_go_14 rfl rfl ?_
    obtain ⟨p5, e4, h⟩ := o_bd h
    refine z_V (S := []) (As := []) C (c_X12_hourNow l G e4) (eY_0 _ _) (by decide) rfl wc_X12_hourNow wm_X12_185 ws_X12_hourNow wl_X12_hourNow wi_X12 hy_X12_hourNow ⟨Nat.le_of_ble_eq_true rfl, Nat.le_of_ble_eq_true rfl⟩ rfl rfl (Nat.le_of_ble_eq_true rfl) d_X12_go_15 ?_
    refine z_iload_n 1 C d_X12_go_18 rfl rfl ?_
    refine z_iadd C d_X12_go_19 ?_
    refine z_bipush (v := (12 : Int32)) C d_X12_go_20 (by decide) ?_
    refine z_icmp_le C d_X12_go_22 (fun q6 => ?_) (fun q6 => ?_)
    · have h := o_t q6 h
      refine z_iconst (v := (0 : Int32)) C d_X12_go_28 (by decide) ?_
      refine z_istore_n (L' := [(2, .int (0 : Int32)), (0, .ref (gB G + 0)), (1, .int x1)]) C d_X12_go_29 rfl (by decide) rfl ?_
      exact z_sub [1, 2, 0] rfl (k_X12_go_30 C hlk hr _ _ _ h)
    · have h := o_f q6 h
      refine z_bipush (v := (-2 : Int32)) C d_X12_go_25 (by decide) ?_
      obtain ⟨rfl, rfl⟩ := o_pair h
      exact z_iret C hlk hr d_X12_go_27
  · have h := o_t q3 h
    refine z_iconst (v := (-1 : Int32)) C d_X12_go_12 (by decide) ?_
    obtain ⟨rfl, rfl⟩ := o_pair h
    exact z_iret C hlk hr d_X12_go_13
theorem c_X12_go (l : Launch) (G : GG) {M : Mm} {x1 : Int32} {r : Int32} {M2 : Mm} (h : f_X12_go M x1 = some (r, M2)) : CT l 1 G y_X12_go prog_14_method_51_code 3 (some .int) 4 105 [.ref (gB G + 0), .int x1] M (some (.int r)) M2 :=
  CT.of (by decide +kernel) (Nat.le_of_ble_eq_true rfl) rfl (fun p e s m args below meth c C hlk hr => k_X12_go_0 C hlk hr h)
-- SnowSentriesModel.dawn()I
set_option maxRecDepth 4000 in
theorem k_X12_dawn_0 {p : Program} {l : Launch} {e : Env} {s : State} {m : MethodId} {args : Array Value} {below : List Frame} {meth : Method} {c : Code} {G : GG} {M : Mm} {r : Int32} {M2 : Mm} (C : CX p s m args c prog_14_method_52_code 2 "SnowSentriesModel" 1 G) (hlk : meth.locks = false) (hr : meth.sig.returnType = (some .int)) : f_X12_dawn M = some (r, M2) → Z p l e { frames := 1, cells := 0, slots := 0, locals := 20 } s m args below meth c 1 G 2 (MQ below (QC 1 G (some (.int r)) M2) args s 0 0 (AU 1 G)) 0 [(0, .ref (gB G + 0))] [] M := by
  intro h
  unfold f_X12_dawn at h
  refine z_aload_n 0 C d_X12_dawn_0 rfl rfl ?_
  obtain ⟨p2, e1, h⟩ := o_bd h
  refine z_V (S := []) (As := []) C (c_X12_hourNow l G e1) (eY_0 _ _) (by decide) rfl wc_X12_hourNow wm_X12_185 ws_X12_hourNow wl_X12_hourNow wi_X12 hy_X12_hourNow ⟨Nat.le_of_ble_eq_true rfl, Nat.le_of_ble_eq_true rfl⟩ rfl rfl (Nat.le_of_ble_eq_true rfl) d_X12_dawn_1 ?_
  refine z_istore_n (L' := [(1, .int p2), (0, .ref (gB G + 0))]) C d_X12_dawn_4 rfl (by decide) rfl ?_
  refine z_aload_n 1 C d_X12_dawn_5 rfl rfl ?_
  refine z_get (k := 0) (v := .ref (gB G + 1)) C (eY_0 _ _) (by decide) rfl inX12 (by decide) wf_X12_7 rfl d_X12_dawn_6 ?_
  refine z_sipush (v := (170 : Int32)) C d_X12_dawn_9 (by decide) ?_
  refine z_iconst (v := (0 : Int32)) C d_X12_dawn_12 (by decide) ?_
  obtain ⟨M3, e4, h⟩ := o_wr h
  refine z_ast (fun r q => eY_1 r q) C (by decide) (show inn (170 : Int32) 840 from by decide) d_X12_dawn_13 ?_
  refine z_nM e4 ?_
  refine z_iload_n 0 C d_X12_dawn_14 rfl rfl ?_
  obtain ⟨rfl, rfl⟩ := o_pair h
  exact z_iret C hlk hr d_X12_dawn_15
theorem c_X12_dawn (l : Launch) (G : GG) {M : Mm} {r : Int32} {M2 : Mm} (h : f_X12_dawn M = some (r, M2)) : CT l 1 G y_X12_dawn prog_14_method_52_code 2 (some .int) 1 20 [.ref (gB G + 0)] M (some (.int r)) M2 :=
  CT.of (by decide +kernel) (Nat.le_of_ble_eq_true rfl) rfl (fun p e s m args below meth c C hlk hr => k_X12_dawn_0 C hlk hr h)
-- SnowSentriesModel.all()I
set_option maxRecDepth 4000 in
theorem k_X12_all_95 {p : Program} {l : Launch} {e : Env} {s : State} {m : MethodId} {args : Array Value} {below : List Frame} {meth : Method} {c : Code} {G : GG} {k4 : Int32 → Int32 → Option Int32} {k38 : Int32 → Int32 → Option Int32} {M : Mm} {x2 : Int32} {x3 : Int32} {s_0 : Int32} {s_1 : Int32} {r : Int32} (C : CX p s m args c prog_14_method_53_code 5 "SnowSentriesModel" 1 G) (hlk : meth.locks = false) (hr : meth.sig.returnType = (some .int)) (hk4 : ∀ (x1 : Int32) (x2 : Int32), k4 x1 x2 = some r → Z p l e { frames := 1, cells := 0, slots := 0, locals := 21 } s m args below meth c 1 G 5 (MQ below (QC 1 G (some (.int r)) M) args s 0 0 (AU 1 G)) 4 [(0, .ref (gB G + 0)), (1, .int x1), (2, .int x2)] [] M) (hk38 : ∀ (x1 : Int32) (x3 : Int32), k38 x1 x3 = some r → Z p l e { frames := 1, cells := 0, slots := 0, locals := 21 } s m args below meth c 1 G 5 (MQ below (QC 1 G (some (.int r)) M) args s 0 0 (AU 1 G)) 38 [(0, .ref (gB G + 0)), (1, .int x1), (2, .int x2), (3, .int x3)] [] M) : f_X12_all_95 k4 k38 M x2 x3 s_0 s_1 = some r → Z p l e { frames := 1, cells := 0, slots := 0, locals := 21 } s m args below meth c 1 G 5 (MQ below (QC 1 G (some (.int r)) M) args s 0 0 (AU 1 G)) 95 [(0, .ref (gB G + 0)), (2, .int x2), (3, .int x3)] [.int s_1, .int s_0] M := by
  intro h
  unfold f_X12_all_95 at h
  refine z_iadd C d_X12_all_95 ?_
  obtain ⟨v1, e2, h⟩ := o_nm h
  refine z_nI e2 ?_
  refine z_istore_n (L' := [(1, .int v1), (0, .ref (gB G + 0)), (2, .int x2), (3, .int x3)]) C d_X12_all_96 rfl (by decide) rfl ?_
  refine z_iinc (v := (1 : Int32)) (L' := [(3, .int (x3 + (1 : Int32))), (1, .int v1), (0, .ref (gB G + 0)), (2, .int x2)]) 3 C d_X12_all_97 rfl (by decide) (by decide) rfl ?_
  refine z_goto C d_X12_all_100 ?_
  exact z_sub [2, 1, 3, 0] rfl (hk38 _ _  h)
set_option maxRecDepth 4000 in
theorem k_X12_all_103 {p : Program} {l : Launch} {e : Env} {s : State} {m : MethodId} {args : Array Value} {below : List Frame} {meth : Method} {c : Code} {G : GG} {k4 : Int32 → Int32 → Option Int32} {M : Mm} {x1 : Int32} {x2 : Int32} {r : Int32} (C : CX p s m args c prog_14_method_53_code 5 "SnowSentriesModel" 1 G) (hlk : meth.locks = false) (hr : meth.sig.returnType = (some .int)) (hk4 : ∀ (x1 : Int32) (x2 : Int32), k4 x1 x2 = some r → Z p l e { frames := 1, cells := 0, slots := 0, locals := 21 } s m args below meth c 1 G 5 (MQ below (QC 1 G (some (.int r)) M) args s 0 0 (AU 1 G)) 4 [(0, .ref (gB G + 0)), (1, .int x1), (2, .int x2)] [] M) : f_X12_all_103 k4 M x1 x2 = some r → Z p l e { frames := 1, cells := 0, slots := 0, locals := 21 } s m args below meth c 1 G 5 (MQ below (QC 1 G (some (.int r)) M) args s 0 0 (AU 1 G)) 103 [(0, .ref (gB G + 0)), (1, .int x1), (2, .int x2)] [] M := by
  intro h
  unfold f_X12_all_103 at h
  refine z_iinc (v := (1 : Int32)) (L' := [(2, .int (x2 + (1 : Int32))), (0, .ref (gB G + 0)), (1, .int x1)]) 2 C d_X12_all_103 rfl (by decide) (by decide) rfl ?_
  refine z_goto C d_X12_all_106 ?_
  exact z_sub [1, 2, 0] rfl (hk4 _ _  h)
set_option maxRecDepth 4000 in
theorem kb_X12_all_38 {p : Program} {l : Launch} {e : Env} {s : State} {m : MethodId} {args : Array Value} {below : List Frame} {meth : Method} {c : Code} {G : GG} {k4 : Int32 → Int32 → Option Int32} {k38 : Int32 → Int32 → Option Int32} {M : Mm} {x2 : Int32} {x1 : Int32} {x3 : Int32} {r : Int32} (C : CX p s m args c prog_14_method_53_code 5 "SnowSentriesModel" 1 G) (hlk : meth.locks = false) (hr : meth.sig.returnType = (some .int)) (hk4 : ∀ (x1 : Int32) (x2 : Int32), k4 x1 x2 = some r → Z p l e { frames := 1, cells := 0, slots := 0, locals := 21 } s m args below meth c 1 G 5 (MQ below (QC 1 G (some (.int r)) M) args s 0 0 (AU 1 G)) 4 [(0, .ref (gB G + 0)), (1, .int x1), (2, .int x2)] [] M) (hk38 : ∀ (x1 : Int32) (x3 : Int32), k38 x1 x3 = some r → Z p l e { frames := 1, cells := 0, slots := 0, locals := 21 } s m args below meth c 1 G 5 (MQ below (QC 1 G (some (.int r)) M) args s 0 0 (AU 1 G)) 38 [(0, .ref (gB G + 0)), (1, .int x1), (2, .int x2), (3, .int x3)] [] M) : b_X12_all_38 k4 k38 M x2 x1 x3 = some r → Z p l e { frames := 1, cells := 0, slots := 0, locals := 21 } s m args below meth c 1 G 5 (MQ below (QC 1 G (some (.int r)) M) args s 0 0 (AU 1 G)) 38 [(0, .ref (gB G + 0)), (1, .int x1), (2, .int x2), (3, .int x3)] [] M := by
  intro h
  unfold b_X12_all_38 at h
  refine z_iload_n 3 C d_X12_all_38 rfl rfl ?_
  refine z_iconst (v := (2 : Int32)) C d_X12_all_39 (by decide) ?_
  refine z_icmp_ge C d_X12_all_40 (fun q1 => ?_) (fun q1 => ?_)
  · have h := o_t q1 h
    exact z_sub [0, 1, 2] rfl (k_X12_all_103 C hlk hr hk4 h)
  · have h := o_f q1 h
    refine z_iload_n 3 C d_X12_all_43 rfl rfl ?_
    refine z_iload_n 2 C d_X12_all_44 rfl rfl ?_
    obtain ⟨p3, e2, h⟩ := o_bd h
    refine z_S (S := []) (As := [.int x3, .int x2]) C (c_X12_manAt l G (M := M) e2) wc_X12_manAt wm_X12_198 ws_X12_manAt wi_X12 hy_X12_manAt ⟨Nat.le_of_ble_eq_true rfl, Nat.le_of_ble_eq_true rfl⟩ rfl rfl (Nat.le_of_ble_eq_true rfl) d_X12_all_45 ?_
    refine z_istore (L' := [(4, .int p3), (0, .ref (gB G + 0)), (1, .int x1), (2, .int x2), (3, .int x3)]) C d_X12_all_48 (by decide) rfl ?_
    refine z_iload_n 2 C d_X12_all_50 rfl rfl ?_
    refine z_aload_n 1 C d_X12_all_51 rfl rfl ?_
    refine z_get (k := 0) (v := .ref (gB G + 1)) C (eY_0 _ _) (by decide) rfl inX12 (by decide) wf_X12_7 rfl d_X12_all_52 ?_
    refine z_iload 0 C d_X12_all_55 rfl ?_
    obtain ⟨q4, h⟩ := o_ck h
    refine z_ald (eY_1 _ _) C (by decide) q4 d_X12_all_57 ?_
    refine z_iconst (v := (1 : Int32)) C d_X12_all_58 (by decide) ?_
    refine z_icmp_ne C d_X12_all_59 (fun q5 => ?_) (fun q5 => ?_)
    · have h := o_f q5 h
      refine z_iconst (v := (0 : Int32)) C d_X12_all_94 (by decide) ?_
      exact z_sub [1, 3, 4] rfl (k_X12_all_95 C hlk hr hk4 hk38 h)
    · have h := o_t q5 h
      refine z_aload_n 1 C d_X12_all_62 rfl rfl ?_
      refine z_get (k := 0) (v := .ref (gB G + 1)) C (eY_0 _ _) (by decide) rfl inX12 (by decide) wf_X12_7 rfl d_X12_all_63 ?_
      refine z_iload 0 C d_X12_all_66 rfl ?_
      refine z_iconst (v := (2 : Int32)) C d_X12_all_68 (by decide) ?_
      refine z_iadd C d_X12_all_69 ?_
      obtain ⟨q6, h⟩ := o_ck h
      refine z_ald (eY_1 _ _) C (by decide) q6 d_X12_all_70 ?_
      refine z_aload_n 1 C d_X12_all_71 rfl rfl ?_
      refine z_get (k := 0) (v := .ref (gB G + 1)) C (eY_0 _ _) (by decide) rfl inX12 (by decide) wf_X12_7 rfl d_X12_all_72 ?_
      refine z_iload 0 C d_X12_all_75 rfl ?_
      refine z_iconst (v := (3 : Int32)) C d_X12_all_77 (by decide) ?_
      refine z_iadd C d_X12_all_78 ?_
      obtain ⟨q7, h⟩ := o_ck h
      refine z_ald (eY_1 _ _) C (by decide) q7 d_X12_all_79 ?_
      refine z_iadd C d_X12_all_80 ?_
      refine z_aload_n 1 C d_X12_all_81 rfl rfl ?_
      refine z_get (k := 0) (v := .ref (gB G + 1)) C (eY_0 _ _) (by decide) rfl inX12 (by decide) wf_X12_7 rfl d_X12_all_82 ?_
      refine z_iload 0 C d_X12_all_85 rfl ?_
      refine z_iconst (v := (4 : Int32)) C d_X12_all_87 (by decide) ?_
      refine z_iadd C d_X12_all_88 ?_
      obtain ⟨q8, h⟩ := o_ck h
      refine z_ald (eY_1 _ _) C (by decide) q8 d_X12_all_89 ?_
      refine z_iadd C d_X12_all_90 ?_
      refine z_goto C d_X12_all_91 ?_
      exact z_sub [1, 3, 4] rfl (k_X12_all_95 C hlk hr hk4 hk38 h)
theorem k_X12_all_38 {p : Program} {l : Launch} {e : Env} {s : State} {m : MethodId} {args : Array Value} {below : List Frame} {meth : Method} {c : Code} {G : GG} {k4 : Int32 → Int32 → Option Int32} {M : Mm} {x2 : Int32} {r : Int32} (C : CX p s m args c prog_14_method_53_code 5 "SnowSentriesModel" 1 G) (hlk : meth.locks = false) (hr : meth.sig.returnType = (some .int)) (hk4 : ∀ (x1 : Int32) (x2 : Int32), k4 x1 x2 = some r → Z p l e { frames := 1, cells := 0, slots := 0, locals := 21 } s m args below meth c 1 G 5 (MQ below (QC 1 G (some (.int r)) M) args s 0 0 (AU 1 G)) 4 [(0, .ref (gB G + 0)), (1, .int x1), (2, .int x2)] [] M) : ∀ (n : Nat) (x1 : Int32) (x3 : Int32), f_X12_all_38 k4 M x2 n x1 x3 = some r → Z p l e { frames := 1, cells := 0, slots := 0, locals := 21 } s m args below meth c 1 G 5 (MQ below (QC 1 G (some (.int r)) M) args s 0 0 (AU 1 G)) 38 [(0, .ref (gB G + 0)), (1, .int x1), (2, .int x2), (3, .int x3)] [] M := by
  intro n
  induction n with
  | zero =>
    intro x1 x3  h
    exact absurd h (fun z => by cases z)
  | succ n ih =>
    intro x1 x3  h
    exact kb_X12_all_38 C hlk hr hk4 (fun x1 x3 h => ih x1 x3 h) h
set_option maxRecDepth 4000 in
theorem kb_X12_all_4 {p : Program} {l : Launch} {e : Env} {s : State} {m : MethodId} {args : Array Value} {below : List Frame} {meth : Method} {c : Code} {G : GG} {k4 : Int32 → Int32 → Option Int32} {M : Mm} {x1 : Int32} {x2 : Int32} {r : Int32} (C : CX p s m args c prog_14_method_53_code 5 "SnowSentriesModel" 1 G) (hlk : meth.locks = false) (hr : meth.sig.returnType = (some .int)) (hk4 : ∀ (x1 : Int32) (x2 : Int32), k4 x1 x2 = some r → Z p l e { frames := 1, cells := 0, slots := 0, locals := 21 } s m args below meth c 1 G 5 (MQ below (QC 1 G (some (.int r)) M) args s 0 0 (AU 1 G)) 4 [(0, .ref (gB G + 0)), (1, .int x1), (2, .int x2)] [] M) : b_X12_all_4 k4 M x1 x2 = some r → Z p l e { frames := 1, cells := 0, slots := 0, locals := 21 } s m args below meth c 1 G 5 (MQ below (QC 1 G (some (.int r)) M) args s 0 0 (AU 1 G)) 4 [(0, .ref (gB G + 0)), (1, .int x1), (2, .int x2)] [] M := by
  intro h
  unfold b_X12_all_4 at h
  refine z_iload_n 2 C d_X12_all_4 rfl rfl ?_
  refine z_aload_n 0 C d_X12_all_5 rfl rfl ?_
  refine z_get (k := 1) (v := .int (M.1 0 1)) C (eY_0 _ _) (by decide) rfl inX12 (by decide) wf_X12_13 rfl d_X12_all_6 ?_
  refine z_icmp_ge C d_X12_all_9 (fun q1 => ?_) (fun q1 => ?_)
  · have h := o_t q1 h
    refine z_iload_n 1 C d_X12_all_109 rfl rfl ?_
    obtain rfl := o_some h
    exact z_iret C hlk hr d_X12_all_110
  · have h := o_f q1 h
    refine z_iload_n 1 C d_X12_all_12 rfl rfl ?_
    refine z_aload_n 0 C d_X12_all_13 rfl rfl ?_
    refine z_get (k := 0) (v := .ref (gB G + 1)) C (eY_0 _ _) (by decide) rfl inX12 (by decide) wf_X12_7 rfl d_X12_all_14 ?_
    refine z_sipush (v := (140 : Int32)) C d_X12_all_17 (by decide) ?_
    refine z_iload_n 2 C d_X12_all_20 rfl rfl ?_
    refine z_iadd C d_X12_all_21 ?_
    obtain ⟨q2, h⟩ := o_ck h
    refine z_ald (eY_1 _ _) C (by decide) q2 d_X12_all_22 ?_
    refine z_aload_n 0 C d_X12_all_23 rfl rfl ?_
    refine z_get (k := 0) (v := .ref (gB G + 1)) C (eY_0 _ _) (by decide) rfl inX12 (by decide) wf_X12_7 rfl d_X12_all_24 ?_
    refine z_sipush (v := (150 : Int32)) C d_X12_all_27 (by decide) ?_
    refine z_iload_n 2 C d_X12_all_30 rfl rfl ?_
    refine z_iadd C d_X12_all_31 ?_
    obtain ⟨q3, h⟩ := o_ck h
    refine z_ald (eY_1 _ _) C (by decide) q3 d_X12_all_32 ?_
    refine z_iadd C d_X12_all_33 ?_
    refine z_iadd C d_X12_all_34 ?_
    obtain ⟨v4, e5, h⟩ := o_nm h
    refine z_nI e5 ?_
    refine z_istore_n (L' := [(1, .int v4), (0, .ref (gB G + 0)), (2, .int x2)]) C d_X12_all_35 rfl (by decide) rfl ?_
    refine z_iconst (v := (0 : Int32)) C d_X12_all_36 (by decide) ?_
    refine z_istore_n (L' := [(3, .int (0 : Int32)), (1, .int v4), (0, .ref (gB G + 0)), (2, .int x2)]) C d_X12_all_37 rfl (by decide) rfl ?_
    exact z_sub [2, 1, 3, 0] rfl (k_X12_all_38 C hlk hr hk4 _ _ _ h)
theorem k_X12_all_4 {p : Program} {l : Launch} {e : Env} {s : State} {m : MethodId} {args : Array Value} {below : List Frame} {meth : Method} {c : Code} {G : GG} {M : Mm} {r : Int32} (C : CX p s m args c prog_14_method_53_code 5 "SnowSentriesModel" 1 G) (hlk : meth.locks = false) (hr : meth.sig.returnType = (some .int)) : ∀ (n : Nat) (x1 : Int32) (x2 : Int32), f_X12_all_4 M n x1 x2 = some r → Z p l e { frames := 1, cells := 0, slots := 0, locals := 21 } s m args below meth c 1 G 5 (MQ below (QC 1 G (some (.int r)) M) args s 0 0 (AU 1 G)) 4 [(0, .ref (gB G + 0)), (1, .int x1), (2, .int x2)] [] M := by
  intro n
  induction n with
  | zero =>
    intro x1 x2  h
    exact absurd h (fun z => by cases z)
  | succ n ih =>
    intro x1 x2  h
    exact kb_X12_all_4 C hlk hr  (fun x1 x2 h => ih x1 x2 h) h
set_option maxRecDepth 4000 in
theorem k_X12_all_0 {p : Program} {l : Launch} {e : Env} {s : State} {m : MethodId} {args : Array Value} {below : List Frame} {meth : Method} {c : Code} {G : GG} {M : Mm} {r : Int32} (C : CX p s m args c prog_14_method_53_code 5 "SnowSentriesModel" 1 G) (hlk : meth.locks = false) (hr : meth.sig.returnType = (some .int)) : f_X12_all M = some r → Z p l e { frames := 1, cells := 0, slots := 0, locals := 21 } s m args below meth c 1 G 5 (MQ below (QC 1 G (some (.int r)) M) args s 0 0 (AU 1 G)) 0 [(0, .ref (gB G + 0))] [] M := by
  intro h
  unfold f_X12_all at h
  refine z_iconst (v := (0 : Int32)) C d_X12_all_0 (by decide) ?_
  refine z_istore_n (L' := [(1, .int (0 : Int32)), (0, .ref (gB G + 0))]) C d_X12_all_1 rfl (by decide) rfl ?_
  refine z_iconst (v := (0 : Int32)) C d_X12_all_2 (by decide) ?_
  refine z_istore_n (L' := [(2, .int (0 : Int32)), (1, .int (0 : Int32)), (0, .ref (gB G + 0))]) C d_X12_all_3 rfl (by decide) rfl ?_
  exact z_sub [2, 1, 0] rfl (k_X12_all_4 C hlk hr _ _ _ h)
theorem c_X12_all (l : Launch) (G : GG) {M : Mm} {r : Int32} (h : f_X12_all M = some r) : CT l 1 G y_X12_all prog_14_method_53_code 5 (some .int) 1 21 [.ref (gB G + 0)] M (some (.int r)) M :=
  CT.of (by decide +kernel) (Nat.le_of_ble_eq_true rfl) rfl (fun p e s m args below meth c C hlk hr => k_X12_all_0 C hlk hr h)
-- SnowSentriesModel.copies(II)V
set_option maxRecDepth 4000 in
theorem kb_X12_copies_2 {p : Program} {l : Launch} {e : Env} {s : State} {m : MethodId} {args : Array Value} {below : List Frame} {meth : Method} {c : Code} {G : GG} {k2 : Mm → Int32 → Option Mm} {x1 : Int32} {x2 : Int32} {M : Mm} {x3 : Int32} {M2 : Mm} (C : CX p s m args c prog_14_method_54_code 4 "SnowSentriesModel" 1 G) (hlk : meth.locks = false) (hr : meth.sig.returnType = none) (hk2 : ∀ (M : Mm) (x3 : Int32), k2 M x3 = some M2 → Z p l e { frames := 0, cells := 0, slots := 0, locals := 0 } s m args below meth c 1 G 4 (MQ below (QC 1 G none M2) args s 0 0 (AU 1 G)) 2 [(0, .ref (gB G + 0)), (1, .int x1), (2, .int x2), (3, .int x3)] [] M) : b_X12_copies_2 k2 x1 x2 M x3 = some M2 → Z p l e { frames := 0, cells := 0, slots := 0, locals := 0 } s m args below meth c 1 G 4 (MQ below (QC 1 G none M2) args s 0 0 (AU 1 G)) 2 [(0, .ref (gB G + 0)), (1, .int x1), (2, .int x2), (3, .int x3)] [] M := by
  intro h
  unfold b_X12_copies_2 at h
  refine z_iload_n 3 C d_X12_copies_2 rfl rfl ?_
  refine z_sipush (v := (210 : Int32)) C d_X12_copies_3 (by decide) ?_
  refine z_icmp_ge C d_X12_copies_6 (fun q1 => ?_) (fun q1 => ?_)
  · have h := o_t q1 h
    obtain rfl := o_some h
    exact z_vret C hlk hr d_X12_copies_31
  · have h := o_f q1 h
    refine z_aload_n 0 C d_X12_copies_9 rfl rfl ?_
    refine z_get (k := 0) (v := .ref (gB G + 1)) C (eY_0 _ _) (by decide) rfl inX12 (by decide) wf_X12_7 rfl d_X12_copies_10 ?_
    refine z_iload_n 2 C d_X12_copies_13 rfl rfl ?_
    refine z_iload_n 3 C d_X12_copies_14 rfl rfl ?_
    refine z_iadd C d_X12_copies_15 ?_
    refine z_aload_n 0 C d_X12_copies_16 rfl rfl ?_
    refine z_get (k := 0) (v := .ref (gB G + 1)) C (eY_0 _ _) (by decide) rfl inX12 (by decide) wf_X12_7 rfl d_X12_copies_17 ?_
    refine z_iload_n 1 C d_X12_copies_20 rfl rfl ?_
    refine z_iload_n 3 C d_X12_copies_21 rfl rfl ?_
    refine z_iadd C d_X12_copies_22 ?_
    obtain ⟨q2, h⟩ := o_ck h
    refine z_ald (eY_1 _ _) C (by decide) q2 d_X12_copies_23 ?_
    obtain ⟨q5, h⟩ := o_ck h
    obtain ⟨M3, e4, h⟩ := o_wr h
    refine z_ast (fun r q => eY_1 r q) C (by decide) q5 d_X12_copies_24 ?_
    refine z_nM e4 ?_
    refine z_iinc (v := (1 : Int32)) (L' := [(3, .int (x3 + (1 : Int32))), (0, .ref (gB G + 0)), (1, .int x1), (2, .int x2)]) 3 C d_X12_copies_25 rfl (by decide) (by decide) rfl ?_
    refine z_goto C d_X12_copies_28 ?_
    exact z_sub [1, 2, 3, 0] rfl (hk2 _ _  h)
theorem k_X12_copies_2 {p : Program} {l : Launch} {e : Env} {s : State} {m : MethodId} {args : Array Value} {below : List Frame} {meth : Method} {c : Code} {G : GG} {x1 : Int32} {x2 : Int32} {M2 : Mm} (C : CX p s m args c prog_14_method_54_code 4 "SnowSentriesModel" 1 G) (hlk : meth.locks = false) (hr : meth.sig.returnType = none) : ∀ (n : Nat) (M : Mm) (x3 : Int32), f_X12_copies_2 x1 x2 n M x3 = some M2 → Z p l e { frames := 0, cells := 0, slots := 0, locals := 0 } s m args below meth c 1 G 4 (MQ below (QC 1 G none M2) args s 0 0 (AU 1 G)) 2 [(0, .ref (gB G + 0)), (1, .int x1), (2, .int x2), (3, .int x3)] [] M := by
  intro n
  induction n with
  | zero =>
    intro M x3  h
    exact absurd h (fun z => by cases z)
  | succ n ih =>
    intro M x3  h
    exact kb_X12_copies_2 C hlk hr  (fun M x3 h => ih M x3 h) h
set_option maxRecDepth 4000 in
theorem k_X12_copies_0 {p : Program} {l : Launch} {e : Env} {s : State} {m : MethodId} {args : Array Value} {below : List Frame} {meth : Method} {c : Code} {G : GG} {M : Mm} {x1 : Int32} {x2 : Int32} {M2 : Mm} (C : CX p s m args c prog_14_method_54_code 4 "SnowSentriesModel" 1 G) (hlk : meth.locks = false) (hr : meth.sig.returnType = none) : f_X12_copies M x1 x2 = some M2 → Z p l e { frames := 0, cells := 0, slots := 0, locals := 0 } s m args below meth c 1 G 4 (MQ below (QC 1 G none M2) args s 0 0 (AU 1 G)) 0 [(0, .ref (gB G + 0)), (1, .int x1), (2, .int x2)] [] M := by
  intro h
  unfold f_X12_copies at h
  refine z_iconst (v := (0 : Int32)) C d_X12_copies_0 (by decide) ?_
  refine z_istore_n (L' := [(3, .int (0 : Int32)), (0, .ref (gB G + 0)), (1, .int x1), (2, .int x2)]) C d_X12_copies_1 rfl (by decide) rfl ?_
  exact z_sub [1, 2, 3, 0] rfl (k_X12_copies_2 C hlk hr _ _ _ h)
theorem c_X12_copies (l : Launch) (G : GG) {M : Mm} {x1 : Int32} {x2 : Int32} {M2 : Mm} (h : f_X12_copies M x1 x2 = some M2) : CT l 1 G y_X12_copies prog_14_method_54_code 4 none 0 0 [.ref (gB G + 0), .int x1, .int x2] M none M2 :=
  CT.of (by decide +kernel) (Nat.le_of_ble_eq_true rfl) rfl (fun p e s m args below meth c C hlk hr => k_X12_copies_0 C hlk hr h)
-- SnowSentriesModel.isAhead(I)Z
set_option maxRecDepth 4000 in
theorem k_X12_isAhead_0 {p : Program} {l : Launch} {e : Env} {s : State} {m : MethodId} {args : Array Value} {below : List Frame} {meth : Method} {c : Code} {G : GG} {M : Mm} {x1 : Int32} {r : Int32} (C : CX p s m args c prog_14_method_55_code 2 "SnowSentriesModel" 1 G) (hlk : meth.locks = false) (hr : meth.sig.returnType = (some .boolean)) : f_X12_isAhead M x1 = some r → Z p l e { frames := 1, cells := 0, slots := 0, locals := 25 } s m args below meth c 1 G 2 (MQ below (QC 1 G (some (.int r)) M) args s 0 0 (AU 1 G)) 0 [(0, .ref (gB G + 0)), (1, .int x1)] [] M := by
  intro h
  unfold f_X12_isAhead at h
  refine z_iload_n 1 C d_X12_isAhead_0 rfl rfl ?_
  refine z_i2l C d_X12_isAhead_1 ?_
  refine z_aload_n 0 C d_X12_isAhead_2 rfl rfl ?_
  obtain ⟨p2, e1, h⟩ := o_bd h
  refine z_V (S := [.long x1.toInt64]) (As := []) C (c_X12_hourNow l G e1) (eY_0 _ _) (by decide) rfl wc_X12_hourNow wm_X12_185 ws_X12_hourNow wl_X12_hourNow wi_X12 hy_X12_hourNow ⟨Nat.le_of_ble_eq_true rfl, Nat.le_of_ble_eq_true rfl⟩ rfl rfl (Nat.le_of_ble_eq_true rfl) d_X12_isAhead_3 ?_
  refine z_i2l C d_X12_isAhead_6 ?_
  refine z_ldc2 (v := (12 : Int64)) C wk_X12_243 d_X12_isAhead_7 ?_
  obtain ⟨p4, e3, h⟩ := o_bd h
  refine z_S (S := []) (As := [.long x1.toInt64, .long p2.toInt64, .long (12 : Int64)]) C (c_X12_in l G (M := M) e3) wc_X12_in wm_X12_75 ws_X12_in wi_X12 hy_X12_in ⟨Nat.le_of_ble_eq_true rfl, Nat.le_of_ble_eq_true rfl⟩ rfl rfl (Nat.le_of_ble_eq_true rfl) d_X12_isAhead_10 ?_
  obtain ⟨q5, h⟩ := o_ck h
  obtain rfl := o_some h
  exact z_zret C hlk hr (isB_nar q5) d_X12_isAhead_13
theorem c_X12_isAhead (l : Launch) (G : GG) {M : Mm} {x1 : Int32} {r : Int32} (h : f_X12_isAhead M x1 = some r) : CT l 1 G y_X12_isAhead prog_14_method_55_code 2 (some .boolean) 1 25 [.ref (gB G + 0), .int x1] M (some (.int r)) M :=
  CT.of (by decide +kernel) (Nat.le_of_ble_eq_true rfl) rfl (fun p e s m args below meth c C hlk hr => k_X12_isAhead_0 C hlk hr h)
-- SnowSentriesModel.trialTo(I)V
set_option maxRecDepth 4000 in
theorem kb_X12_trialTo_8 {p : Program} {l : Launch} {e : Env} {s : State} {m : MethodId} {args : Array Value} {below : List Frame} {meth : Method} {c : Code} {G : GG} {k8 : Mm → Option Mm} {x1 : Int32} {M : Mm} {M2 : Mm} (C : CX p s m args c prog_14_method_56_code 2 "SnowSentriesModel" 1 G) (hlk : meth.locks = false) (hr : meth.sig.returnType = none) (hk8 : ∀ (M : Mm), k8 M = some M2 → Z p l e { frames := 4, cells := 0, slots := 0, locals := 105 } s m args below meth c 1 G 2 (MQ below (QC 1 G none M2) args s 0 0 (AU 1 G)) 8 [(0, .ref (gB G + 0)), (1, .int x1)] [] M) : b_X12_trialTo_8 k8 x1 M = some M2 → Z p l e { frames := 4, cells := 0, slots := 0, locals := 105 } s m args below meth c 1 G 2 (MQ below (QC 1 G none M2) args s 0 0 (AU 1 G)) 8 [(0, .ref (gB G + 0)), (1, .int x1)] [] M := by
  intro h
  unfold b_X12_trialTo_8 at h
  refine z_aload_n 0 C d_X12_trialTo_8 rfl rfl ?_
  refine z_get (k := 0) (v := .ref (gB G + 1)) C (eY_0 _ _) (by decide) rfl inX12 (by decide) wf_X12_7 rfl d_X12_trialTo_9 ?_
  refine z_sipush (v := (800 : Int32)) C d_X12_trialTo_12 (by decide) ?_
  refine z_ald (eY_1 _ _) C (by decide) (show inn (800 : Int32) 840 from by decide) d_X12_trialTo_15 ?_
  refine z_iload_n 1 C d_X12_trialTo_16 rfl rfl ?_
  refine z_icmp_ge C d_X12_trialTo_17 (fun q1 => ?_) (fun q1 => ?_)
  · have h := o_t q1 h
    obtain rfl := o_some h
    exact z_vret C hlk hr d_X12_trialTo_30
  · have h := o_f q1 h
    refine z_aload_n 0 C d_X12_trialTo_20 rfl rfl ?_
    refine z_sipush (v := (630 : Int32)) C d_X12_trialTo_21 (by decide) ?_
    obtain ⟨p3, e2, h⟩ := o_bd h
    refine z_V (S := []) (As := [.int (630 : Int32)]) C (c_X12_goes l G e2) (eY_0 _ _) (by decide) rfl wc_X12_goes wm_X12_245 ws_X12_goes wl_X12_goes wi_X12 hy_X12_goes ⟨Nat.le_of_ble_eq_true rfl, Nat.le_of_ble_eq_true rfl⟩ rfl rfl (Nat.le_of_ble_eq_true rfl) d_X12_trialTo_24 ?_
    refine z_goto C d_X12_trialTo_27 ?_
    exact z_sub [0, 1] rfl (hk8 _  h)
theorem k_X12_trialTo_8 {p : Program} {l : Launch} {e : Env} {s : State} {m : MethodId} {args : Array Value} {below : List Frame} {meth : Method} {c : Code} {G : GG} {x1 : Int32} {M2 : Mm} (C : CX p s m args c prog_14_method_56_code 2 "SnowSentriesModel" 1 G) (hlk : meth.locks = false) (hr : meth.sig.returnType = none) : ∀ (n : Nat) (M : Mm), f_X12_trialTo_8 x1 n M = some M2 → Z p l e { frames := 4, cells := 0, slots := 0, locals := 105 } s m args below meth c 1 G 2 (MQ below (QC 1 G none M2) args s 0 0 (AU 1 G)) 8 [(0, .ref (gB G + 0)), (1, .int x1)] [] M := by
  intro n
  induction n with
  | zero =>
    intro M  h
    exact absurd h (fun z => by cases z)
  | succ n ih =>
    intro M  h
    exact kb_X12_trialTo_8 C hlk hr  (fun M h => ih M h) h
set_option maxRecDepth 4000 in
theorem k_X12_trialTo_0 {p : Program} {l : Launch} {e : Env} {s : State} {m : MethodId} {args : Array Value} {below : List Frame} {meth : Method} {c : Code} {G : GG} {M : Mm} {x1 : Int32} {M2 : Mm} (C : CX p s m args c prog_14_method_56_code 2 "SnowSentriesModel" 1 G) (hlk : meth.locks = false) (hr : meth.sig.returnType = none) : f_X12_trialTo M x1 = some M2 → Z p l e { frames := 4, cells := 0, slots := 0, locals := 105 } s m args below meth c 1 G 2 (MQ below (QC 1 G none M2) args s 0 0 (AU 1 G)) 0 [(0, .ref (gB G + 0)), (1, .int x1)] [] M := by
  intro h
  unfold f_X12_trialTo at h
  refine z_aload_n 0 C d_X12_trialTo_0 rfl rfl ?_
  refine z_iconst (v := (0 : Int32)) C d_X12_trialTo_1 (by decide) ?_
  refine z_sipush (v := (630 : Int32)) C d_X12_trialTo_2 (by decide) ?_
  obtain ⟨p2, e1, h⟩ := o_bd h
  refine z_V (S := []) (As := [.int (0 : Int32), .int (630 : Int32)]) C (c_X12_copies l G e1) (eY_0 _ _) (by decide) rfl wc_X12_copies wm_X12_248 ws_X12_copies wl_X12_copies wi_X12 hy_X12_copies ⟨Nat.le_of_ble_eq_true rfl, Nat.le_of_ble_eq_true rfl⟩ rfl rfl (Nat.le_of_ble_eq_true rfl) d_X12_trialTo_5 ?_
  exact z_sub [0, 1] rfl (k_X12_trialTo_8 C hlk hr _ _ h)
theorem c_X12_trialTo (l : Launch) (G : GG) {M : Mm} {x1 : Int32} {M2 : Mm} (h : f_X12_trialTo M x1 = some M2) : CT l 1 G y_X12_trialTo prog_14_method_56_code 2 none 4 105 [.ref (gB G + 0), .int x1] M none M2 :=
  CT.of (by decide +kernel) (Nat.le_of_ble_eq_true rfl) rfl (fun p e s m args below meth c C hlk hr => k_X12_trialTo_0 C hlk hr h)
-- SnowSentriesModel.later(III)I
set_option maxRecDepth 4000 in
theorem k_X12_later_23 {p : Program} {l : Launch} {e : Env} {s : State} {m : MethodId} {args : Array Value} {below : List Frame} {meth : Method} {c : Code} {G : GG} {M : Mm} {r : Int32} {M2 : Mm} (C : CX p s m args c prog_14_method_57_code 4 "SnowSentriesModel" 1 G) (hlk : meth.locks = false) (hr : meth.sig.returnType = (some .int)) : f_X12_later_23 M = some (r, M2) → Z p l e { frames := 5, cells := 0, slots := 0, locals := 126 } s m args below meth c 1 G 4 (MQ below (QC 1 G (some (.int r)) M2) args s 0 0 (AU 1 G)) 23 [] [] M := by
  intro h
  unfold f_X12_later_23 at h
  refine z_iconst (v := (-1 : Int32)) C d_X12_later_23 (by decide) ?_
  obtain ⟨rfl, rfl⟩ := o_pair h
  exact z_iret C hlk hr d_X12_later_24
set_option maxRecDepth 4000 in
theorem k_X12_later_63 {p : Program} {l : Launch} {e : Env} {s : State} {m : MethodId} {args : Array Value} {below : List Frame} {meth : Method} {c : Code} {G : GG} {M : Mm} {s_0 : Int32} {r : Int32} {M2 : Mm} (C : CX p s m args c prog_14_method_57_code 4 "SnowSentriesModel" 1 G) (hlk : meth.locks = false) (hr : meth.sig.returnType = (some .int)) : f_X12_later_63 M s_0 = some (r, M2) → Z p l e { frames := 5, cells := 0, slots := 0, locals := 126 } s m args below meth c 1 G 4 (MQ below (QC 1 G (some (.int r)) M2) args s 0 0 (AU 1 G)) 63 [] [.int s_0] M := by
  intro h
  unfold f_X12_later_63 at h
  obtain ⟨rfl, rfl⟩ := o_pair h
  exact z_iret C hlk hr d_X12_later_63
set_option maxRecDepth 4000 in
theorem k_X12_later_0 {p : Program} {l : Launch} {e : Env} {s : State} {m : MethodId} {args : Array Value} {below : List Frame} {meth : Method} {c : Code} {G : GG} {M : Mm} {x1 : Int32} {x2 : Int32} {x3 : Int32} {r : Int32} {M2 : Mm} (C : CX p s m args c prog_14_method_57_code 4 "SnowSentriesModel" 1 G) (hlk : meth.locks = false) (hr : meth.sig.returnType = (some .int)) : f_X12_later M x1 x2 x3 = some (r, M2) → Z p l e { frames := 5, cells := 0, slots := 0, locals := 126 } s m args below meth c 1 G 4 (MQ below (QC 1 G (some (.int r)) M2) args s 0 0 (AU 1 G)) 0 [(0, .ref (gB G + 0)), (1, .int x1), (2, .int x2), (3, .int x3)] [] M := by
  intro h
  unfold f_X12_later at h
  refine z_iload_n 1 C d_X12_later_0 rfl rfl ?_
  obtain ⟨p2, e1, h⟩ := o_bd h
  refine z_S (S := []) (As := [.int x1]) C (c_X12_isSide l G (M := M) e1) wc_X12_isSide wm_X12_210 ws_X12_isSide wi_X12 hy_X12_isSide ⟨Nat.le_of_ble_eq_true rfl, Nat.le_of_ble_eq_true rfl⟩ rfl rfl (Nat.le_of_ble_eq_true rfl) d_X12_later_1 ?_
  refine z_if_eq C d_X12_later_4 (fun q3 => ?_) (fun q3 => ?_)
  · have h := o_t q3 h
    exact z_sub [] rfl (k_X12_later_23 C hlk hr h)
  · have h := o_f q3 h
    refine z_aload_n 0 C d_X12_later_7 rfl rfl ?_
    refine z_iload_n 2 C d_X12_later_8 rfl rfl ?_
    obtain ⟨p5, e4, h⟩ := o_bd h
    refine z_V (S := []) (As := [.int x2]) C (c_X12_isFurlong l G e4) (eY_0 _ _) (by decide) rfl wc_X12_isFurlong wm_X12_201 ws_X12_isFurlong wl_X12_isFurlong wi_X12 hy_X12_isFurlong ⟨Nat.le_of_ble_eq_true rfl, Nat.le_of_ble_eq_true rfl⟩ rfl rfl (Nat.le_of_ble_eq_true rfl) d_X12_later_9 ?_
    refine z_if_eq C d_X12_later_12 (fun q6 => ?_) (fun q6 => ?_)
    · have h := o_t q6 h
      exact z_sub [] rfl (k_X12_later_23 C hlk hr h)
    · have h := o_f q6 h
      refine z_aload_n 0 C d_X12_later_15 rfl rfl ?_
      refine z_iload_n 3 C d_X12_later_16 rfl rfl ?_
      obtain ⟨p8, e7, h⟩ := o_bd h
      refine z_V (S := []) (As := [.int x3]) C (c_X12_isAhead l G e7) (eY_0 _ _) (by decide) rfl wc_X12_isAhead wm_X12_251 ws_X12_isAhead wl_X12_isAhead wi_X12 hy_X12_isAhead ⟨Nat.le_of_ble_eq_true rfl, Nat.le_of_ble_eq_true rfl⟩ rfl rfl (Nat.le_of_ble_eq_true rfl) d_X12_later_17 ?_
      refine z_if_ne C d_X12_later_20 (fun q9 => ?_) (fun q9 => ?_)
      · have h := o_f q9 h
        refine z_aload_n 0 C d_X12_later_25 rfl rfl ?_
        refine z_iload_n 3 C d_X12_later_26 rfl rfl ?_
        obtain ⟨p11, e10, h⟩ := o_bd h
        refine z_V (S := []) (As := [.int x3]) C (c_X12_trialTo l G e10) (eY_0 _ _) (by decide) rfl wc_X12_trialTo wm_X12_254 ws_X12_trialTo wl_X12_trialTo wi_X12 hy_X12_trialTo ⟨Nat.le_of_ble_eq_true rfl, Nat.le_of_ble_eq_true rfl⟩ rfl rfl (Nat.le_of_ble_eq_true rfl) d_X12_later_27 ?_
        refine z_aload_n 0 C d_X12_later_30 rfl rfl ?_
        refine z_sipush (v := (630 : Int32)) C d_X12_later_31 (by decide) ?_
        refine z_iload_n 1 C d_X12_later_34 rfl rfl ?_
        refine z_iload_n 2 C d_X12_later_35 rfl rfl ?_
        obtain ⟨p13, e12, h⟩ := o_bd h
        refine z_V (S := []) (As := [.int (630 : Int32), .int x1, .int x2]) C (c_X12_isThere l G e12) (eY_0 _ _) (by decide) rfl wc_X12_isThere wm_X12_215 ws_X12_isThere wl_X12_isThere wi_X12 hy_X12_isThere ⟨Nat.le_of_ble_eq_true rfl, Nat.le_of_ble_eq_true rfl⟩ rfl rfl (Nat.le_of_ble_eq_true rfl) d_X12_later_36 ?_
        refine z_if_eq C d_X12_later_39 (fun q14 => ?_) (fun q14 => ?_)
        · have h := o_t q14 h
          refine z_bipush (v := (-4 : Int32)) C d_X12_later_61 (by decide) ?_
          exact z_sub [] rfl (k_X12_later_63 C hlk hr h)
        · have h := o_f q14 h
          refine z_aload_n 0 C d_X12_later_42 rfl rfl ?_
          refine z_get (k := 0) (v := .ref (gB G + 1)) C (eY_0 _ _) (by decide) rfl inX12 (by decide) wf_X12_7 rfl d_X12_later_43 ?_
          refine z_sipush (v := (630 : Int32)) C d_X12_later_46 (by decide) ?_
          refine z_iload_n 1 C d_X12_later_49 rfl rfl ?_
          refine z_iload_n 2 C d_X12_later_50 rfl rfl ?_
          obtain ⟨p16, e15, h⟩ := o_bd h
          refine z_S (S := [.int (630 : Int32), .ref (gB G + 1)]) (As := [.int x1, .int x2]) C (c_X12_manAt l G (M := p11) e15) wc_X12_manAt wm_X12_198 ws_X12_manAt wi_X12 hy_X12_manAt ⟨Nat.le_of_ble_eq_true rfl, Nat.le_of_ble_eq_true rfl⟩ rfl rfl (Nat.le_of_ble_eq_true rfl) d_X12_later_51 ?_
          refine z_iadd C d_X12_later_54 ?_
          refine z_iconst (v := (4 : Int32)) C d_X12_later_55 (by decide) ?_
          refine z_iadd C d_X12_later_56 ?_
          obtain ⟨q17, h⟩ := o_ck h
          refine z_ald (eY_1 _ _) C (by decide) q17 d_X12_later_57 ?_
          refine z_goto C d_X12_later_58 ?_
          exact z_sub [] rfl (k_X12_later_63 C hlk hr h)
      · have h := o_t q9 h
        exact z_sub [] rfl (k_X12_later_23 C hlk hr h)
theorem c_X12_later (l : Launch) (G : GG) {M : Mm} {x1 : Int32} {x2 : Int32} {x3 : Int32} {r : Int32} {M2 : Mm} (h : f_X12_later M x1 x2 x3 = some (r, M2)) : CT l 1 G y_X12_later prog_14_method_57_code 4 (some .int) 5 126 [.ref (gB G + 0), .int x1, .int x2, .int x3] M (some (.int r)) M2 :=
  CT.of (by decide +kernel) (Nat.le_of_ble_eq_true rfl) rfl (fun p e s m args below meth c C hlk hr => k_X12_later_0 C hlk hr h)
-- SnowSentriesModel.line(II)I
set_option maxRecDepth 4000 in
theorem k_X12_line_16 {p : Program} {l : Launch} {e : Env} {s : State} {m : MethodId} {args : Array Value} {below : List Frame} {meth : Method} {c : Code} {G : GG} {M : Mm} {r : Int32} {M2 : Mm} (C : CX p s m args c prog_14_method_58_code 3 "SnowSentriesModel" 1 G) (hlk : meth.locks = false) (hr : meth.sig.returnType = (some .int)) : f_X12_line_16 M = some (r, M2) → Z p l e { frames := 5, cells := 0, slots := 0, locals := 126 } s m args below meth c 1 G 3 (MQ below (QC 1 G (some (.int r)) M2) args s 0 0 (AU 1 G)) 16 [] [] M := by
  intro h
  unfold f_X12_line_16 at h
  refine z_iconst (v := (-1 : Int32)) C d_X12_line_16 (by decide) ?_
  obtain ⟨rfl, rfl⟩ := o_pair h
  exact z_iret C hlk hr d_X12_line_17
set_option maxRecDepth 4000 in
theorem k_X12_line_0 {p : Program} {l : Launch} {e : Env} {s : State} {m : MethodId} {args : Array Value} {below : List Frame} {meth : Method} {c : Code} {G : GG} {M : Mm} {x1 : Int32} {x2 : Int32} {r : Int32} {M2 : Mm} (C : CX p s m args c prog_14_method_58_code 3 "SnowSentriesModel" 1 G) (hlk : meth.locks = false) (hr : meth.sig.returnType = (some .int)) : f_X12_line M x1 x2 = some (r, M2) → Z p l e { frames := 5, cells := 0, slots := 0, locals := 126 } s m args below meth c 1 G 3 (MQ below (QC 1 G (some (.int r)) M2) args s 0 0 (AU 1 G)) 0 [(0, .ref (gB G + 0)), (1, .int x1), (2, .int x2)] [] M := by
  intro h
  unfold f_X12_line at h
  refine z_aload_n 0 C d_X12_line_0 rfl rfl ?_
  refine z_iload_n 1 C d_X12_line_1 rfl rfl ?_
  obtain ⟨p2, e1, h⟩ := o_bd h
  refine z_V (S := []) (As := [.int x1]) C (c_X12_isFurlong l G e1) (eY_0 _ _) (by decide) rfl wc_X12_isFurlong wm_X12_201 ws_X12_isFurlong wl_X12_isFurlong wi_X12 hy_X12_isFurlong ⟨Nat.le_of_ble_eq_true rfl, Nat.le_of_ble_eq_true rfl⟩ rfl rfl (Nat.le_of_ble_eq_true rfl) d_X12_line_2 ?_
  refine z_if_eq C d_X12_line_5 (fun q3 => ?_) (fun q3 => ?_)
  · have h := o_t q3 h
    exact z_sub [] rfl (k_X12_line_16 C hlk hr h)
  · have h := o_f q3 h
    refine z_aload_n 0 C d_X12_line_8 rfl rfl ?_
    refine z_iload_n 2 C d_X12_line_9 rfl rfl ?_
    obtain ⟨p5, e4, h⟩ := o_bd h
    refine z_V (S := []) (As := [.int x2]) C (c_X12_isAhead l G e4) (eY_0 _ _) (by decide) rfl wc_X12_isAhead wm_X12_251 ws_X12_isAhead wl_X12_isAhead wi_X12 hy_X12_isAhead ⟨Nat.le_of_ble_eq_true rfl, Nat.le_of_ble_eq_true rfl⟩ rfl rfl (Nat.le_of_ble_eq_true rfl) d_X12_line_10 ?_
    refine z_if_ne C d_X12_line_13 (fun q6 => ?_) (fun q6 => ?_)
    · have h := o_f q6 h
      refine z_aload_n 0 C d_X12_line_18 rfl rfl ?_
      refine z_iload_n 2 C d_X12_line_19 rfl rfl ?_
      obtain ⟨p8, e7, h⟩ := o_bd h
      refine z_V (S := []) (As := [.int x2]) C (c_X12_trialTo l G e7) (eY_0 _ _) (by decide) rfl wc_X12_trialTo wm_X12_254 ws_X12_trialTo wl_X12_trialTo wi_X12 hy_X12_trialTo ⟨Nat.le_of_ble_eq_true rfl, Nat.le_of_ble_eq_true rfl⟩ rfl rfl (Nat.le_of_ble_eq_true rfl) d_X12_line_20 ?_
      refine z_bipush (v := (100 : Int32)) C d_X12_line_23 (by decide) ?_
      refine z_aload_n 0 C d_X12_line_25 rfl rfl ?_
      refine z_get (k := 0) (v := .ref (gB G + 1)) C (eY_0 _ _) (by decide) rfl inX12 (by decide) wf_X12_7 rfl d_X12_line_26 ?_
      refine z_sipush (v := (790 : Int32)) C d_X12_line_29 (by decide) ?_
      refine z_iload_n 1 C d_X12_line_32 rfl rfl ?_
      refine z_iadd C d_X12_line_33 ?_
      obtain ⟨q9, h⟩ := o_ck h
      refine z_ald (eY_1 _ _) C (by decide) q9 d_X12_line_34 ?_
      refine z_iadd C d_X12_line_35 ?_
      obtain ⟨rfl, rfl⟩ := o_pair h
      exact z_iret C hlk hr d_X12_line_36
    · have h := o_t q6 h
      exact z_sub [] rfl (k_X12_line_16 C hlk hr h)
theorem c_X12_line (l : Launch) (G : GG) {M : Mm} {x1 : Int32} {x2 : Int32} {r : Int32} {M2 : Mm} (h : f_X12_line M x1 x2 = some (r, M2)) : CT l 1 G y_X12_line prog_14_method_58_code 3 (some .int) 5 126 [.ref (gB G + 0), .int x1, .int x2] M (some (.int r)) M2 :=
  CT.of (by decide +kernel) (Nat.le_of_ble_eq_true rfl) rfl (fun p e s m args below meth c C hlk hr => k_X12_line_0 C hlk hr h)
-- SnowSentriesModel.houses(II)I
set_option maxRecDepth 4000 in
theorem k_X12_houses_15 {p : Program} {l : Launch} {e : Env} {s : State} {m : MethodId} {args : Array Value} {below : List Frame} {meth : Method} {c : Code} {G : GG} {M : Mm} {r : Int32} {M2 : Mm} (C : CX p s m args c prog_14_method_59_code 5 "SnowSentriesModel" 1 G) (hlk : meth.locks = false) (hr : meth.sig.returnType = (some .int)) : f_X12_houses_15 M = some (r, M2) → Z p l e { frames := 5, cells := 0, slots := 0, locals := 126 } s m args below meth c 1 G 5 (MQ below (QC 1 G (some (.int r)) M2) args s 0 0 (AU 1 G)) 15 [] [] M := by
  intro h
  unfold f_X12_houses_15 at h
  refine z_iconst (v := (-1 : Int32)) C d_X12_houses_15 (by decide) ?_
  obtain ⟨rfl, rfl⟩ := o_pair h
  exact z_iret C hlk hr d_X12_houses_16
set_option maxRecDepth 4000 in
theorem k_X12_houses_58 {p : Program} {l : Launch} {e : Env} {s : State} {m : MethodId} {args : Array Value} {below : List Frame} {meth : Method} {c : Code} {G : GG} {k27 : Int32 → Int32 → Option (Int32 × Mm)} {M : Mm} {x1 : Int32} {x4 : Int32} {s_0 : Int32} {s_1 : Int32} {r : Int32} {M2 : Mm} (C : CX p s m args c prog_14_method_59_code 5 "SnowSentriesModel" 1 G) (hlk : meth.locks = false) (hr : meth.sig.returnType = (some .int)) (hk27 : ∀ (x3 : Int32) (x4 : Int32), k27 x3 x4 = some (r, M2) → Z p l e { frames := 5, cells := 0, slots := 0, locals := 126 } s m args below meth c 1 G 5 (MQ below (QC 1 G (some (.int r)) M2) args s 0 0 (AU 1 G)) 27 [(0, .ref (gB G + 0)), (1, .int x1), (3, .int x3), (4, .int x4)] [] M) : f_X12_houses_58 k27 M x1 x4 s_0 s_1 = some (r, M2) → Z p l e { frames := 5, cells := 0, slots := 0, locals := 126 } s m args below meth c 1 G 5 (MQ below (QC 1 G (some (.int r)) M2) args s 0 0 (AU 1 G)) 58 [(0, .ref (gB G + 0)), (1, .int x1), (4, .int x4)] [.int s_1, .int s_0] M := by
  intro h
  unfold f_X12_houses_58 at h
  refine z_ior C d_X12_houses_58 ?_
  obtain ⟨v1, e2, h⟩ := o_nm h
  refine z_nI e2 ?_
  refine z_istore_n (L' := [(3, .int v1), (0, .ref (gB G + 0)), (1, .int x1), (4, .int x4)]) C d_X12_houses_59 rfl (by decide) rfl ?_
  refine z_iinc (v := (1 : Int32)) (L' := [(4, .int (x4 + (1 : Int32))), (3, .int v1), (0, .ref (gB G + 0)), (1, .int x1)]) 3 C d_X12_houses_60 rfl (by decide) (by decide) rfl ?_
  refine z_goto C d_X12_houses_63 ?_
  exact z_sub [2, 3, 1, 0] rfl (hk27 _ _  h)
set_option maxRecDepth 4000 in
theorem kb_X12_houses_27 {p : Program} {l : Launch} {e : Env} {s : State} {m : MethodId} {args : Array Value} {below : List Frame} {meth : Method} {c : Code} {G : GG} {k27 : Int32 → Int32 → Option (Int32 × Mm)} {M : Mm} {x1 : Int32} {x3 : Int32} {x4 : Int32} {r : Int32} {M2 : Mm} (C : CX p s m args c prog_14_method_59_code 5 "SnowSentriesModel" 1 G) (hlk : meth.locks = false) (hr : meth.sig.returnType = (some .int)) (hk27 : ∀ (x3 : Int32) (x4 : Int32), k27 x3 x4 = some (r, M2) → Z p l e { frames := 5, cells := 0, slots := 0, locals := 126 } s m args below meth c 1 G 5 (MQ below (QC 1 G (some (.int r)) M2) args s 0 0 (AU 1 G)) 27 [(0, .ref (gB G + 0)), (1, .int x1), (3, .int x3), (4, .int x4)] [] M) : b_X12_houses_27 k27 M x1 x3 x4 = some (r, M2) → Z p l e { frames := 5, cells := 0, slots := 0, locals := 126 } s m args below meth c 1 G 5 (MQ below (QC 1 G (some (.int r)) M2) args s 0 0 (AU 1 G)) 27 [(0, .ref (gB G + 0)), (1, .int x1), (3, .int x3), (4, .int x4)] [] M := by
  intro h
  unfold b_X12_houses_27 at h
  refine z_iload 3 C d_X12_houses_27 rfl ?_
  refine z_aload_n 0 C d_X12_houses_29 rfl rfl ?_
  refine z_get (k := 5) (v := .int (M.1 0 5)) C (eY_0 _ _) (by decide) rfl inX12 (by decide) wf_X12_170 rfl d_X12_houses_30 ?_
  refine z_icmp_ge C d_X12_houses_33 (fun q1 => ?_) (fun q1 => ?_)
  · have h := o_t q1 h
    refine z_iload_n 2 C d_X12_houses_66 rfl rfl ?_
    obtain ⟨rfl, rfl⟩ := o_pair h
    exact z_iret C hlk hr d_X12_houses_67
  · have h := o_f q1 h
    refine z_iload_n 2 C d_X12_houses_36 rfl rfl ?_
    refine z_aload_n 0 C d_X12_houses_37 rfl rfl ?_
    refine z_sipush (v := (630 : Int32)) C d_X12_houses_38 (by decide) ?_
    refine z_iload 3 C d_X12_houses_41 rfl ?_
    obtain ⟨p3, e2, h⟩ := o_bd h
    refine z_V (S := [.int x3]) (As := [.int (630 : Int32), .int x4]) C (c_X12_houseOf l G e2) (eY_0 _ _) (by decide) rfl wc_X12_houseOf wm_X12_218 ws_X12_houseOf wl_X12_houseOf wi_X12 hy_X12_houseOf ⟨Nat.le_of_ble_eq_true rfl, Nat.le_of_ble_eq_true rfl⟩ rfl rfl (Nat.le_of_ble_eq_true rfl) d_X12_houses_43 ?_
    refine z_iload_n 1 C d_X12_houses_46 rfl rfl ?_
    refine z_icmp_ne C d_X12_houses_47 (fun q4 => ?_) (fun q4 => ?_)
    · have h := o_f q4 h
      refine z_iconst (v := (0 : Int32)) C d_X12_houses_57 (by decide) ?_
      exact z_sub [0, 1, 3] rfl (k_X12_houses_58 C hlk hr hk27 h)
    · have h := o_t q4 h
      refine z_iconst (v := (1 : Int32)) C d_X12_houses_50 (by decide) ?_
      refine z_iload 3 C d_X12_houses_51 rfl ?_
      refine z_ishl C d_X12_houses_53 ?_
      refine z_goto C d_X12_houses_54 ?_
      exact z_sub [0, 1, 3] rfl (k_X12_houses_58 C hlk hr hk27 h)
theorem k_X12_houses_27 {p : Program} {l : Launch} {e : Env} {s : State} {m : MethodId} {args : Array Value} {below : List Frame} {meth : Method} {c : Code} {G : GG} {M : Mm} {x1 : Int32} {r : Int32} {M2 : Mm} (C : CX p s m args c prog_14_method_59_code 5 "SnowSentriesModel" 1 G) (hlk : meth.locks = false) (hr : meth.sig.returnType = (some .int)) : ∀ (n : Nat) (x3 : Int32) (x4 : Int32), f_X12_houses_27 M x1 n x3 x4 = some (r, M2) → Z p l e { frames := 5, cells := 0, slots := 0, locals := 126 } s m args below meth c 1 G 5 (MQ below (QC 1 G (some (.int r)) M2) args s 0 0 (AU 1 G)) 27 [(0, .ref (gB G + 0)), (1, .int x1), (3, .int x3), (4, .int x4)] [] M := by
  intro n
  induction n with
  | zero =>
    intro x3 x4  h
    exact absurd h (fun z => by cases z)
  | succ n ih =>
    intro x3 x4  h
    exact kb_X12_houses_27 C hlk hr  (fun x3 x4 h => ih x3 x4 h) h
set_option maxRecDepth 4000 in
theorem k_X12_houses_0 {p : Program} {l : Launch} {e : Env} {s : State} {m : MethodId} {args : Array Value} {below : List Frame} {meth : Method} {c : Code} {G : GG} {M : Mm} {x1 : Int32} {x2 : Int32} {r : Int32} {M2 : Mm} (C : CX p s m args c prog_14_method_59_code 5 "SnowSentriesModel" 1 G) (hlk : meth.locks = false) (hr : meth.sig.returnType = (some .int)) : f_X12_houses M x1 x2 = some (r, M2) → Z p l e { frames := 5, cells := 0, slots := 0, locals := 126 } s m args below meth c 1 G 5 (MQ below (QC 1 G (some (.int r)) M2) args s 0 0 (AU 1 G)) 0 [(0, .ref (gB G + 0)), (1, .int x1), (2, .int x2)] [] M := by
  intro h
  unfold f_X12_houses at h
  refine z_iload_n 1 C d_X12_houses_0 rfl rfl ?_
  obtain ⟨p2, e1, h⟩ := o_bd h
  refine z_S (S := []) (As := [.int x1]) C (c_X12_isSide l G (M := M) e1) wc_X12_isSide wm_X12_210 ws_X12_isSide wi_X12 hy_X12_isSide ⟨Nat.le_of_ble_eq_true rfl, Nat.le_of_ble_eq_true rfl⟩ rfl rfl (Nat.le_of_ble_eq_true rfl) d_X12_houses_1 ?_
  refine z_if_eq C d_X12_houses_4 (fun q3 => ?_) (fun q3 => ?_)
  · have h := o_t q3 h
    exact z_sub [] rfl (k_X12_houses_15 C hlk hr h)
  · have h := o_f q3 h
    refine z_aload_n 0 C d_X12_houses_7 rfl rfl ?_
    refine z_iload_n 2 C d_X12_houses_8 rfl rfl ?_
    obtain ⟨p5, e4, h⟩ := o_bd h
    refine z_V (S := []) (As := [.int x2]) C (c_X12_isAhead l G e4) (eY_0 _ _) (by decide) rfl wc_X12_isAhead wm_X12_251 ws_X12_isAhead wl_X12_isAhead wi_X12 hy_X12_isAhead ⟨Nat.le_of_ble_eq_true rfl, Nat.le_of_ble_eq_true rfl⟩ rfl rfl (Nat.le_of_ble_eq_true rfl) d_X12_houses_9 ?_
    refine z_if_ne C d_X12_houses_12 (fun q6 => ?_) (fun q6 => ?_)
    · have h := o_f q6 h
      refine z_aload_n 0 C d_X12_houses_17 rfl rfl ?_
      refine z_iload_n 2 C d_X12_houses_18 rfl rfl ?_
      obtain ⟨p8, e7, h⟩ := o_bd h
      refine z_V (S := []) (As := [.int x2]) C (c_X12_trialTo l G e7) (eY_0 _ _) (by decide) rfl wc_X12_trialTo wm_X12_254 ws_X12_trialTo wl_X12_trialTo wi_X12 hy_X12_trialTo ⟨Nat.le_of_ble_eq_true rfl, Nat.le_of_ble_eq_true rfl⟩ rfl rfl (Nat.le_of_ble_eq_true rfl) d_X12_houses_19 ?_
      refine z_iconst (v := (0 : Int32)) C d_X12_houses_22 (by decide) ?_
      refine z_istore_n (L' := [(3, .int (0 : Int32)), (0, .ref (gB G + 0)), (1, .int x1), (2, .int x2)]) C d_X12_houses_23 rfl (by decide) rfl ?_
      refine z_iconst (v := (0 : Int32)) C d_X12_houses_24 (by decide) ?_
      refine z_istore (L' := [(4, .int (0 : Int32)), (3, .int (0 : Int32)), (0, .ref (gB G + 0)), (1, .int x1), (2, .int x2)]) C d_X12_houses_25 (by decide) rfl ?_
      exact z_sub [2, 3, 1, 0] rfl (k_X12_houses_27 C hlk hr _ _ _ h)
    · have h := o_t q6 h
      exact z_sub [] rfl (k_X12_houses_15 C hlk hr h)
theorem c_X12_houses (l : Launch) (G : GG) {M : Mm} {x1 : Int32} {x2 : Int32} {r : Int32} {M2 : Mm} (h : f_X12_houses M x1 x2 = some (r, M2)) : CT l 1 G y_X12_houses prog_14_method_59_code 5 (some .int) 5 126 [.ref (gB G + 0), .int x1, .int x2] M (some (.int r)) M2 :=
  CT.of (by decide +kernel) (Nat.le_of_ble_eq_true rfl) rfl (fun p e s m args below meth c C hlk hr => k_X12_houses_0 C hlk hr h)
-- SnowSentriesModel.holdsTo(IIII)I
set_option maxRecDepth 4000 in
theorem kb_X12_holdsTo_48 {p : Program} {l : Launch} {e : Env} {s : State} {m : MethodId} {args : Array Value} {below : List Frame} {meth : Method} {c : Code} {G : GG} {k48 : Mm → Int32 → Option (Int32 × Mm)} {x1 : Int32} {x2 : Int32} {x4 : Int32} {M : Mm} {x5 : Int32} {r : Int32} {M2 : Mm} (C : CX p s m args c prog_14_method_60_code 6 "SnowSentriesModel" 1 G) (hlk : meth.locks = false) (hr : meth.sig.returnType = (some .int)) (hk48 : ∀ (M : Mm) (x5 : Int32), k48 M x5 = some (r, M2) → Z p l e { frames := 3, cells := 0, slots := 0, locals := 82 } s m args below meth c 1 G 6 (MQ below (QC 1 G (some (.int r)) M2) args s 0 0 (AU 1 G)) 48 [(0, .ref (gB G + 0)), (1, .int x1), (2, .int x2), (4, .int x4), (5, .int x5)] [] M) : b_X12_holdsTo_48 k48 x1 x2 x4 M x5 = some (r, M2) → Z p l e { frames := 3, cells := 0, slots := 0, locals := 82 } s m args below meth c 1 G 6 (MQ below (QC 1 G (some (.int r)) M2) args s 0 0 (AU 1 G)) 48 [(0, .ref (gB G + 0)), (1, .int x1), (2, .int x2), (4, .int x4), (5, .int x5)] [] M := by
  intro h
  unfold b_X12_holdsTo_48 at h
  refine z_iload 4 C d_X12_holdsTo_48 rfl ?_
  refine z_bipush (v := (12 : Int32)) C d_X12_holdsTo_50 (by decide) ?_
  refine z_icmp_ge C d_X12_holdsTo_52 (fun q1 => ?_) (fun q1 => ?_)
  · have h := o_t q1 h
    refine z_bipush (v := (12 : Int32)) C d_X12_holdsTo_105 (by decide) ?_
    obtain ⟨rfl, rfl⟩ := o_pair h
    exact z_iret C hlk hr d_X12_holdsTo_107
  · have h := o_f q1 h
    refine z_aload_n 0 C d_X12_holdsTo_55 rfl rfl ?_
    refine z_sipush (v := (630 : Int32)) C d_X12_holdsTo_56 (by decide) ?_
    refine z_iload_n 2 C d_X12_holdsTo_59 rfl rfl ?_
    refine z_iload 4 C d_X12_holdsTo_60 rfl ?_
    refine z_aload_n 0 C d_X12_holdsTo_62 rfl rfl ?_
    refine z_get (k := 0) (v := .ref (gB G + 1)) C (eY_0 _ _) (by decide) rfl inX12 (by decide) wf_X12_7 rfl d_X12_holdsTo_63 ?_
    refine z_sipush (v := (171 : Int32)) C d_X12_holdsTo_66 (by decide) ?_
    refine z_iload 4 C d_X12_holdsTo_69 rfl ?_
    refine z_iadd C d_X12_holdsTo_71 ?_
    obtain ⟨q2, h⟩ := o_ck h
    refine z_ald (eY_1 _ _) C (by decide) q2 d_X12_holdsTo_72 ?_
    refine z_iload 3 C d_X12_holdsTo_73 rfl ?_
    refine z_iload 4 C d_X12_holdsTo_75 rfl ?_
    refine z_ishr C d_X12_holdsTo_77 ?_
    refine z_iconst (v := (1 : Int32)) C d_X12_holdsTo_78 (by decide) ?_
    refine z_iand C d_X12_holdsTo_79 ?_
    refine z_iadd C d_X12_holdsTo_80 ?_
    obtain ⟨p4, e3, h⟩ := o_bd h
    refine z_V (S := []) (As := [.int (630 : Int32), .int x2, .int x5, .int ((M.1 1 ((171 : Int32) + x5).toNatClampNeg) + ((x4 >>> (x5 &&& 31)) &&& (1 : Int32)))]) C (c_X12_melting l G e3) (eY_0 _ _) (by decide) rfl wc_X12_melting wm_X12_239 ws_X12_melting wl_X12_melting wi_X12 hy_X12_melting ⟨Nat.le_of_ble_eq_true rfl, Nat.le_of_ble_eq_true rfl⟩ rfl rfl (Nat.le_of_ble_eq_true rfl) d_X12_holdsTo_81 ?_
    refine z_aload_n 0 C d_X12_holdsTo_84 rfl rfl ?_
    refine z_sipush (v := (630 : Int32)) C d_X12_holdsTo_85 (by decide) ?_
    refine z_iload_n 1 C d_X12_holdsTo_88 rfl rfl ?_
    refine z_iload_n 2 C d_X12_holdsTo_89 rfl rfl ?_
    obtain ⟨p6, e5, h⟩ := o_bd h
    refine z_V (S := []) (As := [.int (630 : Int32), .int x1, .int x2]) C (c_X12_counts l G e5) (eY_0 _ _) (by decide) rfl wc_X12_counts wm_X12_206 ws_X12_counts wl_X12_counts wi_X12 hy_X12_counts ⟨Nat.le_of_ble_eq_true rfl, Nat.le_of_ble_eq_true rfl⟩ rfl rfl (Nat.le_of_ble_eq_true rfl) d_X12_holdsTo_90 ?_
    refine z_if_ne C d_X12_holdsTo_93 (fun q7 => ?_) (fun q7 => ?_)
    · have h := o_f q7 h
      refine z_iinc (v := (1 : Int32)) (L' := [(5, .int (x5 + (1 : Int32))), (0, .ref (gB G + 0)), (1, .int x1), (2, .int x2), (4, .int x4)]) 4 C d_X12_holdsTo_99 rfl (by decide) (by decide) rfl ?_
      refine z_goto C d_X12_holdsTo_102 ?_
      exact z_sub [1, 2, 3, 4, 0] rfl (hk48 _ _  h)
    · have h := o_t q7 h
      refine z_iload 4 C d_X12_holdsTo_96 rfl ?_
      obtain ⟨rfl, rfl⟩ := o_pair h
      exact z_iret C hlk hr d_X12_holdsTo_98
theorem k_X12_holdsTo_48 {p : Program} {l : Launch} {e : Env} {s : State} {m : MethodId} {args : Array Value} {below : List Frame} {meth : Method} {c : Code} {G : GG} {x1 : Int32} {x2 : Int32} {x4 : Int32} {r : Int32} {M2 : Mm} (C : CX p s m args c prog_14_method_60_code 6 "SnowSentriesModel" 1 G) (hlk : meth.locks = false) (hr : meth.sig.returnType = (some .int)) : ∀ (n : Nat) (M : Mm) (x5 : Int32), f_X12_holdsTo_48 x1 x2 x4 n M x5 = some (r, M2) → Z p l e { frames := 3, cells := 0, slots := 0, locals := 82 } s m args below meth c 1 G 6 (MQ below (QC 1 G (some (.int r)) M2) args s 0 0 (AU 1 G)) 48 [(0, .ref (gB G + 0)), (1, .int x1), (2, .int x2), (4, .int x4), (5, .int x5)] [] M := by
  intro n
  induction n with
  | zero =>
    intro M x5  h
    exact absurd h (fun z => by cases z)
  | succ n ih =>
    intro M x5  h
    exact kb_X12_holdsTo_48 C hlk hr  (fun M x5 h => ih M x5 h) h
set_option maxRecDepth 4000 in
theorem k_X12_holdsTo_0 {p : Program} {l : Launch} {e : Env} {s : State} {m : MethodId} {args : Array Value} {below : List Frame} {meth : Method} {c : Code} {G : GG} {M : Mm} {x1 : Int32} {x2 : Int32} {x3 : Int32} {x4 : Int32} {r : Int32} {M2 : Mm} (C : CX p s m args c prog_14_method_60_code 6 "SnowSentriesModel" 1 G) (hlk : meth.locks = false) (hr : meth.sig.returnType = (some .int)) : f_X12_holdsTo M x1 x2 x3 x4 = some (r, M2) → Z p l e { frames := 3, cells := 0, slots := 0, locals := 82 } s m args below meth c 1 G 6 (MQ below (QC 1 G (some (.int r)) M2) args s 0 0 (AU 1 G)) 0 [(0, .ref (gB G + 0)), (1, .int x1), (2, .int x2), (3, .int x3), (4, .int x4)] [] M := by
  intro h
  unfold f_X12_holdsTo at h
  refine z_aload_n 0 C d_X12_holdsTo_0 rfl rfl ?_
  refine z_iconst (v := (0 : Int32)) C d_X12_holdsTo_1 (by decide) ?_
  refine z_sipush (v := (630 : Int32)) C d_X12_holdsTo_2 (by decide) ?_
  obtain ⟨p2, e1, h⟩ := o_bd h
  refine z_V (S := []) (As := [.int (0 : Int32), .int (630 : Int32)]) C (c_X12_copies l G e1) (eY_0 _ _) (by decide) rfl wc_X12_copies wm_X12_248 ws_X12_copies wl_X12_copies wi_X12 hy_X12_copies ⟨Nat.le_of_ble_eq_true rfl, Nat.le_of_ble_eq_true rfl⟩ rfl rfl (Nat.le_of_ble_eq_true rfl) d_X12_holdsTo_5 ?_
  refine z_aload_n 0 C d_X12_holdsTo_8 rfl rfl ?_
  refine z_get (k := 0) (v := .ref (gB G + 1)) C (eY_0 _ _) (by decide) rfl inX12 (by decide) wf_X12_7 rfl d_X12_holdsTo_9 ?_
  refine z_sipush (v := (630 : Int32)) C d_X12_holdsTo_12 (by decide) ?_
  refine z_iload_n 1 C d_X12_holdsTo_15 rfl rfl ?_
  refine z_iload_n 2 C d_X12_holdsTo_16 rfl rfl ?_
  obtain ⟨p4, e3, h⟩ := o_bd h
  refine z_S (S := [.int (630 : Int32), .ref (gB G + 1)]) (As := [.int x1, .int x2]) C (c_X12_manAt l G (M := p2) e3) wc_X12_manAt wm_X12_198 ws_X12_manAt wi_X12 hy_X12_manAt ⟨Nat.le_of_ble_eq_true rfl, Nat.le_of_ble_eq_true rfl⟩ rfl rfl (Nat.le_of_ble_eq_true rfl) d_X12_holdsTo_17 ?_
  refine z_iadd C d_X12_holdsTo_20 ?_
  refine z_iconst (v := (4 : Int32)) C d_X12_holdsTo_21 (by decide) ?_
  refine z_iadd C d_X12_holdsTo_22 ?_
  refine z_dup2 C d_X12_holdsTo_23 rfl rfl ?_
  obtain ⟨q5, h⟩ := o_ck h
  refine z_ald (eY_1 _ _) C (by decide) q5 d_X12_holdsTo_24 ?_
  refine z_iload_n 3 C d_X12_holdsTo_25 rfl rfl ?_
  refine z_iadd C d_X12_holdsTo_26 ?_
  obtain ⟨M6, e7, h⟩ := o_wr h
  refine z_ast (fun r q => eY_1 r q) C (by decide) q5 d_X12_holdsTo_27 ?_
  refine z_nM e7 ?_
  refine z_aload_n 0 C d_X12_holdsTo_28 rfl rfl ?_
  refine z_sipush (v := (630 : Int32)) C d_X12_holdsTo_29 (by decide) ?_
  refine z_iload_n 1 C d_X12_holdsTo_32 rfl rfl ?_
  refine z_iload_n 2 C d_X12_holdsTo_33 rfl rfl ?_
  obtain ⟨p9, e8, h⟩ := o_bd h
  refine z_V (S := []) (As := [.int (630 : Int32), .int x1, .int x2]) C (c_X12_counts l G e8) (eY_0 _ _) (by decide) rfl wc_X12_counts wm_X12_206 ws_X12_counts wl_X12_counts wi_X12 hy_X12_counts ⟨Nat.le_of_ble_eq_true rfl, Nat.le_of_ble_eq_true rfl⟩ rfl rfl (Nat.le_of_ble_eq_true rfl) d_X12_holdsTo_34 ?_
  refine z_if_ne C d_X12_holdsTo_37 (fun q10 => ?_) (fun q10 => ?_)
  · have h := o_f q10 h
    refine z_aload_n 0 C d_X12_holdsTo_42 rfl rfl ?_
    obtain ⟨p12, e11, h⟩ := o_bd h
    refine z_V (S := []) (As := []) C (c_X12_hourNow l G e11) (eY_0 _ _) (by decide) rfl wc_X12_hourNow wm_X12_185 ws_X12_hourNow wl_X12_hourNow wi_X12 hy_X12_hourNow ⟨Nat.le_of_ble_eq_true rfl, Nat.le_of_ble_eq_true rfl⟩ rfl rfl (Nat.le_of_ble_eq_true rfl) d_X12_holdsTo_43 ?_
    refine z_istore (L' := [(5, .int p12), (0, .ref (gB G + 0)), (1, .int x1), (2, .int x2), (3, .int x3), (4, .int x4)]) C d_X12_holdsTo_46 (by decide) rfl ?_
    exact z_sub [1, 2, 3, 5, 0] rfl (k_X12_holdsTo_48 C hlk hr _ _ _ h)
  · have h := o_t q10 h
    refine z_iconst (v := (-1 : Int32)) C d_X12_holdsTo_40 (by decide) ?_
    obtain ⟨rfl, rfl⟩ := o_pair h
    exact z_iret C hlk hr d_X12_holdsTo_41
theorem c_X12_holdsTo (l : Launch) (G : GG) {M : Mm} {x1 : Int32} {x2 : Int32} {x3 : Int32} {x4 : Int32} {r : Int32} {M2 : Mm} (h : f_X12_holdsTo M x1 x2 x3 x4 = some (r, M2)) : CT l 1 G y_X12_holdsTo prog_14_method_60_code 6 (some .int) 3 82 [.ref (gB G + 0), .int x1, .int x2, .int x3, .int x4] M (some (.int r)) M2 :=
  CT.of (by decide +kernel) (Nat.le_of_ble_eq_true rfl) rfl (fun p e s m args below meth c C hlk hr => k_X12_holdsTo_0 C hlk hr h)
-- SnowSentriesModel.holds(II)I
set_option maxRecDepth 4000 in
theorem k_X12_holds_15 {p : Program} {l : Launch} {e : Env} {s : State} {m : MethodId} {args : Array Value} {below : List Frame} {meth : Method} {c : Code} {G : GG} {M : Mm} {r : Int32} {M2 : Mm} (C : CX p s m args c prog_14_method_61_code 5 "SnowSentriesModel" 1 G) (hlk : meth.locks = false) (hr : meth.sig.returnType = (some .int)) : f_X12_holds_15 M = some (r, M2) → Z p l e { frames := 4, cells := 0, slots := 0, locals := 107 } s m args below meth c 1 G 5 (MQ below (QC 1 G (some (.int r)) M2) args s 0 0 (AU 1 G)) 15 [] [] M := by
  intro h
  unfold f_X12_holds_15 at h
  refine z_iconst (v := (-1 : Int32)) C d_X12_holds_15 (by decide) ?_
  obtain ⟨rfl, rfl⟩ := o_pair h
  exact z_iret C hlk hr d_X12_holds_16
set_option maxRecDepth 4000 in
theorem k_X12_holds_64 {p : Program} {l : Launch} {e : Env} {s : State} {m : MethodId} {args : Array Value} {below : List Frame} {meth : Method} {c : Code} {G : GG} {k22 : Mm → Int32 → Int32 → Option (Int32 × Mm)} {M : Mm} {x1 : Int32} {x2 : Int32} {x4 : Int32} {s_0 : Int32} {s_1 : Int32} {r : Int32} {M2 : Mm} (C : CX p s m args c prog_14_method_61_code 5 "SnowSentriesModel" 1 G) (hlk : meth.locks = false) (hr : meth.sig.returnType = (some .int)) (hk22 : ∀ (M : Mm) (x3 : Int32) (x4 : Int32), k22 M x3 x4 = some (r, M2) → Z p l e { frames := 4, cells := 0, slots := 0, locals := 107 } s m args below meth c 1 G 5 (MQ below (QC 1 G (some (.int r)) M2) args s 0 0 (AU 1 G)) 22 [(0, .ref (gB G + 0)), (1, .int x1), (2, .int x2), (3, .int x3), (4, .int x4)] [] M) : f_X12_holds_64 k22 M x1 x2 x4 s_0 s_1 = some (r, M2) → Z p l e { frames := 4, cells := 0, slots := 0, locals := 107 } s m args below meth c 1 G 5 (MQ below (QC 1 G (some (.int r)) M2) args s 0 0 (AU 1 G)) 64 [(0, .ref (gB G + 0)), (1, .int x1), (2, .int x2), (4, .int x4)] [.int s_1, .int s_0] M := by
  intro h
  unfold f_X12_holds_64 at h
  refine z_ior C d_X12_holds_64 ?_
  obtain ⟨v1, e2, h⟩ := o_nm h
  refine z_nI e2 ?_
  refine z_istore_n (L' := [(3, .int v1), (0, .ref (gB G + 0)), (1, .int x1), (2, .int x2), (4, .int x4)]) C d_X12_holds_65 rfl (by decide) rfl ?_
  refine z_iinc (v := (1 : Int32)) (L' := [(4, .int (x4 + (1 : Int32))), (3, .int v1), (0, .ref (gB G + 0)), (1, .int x1), (2, .int x2)]) 4 C d_X12_holds_66 rfl (by decide) (by decide) rfl ?_
  refine z_goto C d_X12_holds_69 ?_
  exact z_sub [2, 3, 4, 1, 0] rfl (hk22 _ _ _  h)
set_option maxRecDepth 4000 in
theorem k_X12_holds_63 {p : Program} {l : Launch} {e : Env} {s : State} {m : MethodId} {args : Array Value} {below : List Frame} {meth : Method} {c : Code} {G : GG} {k22 : Mm → Int32 → Int32 → Option (Int32 × Mm)} {M : Mm} {x1 : Int32} {x2 : Int32} {x4 : Int32} {s_0 : Int32} {r : Int32} {M2 : Mm} (C : CX p s m args c prog_14_method_61_code 5 "SnowSentriesModel" 1 G) (hlk : meth.locks = false) (hr : meth.sig.returnType = (some .int)) (hk22 : ∀ (M : Mm) (x3 : Int32) (x4 : Int32), k22 M x3 x4 = some (r, M2) → Z p l e { frames := 4, cells := 0, slots := 0, locals := 107 } s m args below meth c 1 G 5 (MQ below (QC 1 G (some (.int r)) M2) args s 0 0 (AU 1 G)) 22 [(0, .ref (gB G + 0)), (1, .int x1), (2, .int x2), (3, .int x3), (4, .int x4)] [] M) : f_X12_holds_63 k22 M x1 x2 x4 s_0 = some (r, M2) → Z p l e { frames := 4, cells := 0, slots := 0, locals := 107 } s m args below meth c 1 G 5 (MQ below (QC 1 G (some (.int r)) M2) args s 0 0 (AU 1 G)) 63 [(0, .ref (gB G + 0)), (1, .int x1), (2, .int x2), (4, .int x4)] [.int s_0] M := by
  intro h
  unfold f_X12_holds_63 at h
  refine z_iconst (v := (0 : Int32)) C d_X12_holds_63 (by decide) ?_
  exact z_sub [0, 1, 2, 3] rfl (k_X12_holds_64 C hlk hr hk22 h)
set_option maxRecDepth 4000 in
theorem kb_X12_holds_22 {p : Program} {l : Launch} {e : Env} {s : State} {m : MethodId} {args : Array Value} {below : List Frame} {meth : Method} {c : Code} {G : GG} {k22 : Mm → Int32 → Int32 → Option (Int32 × Mm)} {x1 : Int32} {x2 : Int32} {M : Mm} {x3 : Int32} {x4 : Int32} {r : Int32} {M2 : Mm} (C : CX p s m args c prog_14_method_61_code 5 "SnowSentriesModel" 1 G) (hlk : meth.locks = false) (hr : meth.sig.returnType = (some .int)) (hk22 : ∀ (M : Mm) (x3 : Int32) (x4 : Int32), k22 M x3 x4 = some (r, M2) → Z p l e { frames := 4, cells := 0, slots := 0, locals := 107 } s m args below meth c 1 G 5 (MQ below (QC 1 G (some (.int r)) M2) args s 0 0 (AU 1 G)) 22 [(0, .ref (gB G + 0)), (1, .int x1), (2, .int x2), (3, .int x3), (4, .int x4)] [] M) : b_X12_holds_22 k22 x1 x2 M x3 x4 = some (r, M2) → Z p l e { frames := 4, cells := 0, slots := 0, locals := 107 } s m args below meth c 1 G 5 (MQ below (QC 1 G (some (.int r)) M2) args s 0 0 (AU 1 G)) 22 [(0, .ref (gB G + 0)), (1, .int x1), (2, .int x2), (3, .int x3), (4, .int x4)] [] M := by
  intro h
  unfold b_X12_holds_22 at h
  refine z_iload 4 C d_X12_holds_22 rfl ?_
  refine z_aload_n 0 C d_X12_holds_24 rfl rfl ?_
  refine z_get (k := 1) (v := .int (M.1 0 1)) C (eY_0 _ _) (by decide) rfl inX12 (by decide) wf_X12_13 rfl d_X12_holds_25 ?_
  refine z_icmp_ge C d_X12_holds_28 (fun q1 => ?_) (fun q1 => ?_)
  · have h := o_t q1 h
    refine z_iload_n 3 C d_X12_holds_72 rfl rfl ?_
    obtain ⟨rfl, rfl⟩ := o_pair h
    exact z_iret C hlk hr d_X12_holds_73
  · have h := o_f q1 h
    refine z_iload_n 3 C d_X12_holds_31 rfl rfl ?_
    refine z_aload_n 0 C d_X12_holds_32 rfl rfl ?_
    refine z_iconst (v := (0 : Int32)) C d_X12_holds_33 (by decide) ?_
    refine z_iload_n 1 C d_X12_holds_34 rfl rfl ?_
    refine z_iload 4 C d_X12_holds_35 rfl ?_
    obtain ⟨p3, e2, h⟩ := o_bd h
    refine z_V (S := [.int x3]) (As := [.int (0 : Int32), .int x1, .int x4]) C (c_X12_isThere l G e2) (eY_0 _ _) (by decide) rfl wc_X12_isThere wm_X12_215 ws_X12_isThere wl_X12_isThere wi_X12 hy_X12_isThere ⟨Nat.le_of_ble_eq_true rfl, Nat.le_of_ble_eq_true rfl⟩ rfl rfl (Nat.le_of_ble_eq_true rfl) d_X12_holds_37 ?_
    refine z_if_eq C d_X12_holds_40 (fun q4 => ?_) (fun q4 => ?_)
    · have h := o_t q4 h
      exact z_sub [0, 1, 2, 4] rfl (k_X12_holds_63 C hlk hr hk22 h)
    · have h := o_f q4 h
      refine z_aload_n 0 C d_X12_holds_43 rfl rfl ?_
      refine z_iload_n 1 C d_X12_holds_44 rfl rfl ?_
      refine z_iload 4 C d_X12_holds_45 rfl ?_
      refine z_iconst (v := (0 : Int32)) C d_X12_holds_47 (by decide) ?_
      refine z_iconst (v := (0 : Int32)) C d_X12_holds_48 (by decide) ?_
      obtain ⟨p6, e5, h⟩ := o_bd h
      refine z_V (S := [.int x3]) (As := [.int x1, .int x4, .int (0 : Int32), .int (0 : Int32)]) C (c_X12_holdsTo l G e5) (eY_0 _ _) (by decide) rfl wc_X12_holdsTo wm_X12_257 ws_X12_holdsTo wl_X12_holdsTo wi_X12 hy_X12_holdsTo ⟨Nat.le_of_ble_eq_true rfl, Nat.le_of_ble_eq_true rfl⟩ rfl rfl (Nat.le_of_ble_eq_true rfl) d_X12_holds_49 ?_
      refine z_iload_n 2 C d_X12_holds_52 rfl rfl ?_
      refine z_icmp_lt C d_X12_holds_53 (fun q7 => ?_) (fun q7 => ?_)
      · have h := o_t q7 h
        exact z_sub [0, 1, 2, 4] rfl (k_X12_holds_63 C hlk hr hk22 h)
      · have h := o_f q7 h
        refine z_iconst (v := (1 : Int32)) C d_X12_holds_56 (by decide) ?_
        refine z_iload 4 C d_X12_holds_57 rfl ?_
        refine z_ishl C d_X12_holds_59 ?_
        refine z_goto C d_X12_holds_60 ?_
        exact z_sub [0, 1, 2, 4] rfl (k_X12_holds_64 C hlk hr hk22 h)
theorem k_X12_holds_22 {p : Program} {l : Launch} {e : Env} {s : State} {m : MethodId} {args : Array Value} {below : List Frame} {meth : Method} {c : Code} {G : GG} {x1 : Int32} {x2 : Int32} {r : Int32} {M2 : Mm} (C : CX p s m args c prog_14_method_61_code 5 "SnowSentriesModel" 1 G) (hlk : meth.locks = false) (hr : meth.sig.returnType = (some .int)) : ∀ (n : Nat) (M : Mm) (x3 : Int32) (x4 : Int32), f_X12_holds_22 x1 x2 n M x3 x4 = some (r, M2) → Z p l e { frames := 4, cells := 0, slots := 0, locals := 107 } s m args below meth c 1 G 5 (MQ below (QC 1 G (some (.int r)) M2) args s 0 0 (AU 1 G)) 22 [(0, .ref (gB G + 0)), (1, .int x1), (2, .int x2), (3, .int x3), (4, .int x4)] [] M := by
  intro n
  induction n with
  | zero =>
    intro M x3 x4  h
    exact absurd h (fun z => by cases z)
  | succ n ih =>
    intro M x3 x4  h
    exact kb_X12_holds_22 C hlk hr  (fun M x3 x4 h => ih M x3 x4 h) h
set_option maxRecDepth 4000 in
theorem k_X12_holds_0 {p : Program} {l : Launch} {e : Env} {s : State} {m : MethodId} {args : Array Value} {below : List Frame} {meth : Method} {c : Code} {G : GG} {M : Mm} {x1 : Int32} {x2 : Int32} {r : Int32} {M2 : Mm} (C : CX p s m args c prog_14_method_61_code 5 "SnowSentriesModel" 1 G) (hlk : meth.locks = false) (hr : meth.sig.returnType = (some .int)) : f_X12_holds M x1 x2 = some (r, M2) → Z p l e { frames := 4, cells := 0, slots := 0, locals := 107 } s m args below meth c 1 G 5 (MQ below (QC 1 G (some (.int r)) M2) args s 0 0 (AU 1 G)) 0 [(0, .ref (gB G + 0)), (1, .int x1), (2, .int x2)] [] M := by
  intro h
  unfold f_X12_holds at h
  refine z_iload_n 1 C d_X12_holds_0 rfl rfl ?_
  obtain ⟨p2, e1, h⟩ := o_bd h
  refine z_S (S := []) (As := [.int x1]) C (c_X12_isSide l G (M := M) e1) wc_X12_isSide wm_X12_210 ws_X12_isSide wi_X12 hy_X12_isSide ⟨Nat.le_of_ble_eq_true rfl, Nat.le_of_ble_eq_true rfl⟩ rfl rfl (Nat.le_of_ble_eq_true rfl) d_X12_holds_1 ?_
  refine z_if_eq C d_X12_holds_4 (fun q3 => ?_) (fun q3 => ?_)
  · have h := o_t q3 h
    exact z_sub [] rfl (k_X12_holds_15 C hlk hr h)
  · have h := o_f q3 h
    refine z_aload_n 0 C d_X12_holds_7 rfl rfl ?_
    refine z_iload_n 2 C d_X12_holds_8 rfl rfl ?_
    obtain ⟨p5, e4, h⟩ := o_bd h
    refine z_V (S := []) (As := [.int x2]) C (c_X12_isAhead l G e4) (eY_0 _ _) (by decide) rfl wc_X12_isAhead wm_X12_251 ws_X12_isAhead wl_X12_isAhead wi_X12 hy_X12_isAhead ⟨Nat.le_of_ble_eq_true rfl, Nat.le_of_ble_eq_true rfl⟩ rfl rfl (Nat.le_of_ble_eq_true rfl) d_X12_holds_9 ?_
    refine z_if_ne C d_X12_holds_12 (fun q6 => ?_) (fun q6 => ?_)
    · have h := o_f q6 h
      refine z_iconst (v := (0 : Int32)) C d_X12_holds_17 (by decide) ?_
      refine z_istore_n (L' := [(3, .int (0 : Int32)), (0, .ref (gB G + 0)), (1, .int x1), (2, .int x2)]) C d_X12_holds_18 rfl (by decide) rfl ?_
      refine z_iconst (v := (0 : Int32)) C d_X12_holds_19 (by decide) ?_
      refine z_istore (L' := [(4, .int (0 : Int32)), (3, .int (0 : Int32)), (0, .ref (gB G + 0)), (1, .int x1), (2, .int x2)]) C d_X12_holds_20 (by decide) rfl ?_
      exact z_sub [2, 3, 4, 1, 0] rfl (k_X12_holds_22 C hlk hr _ _ _ _ h)
    · have h := o_t q6 h
      exact z_sub [] rfl (k_X12_holds_15 C hlk hr h)
theorem c_X12_holds (l : Launch) (G : GG) {M : Mm} {x1 : Int32} {x2 : Int32} {r : Int32} {M2 : Mm} (h : f_X12_holds M x1 x2 = some (r, M2)) : CT l 1 G y_X12_holds prog_14_method_61_code 5 (some .int) 4 107 [.ref (gB G + 0), .int x1, .int x2] M (some (.int r)) M2 :=
  CT.of (by decide +kernel) (Nat.le_of_ble_eq_true rfl) rfl (fun p e s m args below meth c C hlk hr => k_X12_holds_0 C hlk hr h)
-- SnowSentriesModel.needOf(III)I
set_option maxRecDepth 4000 in
theorem kb_X12_needOf_30 {p : Program} {l : Launch} {e : Env} {s : State} {m : MethodId} {args : Array Value} {below : List Frame} {meth : Method} {c : Code} {G : GG} {k30 : Mm → Int32 → Option (Int32 × Mm)} {x1 : Int32} {x2 : Int32} {x3 : Int32} {x4 : Int32} {M : Mm} {x5 : Int32} {r : Int32} {M2 : Mm} (C : CX p s m args c prog_14_method_62_code 6 "SnowSentriesModel" 1 G) (hlk : meth.locks = false) (hr : meth.sig.returnType = (some .int)) (hk30 : ∀ (M : Mm) (x5 : Int32), k30 M x5 = some (r, M2) → Z p l e { frames := 4, cells := 0, slots := 0, locals := 107 } s m args below meth c 1 G 6 (MQ below (QC 1 G (some (.int r)) M2) args s 0 0 (AU 1 G)) 30 [(0, .ref (gB G + 0)), (1, .int x1), (2, .int x2), (3, .int x3), (4, .int x4), (5, .int x5)] [] M) : b_X12_needOf_30 k30 x1 x2 x3 x4 M x5 = some (r, M2) → Z p l e { frames := 4, cells := 0, slots := 0, locals := 107 } s m args below meth c 1 G 6 (MQ below (QC 1 G (some (.int r)) M2) args s 0 0 (AU 1 G)) 30 [(0, .ref (gB G + 0)), (1, .int x1), (2, .int x2), (3, .int x3), (4, .int x4), (5, .int x5)] [] M := by
  intro h
  unfold b_X12_needOf_30 at h
  refine z_iload 4 C d_X12_needOf_30 rfl ?_
  refine z_iload 5 C d_X12_needOf_32 rfl ?_
  refine z_iadd C d_X12_needOf_34 ?_
  refine z_bipush (v := (99 : Int32)) C d_X12_needOf_35 (by decide) ?_
  refine z_icmp_gt C d_X12_needOf_37 (fun q1 => ?_) (fun q1 => ?_)
  · have h := o_t q1 h
    refine z_bipush (v := (-4 : Int32)) C d_X12_needOf_62 (by decide) ?_
    obtain ⟨rfl, rfl⟩ := o_pair h
    exact z_iret C hlk hr d_X12_needOf_64
  · have h := o_f q1 h
    refine z_aload_n 0 C d_X12_needOf_40 rfl rfl ?_
    refine z_iload_n 1 C d_X12_needOf_41 rfl rfl ?_
    refine z_iload_n 2 C d_X12_needOf_42 rfl rfl ?_
    refine z_iload 5 C d_X12_needOf_43 rfl ?_
    refine z_iconst (v := (0 : Int32)) C d_X12_needOf_45 (by decide) ?_
    obtain ⟨p3, e2, h⟩ := o_bd h
    refine z_V (S := []) (As := [.int x1, .int x2, .int x5, .int (0 : Int32)]) C (c_X12_holdsTo l G e2) (eY_0 _ _) (by decide) rfl wc_X12_holdsTo wm_X12_257 ws_X12_holdsTo wl_X12_holdsTo wi_X12 hy_X12_holdsTo ⟨Nat.le_of_ble_eq_true rfl, Nat.le_of_ble_eq_true rfl⟩ rfl rfl (Nat.le_of_ble_eq_true rfl) d_X12_needOf_46 ?_
    refine z_iload_n 3 C d_X12_needOf_49 rfl rfl ?_
    refine z_icmp_lt C d_X12_needOf_50 (fun q4 => ?_) (fun q4 => ?_)
    · have h := o_t q4 h
      refine z_iinc (v := (1 : Int32)) (L' := [(5, .int (x5 + (1 : Int32))), (0, .ref (gB G + 0)), (1, .int x1), (2, .int x2), (3, .int x3), (4, .int x4)]) 5 C d_X12_needOf_56 rfl (by decide) (by decide) rfl ?_
      refine z_goto C d_X12_needOf_59 ?_
      exact z_sub [1, 2, 3, 4, 5, 0] rfl (hk30 _ _  h)
    · have h := o_f q4 h
      refine z_iload 5 C d_X12_needOf_53 rfl ?_
      obtain ⟨rfl, rfl⟩ := o_pair h
      exact z_iret C hlk hr d_X12_needOf_55
theorem k_X12_needOf_30 {p : Program} {l : Launch} {e : Env} {s : State} {m : MethodId} {args : Array Value} {below : List Frame} {meth : Method} {c : Code} {G : GG} {x1 : Int32} {x2 : Int32} {x3 : Int32} {x4 : Int32} {r : Int32} {M2 : Mm} (C : CX p s m args c prog_14_method_62_code 6 "SnowSentriesModel" 1 G) (hlk : meth.locks = false) (hr : meth.sig.returnType = (some .int)) : ∀ (n : Nat) (M : Mm) (x5 : Int32), f_X12_needOf_30 x1 x2 x3 x4 n M x5 = some (r, M2) → Z p l e { frames := 4, cells := 0, slots := 0, locals := 107 } s m args below meth c 1 G 6 (MQ below (QC 1 G (some (.int r)) M2) args s 0 0 (AU 1 G)) 30 [(0, .ref (gB G + 0)), (1, .int x1), (2, .int x2), (3, .int x3), (4, .int x4), (5, .int x5)] [] M := by
  intro n
  induction n with
  | zero =>
    intro M x5  h
    exact absurd h (fun z => by cases z)
  | succ n ih =>
    intro M x5  h
    exact kb_X12_needOf_30 C hlk hr  (fun M x5 h => ih M x5 h) h
set_option maxRecDepth 4000 in
theorem k_X12_needOf_0 {p : Program} {l : Launch} {e : Env} {s : State} {m : MethodId} {args : Array Value} {below : List Frame} {meth : Method} {c : Code} {G : GG} {M : Mm} {x1 : Int32} {x2 : Int32} {x3 : Int32} {r : Int32} {M2 : Mm} (C : CX p s m args c prog_14_method_62_code 6 "SnowSentriesModel" 1 G) (hlk : meth.locks = false) (hr : meth.sig.returnType = (some .int)) : f_X12_needOf M x1 x2 x3 = some (r, M2) → Z p l e { frames := 4, cells := 0, slots := 0, locals := 107 } s m args below meth c 1 G 6 (MQ below (QC 1 G (some (.int r)) M2) args s 0 0 (AU 1 G)) 0 [(0, .ref (gB G + 0)), (1, .int x1), (2, .int x2), (3, .int x3)] [] M := by
  intro h
  unfold f_X12_needOf at h
  refine z_aload_n 0 C d_X12_needOf_0 rfl rfl ?_
  refine z_iconst (v := (0 : Int32)) C d_X12_needOf_1 (by decide) ?_
  refine z_iload_n 1 C d_X12_needOf_2 rfl rfl ?_
  refine z_iload_n 2 C d_X12_needOf_3 rfl rfl ?_
  obtain ⟨p2, e1, h⟩ := o_bd h
  refine z_V (S := []) (As := [.int (0 : Int32), .int x1, .int x2]) C (c_X12_isThere l G e1) (eY_0 _ _) (by decide) rfl wc_X12_isThere wm_X12_215 ws_X12_isThere wl_X12_isThere wi_X12 hy_X12_isThere ⟨Nat.le_of_ble_eq_true rfl, Nat.le_of_ble_eq_true rfl⟩ rfl rfl (Nat.le_of_ble_eq_true rfl) d_X12_needOf_4 ?_
  refine z_if_ne C d_X12_needOf_7 (fun q3 => ?_) (fun q3 => ?_)
  · have h := o_f q3 h
    refine z_aload_n 0 C d_X12_needOf_13 rfl rfl ?_
    refine z_get (k := 0) (v := .ref (gB G + 1)) C (eY_0 _ _) (by decide) rfl inX12 (by decide) wf_X12_7 rfl d_X12_needOf_14 ?_
    refine z_iload_n 1 C d_X12_needOf_17 rfl rfl ?_
    refine z_iload_n 2 C d_X12_needOf_18 rfl rfl ?_
    obtain ⟨p5, e4, h⟩ := o_bd h
    refine z_S (S := [.ref (gB G + 1)]) (As := [.int x1, .int x2]) C (c_X12_manAt l G (M := M) e4) wc_X12_manAt wm_X12_198 ws_X12_manAt wi_X12 hy_X12_manAt ⟨Nat.le_of_ble_eq_true rfl, Nat.le_of_ble_eq_true rfl⟩ rfl rfl (Nat.le_of_ble_eq_true rfl) d_X12_needOf_19 ?_
    refine z_iconst (v := (4 : Int32)) C d_X12_needOf_22 (by decide) ?_
    refine z_iadd C d_X12_needOf_23 ?_
    obtain ⟨q6, h⟩ := o_ck h
    refine z_ald (eY_1 _ _) C (by decide) q6 d_X12_needOf_24 ?_
    obtain ⟨v7, e8, h⟩ := o_nm h
    refine z_nI e8 ?_
    refine z_istore (L' := [(4, .int v7), (0, .ref (gB G + 0)), (1, .int x1), (2, .int x2), (3, .int x3)]) C d_X12_needOf_25 (by decide) rfl ?_
    refine z_iconst (v := (0 : Int32)) C d_X12_needOf_27 (by decide) ?_
    refine z_istore (L' := [(5, .int (0 : Int32)), (4, .int v7), (0, .ref (gB G + 0)), (1, .int x1), (2, .int x2), (3, .int x3)]) C d_X12_needOf_28 (by decide) rfl ?_
    exact z_sub [2, 3, 4, 5, 1, 0] rfl (k_X12_needOf_30 C hlk hr _ _ _ h)
  · have h := o_t q3 h
    refine z_bipush (v := (-4 : Int32)) C d_X12_needOf_10 (by decide) ?_
    obtain ⟨rfl, rfl⟩ := o_pair h
    exact z_iret C hlk hr d_X12_needOf_12
theorem c_X12_needOf (l : Launch) (G : GG) {M : Mm} {x1 : Int32} {x2 : Int32} {x3 : Int32} {r : Int32} {M2 : Mm} (h : f_X12_needOf M x1 x2 x3 = some (r, M2)) : CT l 1 G y_X12_needOf prog_14_method_62_code 6 (some .int) 4 107 [.ref (gB G + 0), .int x1, .int x2, .int x3] M (some (.int r)) M2 :=
  CT.of (by decide +kernel) (Nat.le_of_ble_eq_true rfl) rfl (fun p e s m args below meth c C hlk hr => k_X12_needOf_0 C hlk hr h)
-- SnowSentriesModel.need(III)I
set_option maxRecDepth 4000 in
theorem k_X12_need_34 {p : Program} {l : Launch} {e : Env} {s : State} {m : MethodId} {args : Array Value} {below : List Frame} {meth : Method} {c : Code} {G : GG} {M : Mm} {s_0 : Int32} {r : Int32} {M2 : Mm} (C : CX p s m args c prog_14_method_63_code 4 "SnowSentriesModel" 1 G) (hlk : meth.locks = false) (hr : meth.sig.returnType = (some .int)) : f_X12_need_34 M s_0 = some (r, M2) → Z p l e { frames := 5, cells := 0, slots := 0, locals := 132 } s m args below meth c 1 G 4 (MQ below (QC 1 G (some (.int r)) M2) args s 0 0 (AU 1 G)) 34 [] [.int s_0] M := by
  intro h
  unfold f_X12_need_34 at h
  obtain ⟨rfl, rfl⟩ := o_pair h
  exact z_iret C hlk hr d_X12_need_34
set_option maxRecDepth 4000 in
theorem k_X12_need_33 {p : Program} {l : Launch} {e : Env} {s : State} {m : MethodId} {args : Array Value} {below : List Frame} {meth : Method} {c : Code} {G : GG} {M : Mm} {r : Int32} {M2 : Mm} (C : CX p s m args c prog_14_method_63_code 4 "SnowSentriesModel" 1 G) (hlk : meth.locks = false) (hr : meth.sig.returnType = (some .int)) : f_X12_need_33 M = some (r, M2) → Z p l e { frames := 5, cells := 0, slots := 0, locals := 132 } s m args below meth c 1 G 4 (MQ below (QC 1 G (some (.int r)) M2) args s 0 0 (AU 1 G)) 33 [] [] M := by
  intro h
  unfold f_X12_need_33 at h
  refine z_iconst (v := (-1 : Int32)) C d_X12_need_33 (by decide) ?_
  exact z_sub [] rfl (k_X12_need_34 C hlk hr h)
set_option maxRecDepth 4000 in
theorem k_X12_need_0 {p : Program} {l : Launch} {e : Env} {s : State} {m : MethodId} {args : Array Value} {below : List Frame} {meth : Method} {c : Code} {G : GG} {M : Mm} {x1 : Int32} {x2 : Int32} {x3 : Int32} {r : Int32} {M2 : Mm} (C : CX p s m args c prog_14_method_63_code 4 "SnowSentriesModel" 1 G) (hlk : meth.locks = false) (hr : meth.sig.returnType = (some .int)) : f_X12_need M x1 x2 x3 = some (r, M2) → Z p l e { frames := 5, cells := 0, slots := 0, locals := 132 } s m args below meth c 1 G 4 (MQ below (QC 1 G (some (.int r)) M2) args s 0 0 (AU 1 G)) 0 [(0, .ref (gB G + 0)), (1, .int x1), (2, .int x2), (3, .int x3)] [] M := by
  intro h
  unfold f_X12_need at h
  refine z_iload_n 1 C d_X12_need_0 rfl rfl ?_
  obtain ⟨p2, e1, h⟩ := o_bd h
  refine z_S (S := []) (As := [.int x1]) C (c_X12_isSide l G (M := M) e1) wc_X12_isSide wm_X12_210 ws_X12_isSide wi_X12 hy_X12_isSide ⟨Nat.le_of_ble_eq_true rfl, Nat.le_of_ble_eq_true rfl⟩ rfl rfl (Nat.le_of_ble_eq_true rfl) d_X12_need_1 ?_
  refine z_if_eq C d_X12_need_4 (fun q3 => ?_) (fun q3 => ?_)
  · have h := o_t q3 h
    exact z_sub [] rfl (k_X12_need_33 C hlk hr h)
  · have h := o_f q3 h
    refine z_aload_n 0 C d_X12_need_7 rfl rfl ?_
    refine z_iload_n 2 C d_X12_need_8 rfl rfl ?_
    obtain ⟨p5, e4, h⟩ := o_bd h
    refine z_V (S := []) (As := [.int x2]) C (c_X12_isFurlong l G e4) (eY_0 _ _) (by decide) rfl wc_X12_isFurlong wm_X12_201 ws_X12_isFurlong wl_X12_isFurlong wi_X12 hy_X12_isFurlong ⟨Nat.le_of_ble_eq_true rfl, Nat.le_of_ble_eq_true rfl⟩ rfl rfl (Nat.le_of_ble_eq_true rfl) d_X12_need_9 ?_
    refine z_if_eq C d_X12_need_12 (fun q6 => ?_) (fun q6 => ?_)
    · have h := o_t q6 h
      exact z_sub [] rfl (k_X12_need_33 C hlk hr h)
    · have h := o_f q6 h
      refine z_aload_n 0 C d_X12_need_15 rfl rfl ?_
      refine z_iload_n 3 C d_X12_need_16 rfl rfl ?_
      obtain ⟨p8, e7, h⟩ := o_bd h
      refine z_V (S := []) (As := [.int x3]) C (c_X12_isAhead l G e7) (eY_0 _ _) (by decide) rfl wc_X12_isAhead wm_X12_251 ws_X12_isAhead wl_X12_isAhead wi_X12 hy_X12_isAhead ⟨Nat.le_of_ble_eq_true rfl, Nat.le_of_ble_eq_true rfl⟩ rfl rfl (Nat.le_of_ble_eq_true rfl) d_X12_need_17 ?_
      refine z_if_eq C d_X12_need_20 (fun q9 => ?_) (fun q9 => ?_)
      · have h := o_t q9 h
        exact z_sub [] rfl (k_X12_need_33 C hlk hr h)
      · have h := o_f q9 h
        refine z_aload_n 0 C d_X12_need_23 rfl rfl ?_
        refine z_iload_n 1 C d_X12_need_24 rfl rfl ?_
        refine z_iload_n 2 C d_X12_need_25 rfl rfl ?_
        refine z_iload_n 3 C d_X12_need_26 rfl rfl ?_
        obtain ⟨p11, e10, h⟩ := o_bd h
        refine z_V (S := []) (As := [.int x1, .int x2, .int x3]) C (c_X12_needOf l G e10) (eY_0 _ _) (by decide) rfl wc_X12_needOf wm_X12_261 ws_X12_needOf wl_X12_needOf wi_X12 hy_X12_needOf ⟨Nat.le_of_ble_eq_true rfl, Nat.le_of_ble_eq_true rfl⟩ rfl rfl (Nat.le_of_ble_eq_true rfl) d_X12_need_27 ?_
        refine z_goto C d_X12_need_30 ?_
        exact z_sub [] rfl (k_X12_need_34 C hlk hr h)
theorem c_X12_need (l : Launch) (G : GG) {M : Mm} {x1 : Int32} {x2 : Int32} {x3 : Int32} {r : Int32} {M2 : Mm} (h : f_X12_need M x1 x2 x3 = some (r, M2)) : CT l 1 G y_X12_need prog_14_method_63_code 4 (some .int) 5 132 [.ref (gB G + 0), .int x1, .int x2, .int x3] M (some (.int r)) M2 :=
  CT.of (by decide +kernel) (Nat.le_of_ble_eq_true rfl) rfl (fun p e s m args below meth c C hlk hr => k_X12_need_0 C hlk hr h)
-- SnowSentriesModel.bitsOf(I)I
set_option maxRecDepth 4000 in
theorem kb_X12_bitsOf_4 {p : Program} {l : Launch} {e : Env} {s : State} {m : MethodId} {args : Array Value} {below : List Frame} {meth : Method} {c : Code} {G : GG} {k4 : Int32 → Int32 → Option Int32} {x0 : Int32} {x1 : Int32} {x2 : Int32} {M : Mm}  {r : Int32} (C : CX p s m args c prog_14_method_64_code 3 "SnowSentriesModel" 1 G) (hlk : meth.locks = false) (hr : meth.sig.returnType = (some .int)) (hk4 : ∀ (x1 : Int32) (x2 : Int32), k4 x1 x2 = some r → Z p l e { frames := 0, cells := 0, slots := 0, locals := 0 } s m args below meth c 1 G 3 (MQ below (QC 1 G (some (.int r)) M) args s 0 0 (AU 1 G)) 4 [(0, .int x0), (1, .int x1), (2, .int x2)] [] M) : b_X12_bitsOf_4 k4 x0 x1 x2 = some r → Z p l e { frames := 0, cells := 0, slots := 0, locals := 0 } s m args below meth c 1 G 3 (MQ below (QC 1 G (some (.int r)) M) args s 0 0 (AU 1 G)) 4 [(0, .int x0), (1, .int x1), (2, .int x2)] [] M := by
  intro h
  unfold b_X12_bitsOf_4 at h
  refine z_iload_n 2 C d_X12_bitsOf_4 rfl rfl ?_
  refine z_bipush (v := (10 : Int32)) C d_X12_bitsOf_5 (by decide) ?_
  refine z_icmp_ge C d_X12_bitsOf_7 (fun q1 => ?_) (fun q1 => ?_)
  · have h := o_t q1 h
    refine z_iload_n 1 C d_X12_bitsOf_24 rfl rfl ?_
    obtain rfl := o_some h
    exact z_iret C hlk hr d_X12_bitsOf_25
  · have h := o_f q1 h
    refine z_iload_n 1 C d_X12_bitsOf_10 rfl rfl ?_
    refine z_iload_n 0 C d_X12_bitsOf_11 rfl rfl ?_
    refine z_iload_n 2 C d_X12_bitsOf_12 rfl rfl ?_
    refine z_ishr C d_X12_bitsOf_13 ?_
    refine z_iconst (v := (1 : Int32)) C d_X12_bitsOf_14 (by decide) ?_
    refine z_iand C d_X12_bitsOf_15 ?_
    refine z_iadd C d_X12_bitsOf_16 ?_
    obtain ⟨v2, e3, h⟩ := o_nm h
    refine z_nI e3 ?_
    refine z_istore_n (L' := [(1, .int v2), (0, .int x0), (2, .int x2)]) C d_X12_bitsOf_17 rfl (by decide) rfl ?_
    refine z_iinc (v := (1 : Int32)) (L' := [(2, .int (x2 + (1 : Int32))), (1, .int v2), (0, .int x0)]) 2 C d_X12_bitsOf_18 rfl (by decide) (by decide) rfl ?_
    refine z_goto C d_X12_bitsOf_21 ?_
    exact z_sub [2, 1, 0] rfl (hk4 _ _  h)
theorem k_X12_bitsOf_4 {p : Program} {l : Launch} {e : Env} {s : State} {m : MethodId} {args : Array Value} {below : List Frame} {meth : Method} {c : Code} {G : GG} {x0 : Int32} {M : Mm}  {r : Int32} (C : CX p s m args c prog_14_method_64_code 3 "SnowSentriesModel" 1 G) (hlk : meth.locks = false) (hr : meth.sig.returnType = (some .int)) : ∀ (n : Nat) (x1 : Int32) (x2 : Int32), f_X12_bitsOf_4 x0 n x1 x2 = some r → Z p l e { frames := 0, cells := 0, slots := 0, locals := 0 } s m args below meth c 1 G 3 (MQ below (QC 1 G (some (.int r)) M) args s 0 0 (AU 1 G)) 4 [(0, .int x0), (1, .int x1), (2, .int x2)] [] M := by
  intro n
  induction n with
  | zero =>
    intro x1 x2  h
    exact absurd h (fun z => by cases z)
  | succ n ih =>
    intro x1 x2  h
    exact kb_X12_bitsOf_4 C hlk hr  (fun x1 x2 h => ih x1 x2 h) h
set_option maxRecDepth 4000 in
theorem k_X12_bitsOf_0 {p : Program} {l : Launch} {e : Env} {s : State} {m : MethodId} {args : Array Value} {below : List Frame} {meth : Method} {c : Code} {G : GG} {x0 : Int32} {M : Mm}  {r : Int32} (C : CX p s m args c prog_14_method_64_code 3 "SnowSentriesModel" 1 G) (hlk : meth.locks = false) (hr : meth.sig.returnType = (some .int)) : f_X12_bitsOf x0 = some r → Z p l e { frames := 0, cells := 0, slots := 0, locals := 0 } s m args below meth c 1 G 3 (MQ below (QC 1 G (some (.int r)) M) args s 0 0 (AU 1 G)) 0 [(0, .int x0)] [] M := by
  intro h
  unfold f_X12_bitsOf at h
  refine z_iconst (v := (0 : Int32)) C d_X12_bitsOf_0 (by decide) ?_
  refine z_istore_n (L' := [(1, .int (0 : Int32)), (0, .int x0)]) C d_X12_bitsOf_1 rfl (by decide) rfl ?_
  refine z_iconst (v := (0 : Int32)) C d_X12_bitsOf_2 (by decide) ?_
  refine z_istore_n (L' := [(2, .int (0 : Int32)), (1, .int (0 : Int32)), (0, .int x0)]) C d_X12_bitsOf_3 rfl (by decide) rfl ?_
  exact z_sub [2, 1, 0] rfl (k_X12_bitsOf_4 C hlk hr _ _ _ h)
theorem c_X12_bitsOf (l : Launch) (G : GG) {x0 : Int32} {M : Mm} {r : Int32} (h : f_X12_bitsOf x0 = some r) : CT l 1 G y_X12_bitsOf prog_14_method_64_code 3 (some .int) 0 0 [.int x0] M (some (.int r)) M :=
  CT.of (by decide +kernel) (Nat.le_of_ble_eq_true rfl) rfl (fun p e s m args below meth c C hlk hr => k_X12_bitsOf_0 C hlk hr h)
-- SnowSentriesModel.crews(IIII)I
set_option maxRecDepth 4000 in
theorem k_X12_crews_40 {p : Program} {l : Launch} {e : Env} {s : State} {m : MethodId} {args : Array Value} {below : List Frame} {meth : Method} {c : Code} {G : GG} {M : Mm} {r : Int32} {M2 : Mm} (C : CX p s m args c prog_14_method_65_code 13 "SnowSentriesModel" 1 G) (hlk : meth.locks = false) (hr : meth.sig.returnType = (some .int)) : f_X12_crews_40 M = some (r, M2) → Z p l e { frames := 5, cells := 0, slots := 0, locals := 132 } s m args below meth c 1 G 13 (MQ below (QC 1 G (some (.int r)) M2) args s 0 0 (AU 1 G)) 40 [] [] M := by
  intro h
  unfold f_X12_crews_40 at h
  refine z_iconst (v := (-1 : Int32)) C d_X12_crews_40 (by decide) ?_
  obtain ⟨rfl, rfl⟩ := o_pair h
  exact z_iret C hlk hr d_X12_crews_41
set_option maxRecDepth 4000 in
theorem k_X12_crews_136 {p : Program} {l : Launch} {e : Env} {s : State} {m : MethodId} {args : Array Value} {below : List Frame} {meth : Method} {c : Code} {G : GG} {k51 : Mm → Int32 → Int32 → Int32 → Option (Int32 × Mm)} {M : Mm} {x1 : Int32} {x2 : Int32} {x3 : Int32} {x4 : Int32} {x5 : Int32} {x7 : Int32} {s_0 : Int32} {s_1 : Int32} {r : Int32} {M2 : Mm} (C : CX p s m args c prog_14_method_65_code 13 "SnowSentriesModel" 1 G) (hlk : meth.locks = false) (hr : meth.sig.returnType = (some .int)) (hk51 : ∀ (M : Mm) (x5 : Int32) (x6 : Int32) (x7 : Int32), k51 M x5 x6 x7 = some (r, M2) → Z p l e { frames := 5, cells := 0, slots := 0, locals := 132 } s m args below meth c 1 G 13 (MQ below (QC 1 G (some (.int r)) M2) args s 0 0 (AU 1 G)) 51 [(0, .ref (gB G + 0)), (1, .int x1), (2, .int x2), (3, .int x3), (4, .int x4), (5, .int x5), (6, .int x6), (7, .int x7)] [] M) : f_X12_crews_136 k51 M x1 x2 x3 x4 x5 x7 s_0 s_1 = some (r, M2) → Z p l e { frames := 5, cells := 0, slots := 0, locals := 132 } s m args below meth c 1 G 13 (MQ below (QC 1 G (some (.int r)) M2) args s 0 0 (AU 1 G)) 136 [(0, .ref (gB G + 0)), (1, .int x1), (2, .int x2), (3, .int x3), (4, .int x4), (5, .int x5), (7, .int x7)] [.int s_1, .int s_0] M := by
  intro h
  unfold f_X12_crews_136 at h
  refine z_ior C d_X12_crews_136 ?_
  obtain ⟨v1, e2, h⟩ := o_nm h
  refine z_nI e2 ?_
  refine z_istore (L' := [(6, .int v1), (0, .ref (gB G + 0)), (1, .int x1), (2, .int x2), (3, .int x3), (4, .int x4), (5, .int x5), (7, .int x7)]) C d_X12_crews_137 (by decide) rfl ?_
  refine z_iinc (v := (1 : Int32)) (L' := [(7, .int (x7 + (1 : Int32))), (6, .int v1), (0, .ref (gB G + 0)), (1, .int x1), (2, .int x2), (3, .int x3), (4, .int x4), (5, .int x5)]) 7 C d_X12_crews_139 rfl (by decide) (by decide) rfl ?_
  refine z_goto C d_X12_crews_142 ?_
  exact z_sub [2, 3, 4, 5, 6, 7, 1, 0] rfl (hk51 _ _ _ _  h)
set_option maxRecDepth 4000 in
theorem k_X12_crews_135 {p : Program} {l : Launch} {e : Env} {s : State} {m : MethodId} {args : Array Value} {below : List Frame} {meth : Method} {c : Code} {G : GG} {k51 : Mm → Int32 → Int32 → Int32 → Option (Int32 × Mm)} {M : Mm} {x1 : Int32} {x2 : Int32} {x3 : Int32} {x4 : Int32} {x5 : Int32} {x7 : Int32} {s_0 : Int32} {r : Int32} {M2 : Mm} (C : CX p s m args c prog_14_method_65_code 13 "SnowSentriesModel" 1 G) (hlk : meth.locks = false) (hr : meth.sig.returnType = (some .int)) (hk51 : ∀ (M : Mm) (x5 : Int32) (x6 : Int32) (x7 : Int32), k51 M x5 x6 x7 = some (r, M2) → Z p l e { frames := 5, cells := 0, slots := 0, locals := 132 } s m args below meth c 1 G 13 (MQ below (QC 1 G (some (.int r)) M2) args s 0 0 (AU 1 G)) 51 [(0, .ref (gB G + 0)), (1, .int x1), (2, .int x2), (3, .int x3), (4, .int x4), (5, .int x5), (6, .int x6), (7, .int x7)] [] M) : f_X12_crews_135 k51 M x1 x2 x3 x4 x5 x7 s_0 = some (r, M2) → Z p l e { frames := 5, cells := 0, slots := 0, locals := 132 } s m args below meth c 1 G 13 (MQ below (QC 1 G (some (.int r)) M2) args s 0 0 (AU 1 G)) 135 [(0, .ref (gB G + 0)), (1, .int x1), (2, .int x2), (3, .int x3), (4, .int x4), (5, .int x5), (7, .int x7)] [.int s_0] M := by
  intro h
  unfold f_X12_crews_135 at h
  refine z_iconst (v := (0 : Int32)) C d_X12_crews_135 (by decide) ?_
  exact z_sub [0, 1, 2, 3, 4, 5, 6] rfl (k_X12_crews_136 C hlk hr hk51 h)
set_option maxRecDepth 4000 in
theorem k_X12_crews_92 {p : Program} {l : Launch} {e : Env} {s : State} {m : MethodId} {args : Array Value} {below : List Frame} {meth : Method} {c : Code} {G : GG} {k51 : Mm → Int32 → Int32 → Int32 → Option (Int32 × Mm)} {M : Mm} {x1 : Int32} {x2 : Int32} {x3 : Int32} {x4 : Int32} {x6 : Int32} {x7 : Int32} {s_0 : Int32} {s_1 : Int32} {r : Int32} {M2 : Mm} (C : CX p s m args c prog_14_method_65_code 13 "SnowSentriesModel" 1 G) (hlk : meth.locks = false) (hr : meth.sig.returnType = (some .int)) (hk51 : ∀ (M : Mm) (x5 : Int32) (x6 : Int32) (x7 : Int32), k51 M x5 x6 x7 = some (r, M2) → Z p l e { frames := 5, cells := 0, slots := 0, locals := 132 } s m args below meth c 1 G 13 (MQ below (QC 1 G (some (.int r)) M2) args s 0 0 (AU 1 G)) 51 [(0, .ref (gB G + 0)), (1, .int x1), (2, .int x2), (3, .int x3), (4, .int x4), (5, .int x5), (6, .int x6), (7, .int x7)] [] M) : f_X12_crews_92 k51 M x1 x2 x3 x4 x6 x7 s_0 s_1 = some (r, M2) → Z p l e { frames := 5, cells := 0, slots := 0, locals := 132 } s m args below meth c 1 G 13 (MQ below (QC 1 G (some (.int r)) M2) args s 0 0 (AU 1 G)) 92 [(0, .ref (gB G + 0)), (1, .int x1), (2, .int x2), (3, .int x3), (4, .int x4), (6, .int x6), (7, .int x7)] [.int s_1, .int s_0] M := by
  intro h
  unfold f_X12_crews_92 at h
  refine z_iadd C d_X12_crews_92 ?_
  obtain ⟨v1, e2, h⟩ := o_nm h
  refine z_nI e2 ?_
  refine z_istore (L' := [(5, .int v1), (0, .ref (gB G + 0)), (1, .int x1), (2, .int x2), (3, .int x3), (4, .int x4), (6, .int x6), (7, .int x7)]) C d_X12_crews_93 (by decide) rfl ?_
  refine z_iload 6 C d_X12_crews_95 rfl ?_
  refine z_aload_n 1 C d_X12_crews_97 rfl rfl ?_
  refine z_get (k := 27) (v := .ref (gB G + 12)) C (eY_0 _ _) (by decide) rfl inX12 (by decide) wf_X12_50 rfl d_X12_crews_98 ?_
  refine z_iload 7 C d_X12_crews_101 rfl ?_
  obtain ⟨q3, h⟩ := o_ck h
  refine z_ald (eY_12 _ _) C (by decide) q3 d_X12_crews_103 ?_
  refine z_if_le C d_X12_crews_104 (fun q4 => ?_) (fun q4 => ?_)
  · have h := o_t q4 h
    exact z_sub [1, 2, 3, 4, 5, 0, 7] rfl (k_X12_crews_135 C hlk hr hk51 h)
  · have h := o_f q4 h
    refine z_aload_n 1 C d_X12_crews_107 rfl rfl ?_
    refine z_get (k := 27) (v := .ref (gB G + 12)) C (eY_0 _ _) (by decide) rfl inX12 (by decide) wf_X12_50 rfl d_X12_crews_108 ?_
    refine z_iload 7 C d_X12_crews_111 rfl ?_
    refine z_ald (eY_12 _ _) C (by decide) q3 d_X12_crews_113 ?_
    refine z_aload_n 1 C d_X12_crews_114 rfl rfl ?_
    refine z_get (k := 0) (v := .ref (gB G + 1)) C (eY_0 _ _) (by decide) rfl inX12 (by decide) wf_X12_7 rfl d_X12_crews_115 ?_
    refine z_sipush (v := (140 : Int32)) C d_X12_crews_118 (by decide) ?_
    refine z_iload 7 C d_X12_crews_121 rfl ?_
    refine z_iadd C d_X12_crews_123 ?_
    obtain ⟨q5, h⟩ := o_ck h
    refine z_ald (eY_1 _ _) C (by decide) q5 d_X12_crews_124 ?_
    refine z_icmp_gt C d_X12_crews_125 (fun q6 => ?_) (fun q6 => ?_)
    · have h := o_t q6 h
      exact z_sub [1, 2, 3, 4, 5, 0, 7] rfl (k_X12_crews_135 C hlk hr hk51 h)
    · have h := o_f q6 h
      refine z_iconst (v := (1 : Int32)) C d_X12_crews_128 (by decide) ?_
      refine z_iload 7 C d_X12_crews_129 rfl ?_
      refine z_ishl C d_X12_crews_131 ?_
      refine z_goto C d_X12_crews_132 ?_
      exact z_sub [1, 2, 3, 4, 5, 0, 7] rfl (k_X12_crews_136 C hlk hr hk51 h)
set_option maxRecDepth 4000 in
theorem k_X12_crews_245 {p : Program} {l : Launch} {e : Env} {s : State} {m : MethodId} {args : Array Value} {below : List Frame} {meth : Method} {c : Code} {G : GG} {k175 : Int32 → Int32 → Int32 → Option (Int32 × Mm)} {k212 : Int32 → Int32 → Option (Int32 × Mm)} {M : Mm} {x4 : Int32} {x5 : Int32} {x6 : Int32} {x7 : Int32} {x8 : Int32} {x9 : Int32} {x10 : Int32} {x12 : Int32} {s_0 : Int32} {s_1 : Int32} {r : Int32} {M2 : Mm} (C : CX p s m args c prog_14_method_65_code 13 "SnowSentriesModel" 1 G) (hlk : meth.locks = false) (hr : meth.sig.returnType = (some .int)) (hk175 : ∀ (x8 : Int32) (x9 : Int32) (x10 : Int32), k175 x8 x9 x10 = some (r, M2) → Z p l e { frames := 5, cells := 0, slots := 0, locals := 132 } s m args below meth c 1 G 13 (MQ below (QC 1 G (some (.int r)) M2) args s 0 0 (AU 1 G)) 175 [(0, .ref (gB G + 0)), (4, .int x4), (5, .int x5), (6, .int x6), (7, .int x7), (8, .int x8), (9, .int x9), (10, .int x10)] [] M) (hk212 : ∀ (x11 : Int32) (x12 : Int32), k212 x11 x12 = some (r, M2) → Z p l e { frames := 5, cells := 0, slots := 0, locals := 132 } s m args below meth c 1 G 13 (MQ below (QC 1 G (some (.int r)) M2) args s 0 0 (AU 1 G)) 212 [(0, .ref (gB G + 0)), (4, .int x4), (5, .int x5), (6, .int x6), (7, .int x7), (8, .int x8), (9, .int x9), (10, .int x10), (11, .int x11), (12, .int x12)] [] M) : f_X12_crews_245 k175 k212 M x4 x5 x6 x7 x8 x9 x10 x12 s_0 s_1 = some (r, M2) → Z p l e { frames := 5, cells := 0, slots := 0, locals := 132 } s m args below meth c 1 G 13 (MQ below (QC 1 G (some (.int r)) M2) args s 0 0 (AU 1 G)) 245 [(0, .ref (gB G + 0)), (4, .int x4), (5, .int x5), (6, .int x6), (7, .int x7), (8, .int x8), (9, .int x9), (10, .int x10), (12, .int x12)] [.int s_1, .int s_0] M := by
  intro h
  unfold f_X12_crews_245 at h
  refine z_iadd C d_X12_crews_245 ?_
  obtain ⟨v1, e2, h⟩ := o_nm h
  refine z_nI e2 ?_
  refine z_istore (L' := [(11, .int v1), (0, .ref (gB G + 0)), (4, .int x4), (5, .int x5), (6, .int x6), (7, .int x7), (8, .int x8), (9, .int x9), (10, .int x10), (12, .int x12)]) C d_X12_crews_246 (by decide) rfl ?_
  refine z_iinc (v := (1 : Int32)) (L' := [(12, .int (x12 + (1 : Int32))), (11, .int v1), (0, .ref (gB G + 0)), (4, .int x4), (5, .int x5), (6, .int x6), (7, .int x7), (8, .int x8), (9, .int x9), (10, .int x10)]) 9 C d_X12_crews_248 rfl (by decide) (by decide) rfl ?_
  refine z_goto C d_X12_crews_251 ?_
  exact z_sub [2, 3, 4, 5, 6, 7, 8, 9, 1, 0] rfl (hk212 _ _  h)
set_option maxRecDepth 4000 in
theorem k_X12_crews_293 {p : Program} {l : Launch} {e : Env} {s : State} {m : MethodId} {args : Array Value} {below : List Frame} {meth : Method} {c : Code} {G : GG} {k175 : Int32 → Int32 → Int32 → Option (Int32 × Mm)} {M : Mm} {x4 : Int32} {x5 : Int32} {x6 : Int32} {x7 : Int32} {x8 : Int32} {x9 : Int32} {x10 : Int32} {r : Int32} {M2 : Mm} (C : CX p s m args c prog_14_method_65_code 13 "SnowSentriesModel" 1 G) (hlk : meth.locks = false) (hr : meth.sig.returnType = (some .int)) (hk175 : ∀ (x8 : Int32) (x9 : Int32) (x10 : Int32), k175 x8 x9 x10 = some (r, M2) → Z p l e { frames := 5, cells := 0, slots := 0, locals := 132 } s m args below meth c 1 G 13 (MQ below (QC 1 G (some (.int r)) M2) args s 0 0 (AU 1 G)) 175 [(0, .ref (gB G + 0)), (4, .int x4), (5, .int x5), (6, .int x6), (7, .int x7), (8, .int x8), (9, .int x9), (10, .int x10)] [] M) : f_X12_crews_293 k175 M x4 x5 x6 x7 x8 x9 x10 = some (r, M2) → Z p l e { frames := 5, cells := 0, slots := 0, locals := 132 } s m args below meth c 1 G 13 (MQ below (QC 1 G (some (.int r)) M2) args s 0 0 (AU 1 G)) 293 [(0, .ref (gB G + 0)), (4, .int x4), (5, .int x5), (6, .int x6), (7, .int x7), (8, .int x8), (9, .int x9), (10, .int x10)] [] M := by
  intro h
  unfold f_X12_crews_293 at h
  refine z_iinc (v := (1 : Int32)) (L' := [(10, .int (x10 + (1 : Int32))), (0, .ref (gB G + 0)), (4, .int x4), (5, .int x5), (6, .int x6), (7, .int x7), (8, .int x8), (9, .int x9)]) 7 C d_X12_crews_293 rfl (by decide) (by decide) rfl ?_
  refine z_goto C d_X12_crews_296 ?_
  exact z_sub [1, 2, 3, 4, 5, 6, 7, 0] rfl (hk175 _ _ _  h)
set_option maxRecDepth 4000 in
theorem k_X12_crews_291 {p : Program} {l : Launch} {e : Env} {s : State} {m : MethodId} {args : Array Value} {below : List Frame} {meth : Method} {c : Code} {G : GG} {k175 : Int32 → Int32 → Int32 → Option (Int32 × Mm)} {M : Mm} {x4 : Int32} {x5 : Int32} {x6 : Int32} {x7 : Int32} {x8 : Int32} {x10 : Int32} {s_0 : Int32} {r : Int32} {M2 : Mm} (C : CX p s m args c prog_14_method_65_code 13 "SnowSentriesModel" 1 G) (hlk : meth.locks = false) (hr : meth.sig.returnType = (some .int)) (hk175 : ∀ (x8 : Int32) (x9 : Int32) (x10 : Int32), k175 x8 x9 x10 = some (r, M2) → Z p l e { frames := 5, cells := 0, slots := 0, locals := 132 } s m args below meth c 1 G 13 (MQ below (QC 1 G (some (.int r)) M2) args s 0 0 (AU 1 G)) 175 [(0, .ref (gB G + 0)), (4, .int x4), (5, .int x5), (6, .int x6), (7, .int x7), (8, .int x8), (9, .int x9), (10, .int x10)] [] M) : f_X12_crews_291 k175 M x4 x5 x6 x7 x8 x10 s_0 = some (r, M2) → Z p l e { frames := 5, cells := 0, slots := 0, locals := 132 } s m args below meth c 1 G 13 (MQ below (QC 1 G (some (.int r)) M2) args s 0 0 (AU 1 G)) 291 [(0, .ref (gB G + 0)), (4, .int x4), (5, .int x5), (6, .int x6), (7, .int x7), (8, .int x8), (10, .int x10)] [.int s_0] M := by
  intro h
  unfold f_X12_crews_291 at h
  refine z_istore (L' := [(9, .int s_0), (0, .ref (gB G + 0)), (4, .int x4), (5, .int x5), (6, .int x6), (7, .int x7), (8, .int x8), (10, .int x10)]) C d_X12_crews_291 (by decide) rfl ?_
  exact z_sub [1, 2, 3, 4, 5, 6, 0, 7] rfl (k_X12_crews_293 C hlk hr hk175 h)
set_option maxRecDepth 4000 in
theorem k_X12_crews_275 {p : Program} {l : Launch} {e : Env} {s : State} {m : MethodId} {args : Array Value} {below : List Frame} {meth : Method} {c : Code} {G : GG} {k175 : Int32 → Int32 → Int32 → Option (Int32 × Mm)} {M : Mm} {x4 : Int32} {x5 : Int32} {x6 : Int32} {x7 : Int32} {x9 : Int32} {x10 : Int32} {x11 : Int32} {s_0 : Int32} {r : Int32} {M2 : Mm} (C : CX p s m args c prog_14_method_65_code 13 "SnowSentriesModel" 1 G) (hlk : meth.locks = false) (hr : meth.sig.returnType = (some .int)) (hk175 : ∀ (x8 : Int32) (x9 : Int32) (x10 : Int32), k175 x8 x9 x10 = some (r, M2) → Z p l e { frames := 5, cells := 0, slots := 0, locals := 132 } s m args below meth c 1 G 13 (MQ below (QC 1 G (some (.int r)) M2) args s 0 0 (AU 1 G)) 175 [(0, .ref (gB G + 0)), (4, .int x4), (5, .int x5), (6, .int x6), (7, .int x7), (8, .int x8), (9, .int x9), (10, .int x10)] [] M) : f_X12_crews_275 k175 M x4 x5 x6 x7 x9 x10 x11 s_0 = some (r, M2) → Z p l e { frames := 5, cells := 0, slots := 0, locals := 132 } s m args below meth c 1 G 13 (MQ below (QC 1 G (some (.int r)) M2) args s 0 0 (AU 1 G)) 275 [(0, .ref (gB G + 0)), (4, .int x4), (5, .int x5), (6, .int x6), (7, .int x7), (9, .int x9), (10, .int x10), (11, .int x11)] [.int s_0] M := by
  intro h
  unfold f_X12_crews_275 at h
  refine z_istore (L' := [(8, .int s_0), (0, .ref (gB G + 0)), (4, .int x4), (5, .int x5), (6, .int x6), (7, .int x7), (9, .int x9), (10, .int x10), (11, .int x11)]) C d_X12_crews_275 (by decide) rfl ?_
  refine z_iload 0 C d_X12_crews_277 rfl ?_
  refine z_iload 7 C d_X12_crews_279 rfl ?_
  refine z_icmp_ne C d_X12_crews_281 (fun q1 => ?_) (fun q1 => ?_)
  · have h := o_f q1 h
    refine z_iload 6 C d_X12_crews_289 rfl ?_
    exact z_sub [1, 2, 3, 4, 5, 0, 7] rfl (k_X12_crews_291 C hlk hr hk175 h)
  · have h := o_t q1 h
    refine z_iload 8 C d_X12_crews_284 rfl ?_
    refine z_goto C d_X12_crews_286 ?_
    exact z_sub [1, 2, 3, 4, 5, 0, 7] rfl (k_X12_crews_291 C hlk hr hk175 h)
set_option maxRecDepth 4000 in
theorem k_X12_crews_268 {p : Program} {l : Launch} {e : Env} {s : State} {m : MethodId} {args : Array Value} {below : List Frame} {meth : Method} {c : Code} {G : GG} {k175 : Int32 → Int32 → Int32 → Option (Int32 × Mm)} {M : Mm} {x4 : Int32} {x5 : Int32} {x6 : Int32} {x7 : Int32} {x9 : Int32} {x10 : Int32} {x11 : Int32} {r : Int32} {M2 : Mm} (C : CX p s m args c prog_14_method_65_code 13 "SnowSentriesModel" 1 G) (hlk : meth.locks = false) (hr : meth.sig.returnType = (some .int)) (hk175 : ∀ (x8 : Int32) (x9 : Int32) (x10 : Int32), k175 x8 x9 x10 = some (r, M2) → Z p l e { frames := 5, cells := 0, slots := 0, locals := 132 } s m args below meth c 1 G 13 (MQ below (QC 1 G (some (.int r)) M2) args s 0 0 (AU 1 G)) 175 [(0, .ref (gB G + 0)), (4, .int x4), (5, .int x5), (6, .int x6), (7, .int x7), (8, .int x8), (9, .int x9), (10, .int x10)] [] M) : f_X12_crews_268 k175 M x4 x5 x6 x7 x9 x10 x11 = some (r, M2) → Z p l e { frames := 5, cells := 0, slots := 0, locals := 132 } s m args below meth c 1 G 13 (MQ below (QC 1 G (some (.int r)) M2) args s 0 0 (AU 1 G)) 268 [(0, .ref (gB G + 0)), (4, .int x4), (5, .int x5), (6, .int x6), (7, .int x7), (9, .int x9), (10, .int x10), (11, .int x11)] [] M := by
  intro h
  unfold f_X12_crews_268 at h
  refine z_iload 6 C d_X12_crews_268 rfl ?_
  refine z_goto C d_X12_crews_270 ?_
  exact z_sub [0, 1, 2, 3, 4, 5, 6, 7] rfl (k_X12_crews_275 C hlk hr hk175 h)
set_option maxRecDepth 4000 in
theorem k_X12_crews_254 {p : Program} {l : Launch} {e : Env} {s : State} {m : MethodId} {args : Array Value} {below : List Frame} {meth : Method} {c : Code} {G : GG} {k175 : Int32 → Int32 → Int32 → Option (Int32 × Mm)} {M : Mm} {x4 : Int32} {x5 : Int32} {x6 : Int32} {x7 : Int32} {x8 : Int32} {x9 : Int32} {x10 : Int32} {x11 : Int32} {r : Int32} {M2 : Mm} (C : CX p s m args c prog_14_method_65_code 13 "SnowSentriesModel" 1 G) (hlk : meth.locks = false) (hr : meth.sig.returnType = (some .int)) (hk175 : ∀ (x8 : Int32) (x9 : Int32) (x10 : Int32), k175 x8 x9 x10 = some (r, M2) → Z p l e { frames := 5, cells := 0, slots := 0, locals := 132 } s m args below meth c 1 G 13 (MQ below (QC 1 G (some (.int r)) M2) args s 0 0 (AU 1 G)) 175 [(0, .ref (gB G + 0)), (4, .int x4), (5, .int x5), (6, .int x6), (7, .int x7), (8, .int x8), (9, .int x9), (10, .int x10)] [] M) : f_X12_crews_254 k175 M x4 x5 x6 x7 x8 x9 x10 x11 = some (r, M2) → Z p l e { frames := 5, cells := 0, slots := 0, locals := 132 } s m args below meth c 1 G 13 (MQ below (QC 1 G (some (.int r)) M2) args s 0 0 (AU 1 G)) 254 [(0, .ref (gB G + 0)), (4, .int x4), (5, .int x5), (6, .int x6), (7, .int x7), (8, .int x8), (9, .int x9), (10, .int x10), (11, .int x11)] [] M := by
  intro h
  unfold f_X12_crews_254 at h
  refine z_iload 5 C d_X12_crews_254 rfl ?_
  refine z_bipush (v := (-4 : Int32)) C d_X12_crews_256 (by decide) ?_
  refine z_icmp_eq C d_X12_crews_258 (fun q1 => ?_) (fun q1 => ?_)
  · have h := o_t q1 h
    exact z_sub [0, 1, 2, 3, 4, 6, 7, 8] rfl (k_X12_crews_268 C hlk hr hk175 h)
  · have h := o_f q1 h
    refine z_iload 8 C d_X12_crews_261 rfl ?_
    refine z_iload 6 C d_X12_crews_263 rfl ?_
    refine z_icmp_ge C d_X12_crews_265 (fun q2 => ?_) (fun q2 => ?_)
    · have h := o_t q2 h
      refine z_iload 5 C d_X12_crews_273 rfl ?_
      exact z_sub [0, 1, 2, 3, 4, 6, 7, 8] rfl (k_X12_crews_275 C hlk hr hk175 h)
    · have h := o_f q2 h
      exact z_sub [0, 1, 2, 3, 4, 6, 7, 8] rfl (k_X12_crews_268 C hlk hr hk175 h)
set_option maxRecDepth 4000 in
theorem kb_X12_crews_212 {p : Program} {l : Launch} {e : Env} {s : State} {m : MethodId} {args : Array Value} {below : List Frame} {meth : Method} {c : Code} {G : GG} {k175 : Int32 → Int32 → Int32 → Option (Int32 × Mm)} {k212 : Int32 → Int32 → Option (Int32 × Mm)} {M : Mm} {x4 : Int32} {x5 : Int32} {x6 : Int32} {x7 : Int32} {x8 : Int32} {x9 : Int32} {x10 : Int32} {x11 : Int32} {x12 : Int32} {r : Int32} {M2 : Mm} (C : CX p s m args c prog_14_method_65_code 13 "SnowSentriesModel" 1 G) (hlk : meth.locks = false) (hr : meth.sig.returnType = (some .int)) (hk175 : ∀ (x8 : Int32) (x9 : Int32) (x10 : Int32), k175 x8 x9 x10 = some (r, M2) → Z p l e { frames := 5, cells := 0, slots := 0, locals := 132 } s m args below meth c 1 G 13 (MQ below (QC 1 G (some (.int r)) M2) args s 0 0 (AU 1 G)) 175 [(0, .ref (gB G + 0)), (4, .int x4), (5, .int x5), (6, .int x6), (7, .int x7), (8, .int x8), (9, .int x9), (10, .int x10)] [] M) (hk212 : ∀ (x11 : Int32) (x12 : Int32), k212 x11 x12 = some (r, M2) → Z p l e { frames := 5, cells := 0, slots := 0, locals := 132 } s m args below meth c 1 G 13 (MQ below (QC 1 G (some (.int r)) M2) args s 0 0 (AU 1 G)) 212 [(0, .ref (gB G + 0)), (4, .int x4), (5, .int x5), (6, .int x6), (7, .int x7), (8, .int x8), (9, .int x9), (10, .int x10), (11, .int x11), (12, .int x12)] [] M) : b_X12_crews_212 k175 k212 M x4 x5 x6 x7 x8 x9 x10 x11 x12 = some (r, M2) → Z p l e { frames := 5, cells := 0, slots := 0, locals := 132 } s m args below meth c 1 G 13 (MQ below (QC 1 G (some (.int r)) M2) args s 0 0 (AU 1 G)) 212 [(0, .ref (gB G + 0)), (4, .int x4), (5, .int x5), (6, .int x6), (7, .int x7), (8, .int x8), (9, .int x9), (10, .int x10), (11, .int x11), (12, .int x12)] [] M := by
  intro h
  unfold b_X12_crews_212 at h
  refine z_iload 9 C d_X12_crews_212 rfl ?_
  refine z_aload_n 0 C d_X12_crews_214 rfl rfl ?_
  refine z_get (k := 1) (v := .int (M.1 0 1)) C (eY_0 _ _) (by decide) rfl inX12 (by decide) wf_X12_13 rfl d_X12_crews_215 ?_
  refine z_icmp_ge C d_X12_crews_218 (fun q1 => ?_) (fun q1 => ?_)
  · have h := o_t q1 h
    exact z_sub [0, 1, 2, 3, 4, 5, 6, 7, 8] rfl (k_X12_crews_254 C hlk hr hk175 h)
  · have h := o_f q1 h
    refine z_iload 8 C d_X12_crews_221 rfl ?_
    refine z_iload 7 C d_X12_crews_223 rfl ?_
    refine z_iload 9 C d_X12_crews_225 rfl ?_
    refine z_ishr C d_X12_crews_227 ?_
    refine z_iconst (v := (1 : Int32)) C d_X12_crews_228 (by decide) ?_
    refine z_iand C d_X12_crews_229 ?_
    refine z_iconst (v := (1 : Int32)) C d_X12_crews_230 (by decide) ?_
    refine z_icmp_ne C d_X12_crews_231 (fun q2 => ?_) (fun q2 => ?_)
    · have h := o_f q2 h
      refine z_iconst (v := (0 : Int32)) C d_X12_crews_244 (by decide) ?_
      exact z_sub [0, 1, 2, 3, 4, 5, 6, 7, 9] rfl (k_X12_crews_245 C hlk hr hk175 hk212 h)
    · have h := o_t q2 h
      refine z_aload_n 0 C d_X12_crews_234 rfl rfl ?_
      refine z_get (k := 27) (v := .ref (gB G + 12)) C (eY_0 _ _) (by decide) rfl inX12 (by decide) wf_X12_50 rfl d_X12_crews_235 ?_
      refine z_iload 9 C d_X12_crews_238 rfl ?_
      obtain ⟨q3, h⟩ := o_ck h
      refine z_ald (eY_12 _ _) C (by decide) q3 d_X12_crews_240 ?_
      refine z_goto C d_X12_crews_241 ?_
      exact z_sub [0, 1, 2, 3, 4, 5, 6, 7, 9] rfl (k_X12_crews_245 C hlk hr hk175 hk212 h)
theorem k_X12_crews_212 {p : Program} {l : Launch} {e : Env} {s : State} {m : MethodId} {args : Array Value} {below : List Frame} {meth : Method} {c : Code} {G : GG} {k175 : Int32 → Int32 → Int32 → Option (Int32 × Mm)} {M : Mm} {x4 : Int32} {x5 : Int32} {x6 : Int32} {x7 : Int32} {x8 : Int32} {x9 : Int32} {x10 : Int32} {r : Int32} {M2 : Mm} (C : CX p s m args c prog_14_method_65_code 13 "SnowSentriesModel" 1 G) (hlk : meth.locks = false) (hr : meth.sig.returnType = (some .int)) (hk175 : ∀ (x8 : Int32) (x9 : Int32) (x10 : Int32), k175 x8 x9 x10 = some (r, M2) → Z p l e { frames := 5, cells := 0, slots := 0, locals := 132 } s m args below meth c 1 G 13 (MQ below (QC 1 G (some (.int r)) M2) args s 0 0 (AU 1 G)) 175 [(0, .ref (gB G + 0)), (4, .int x4), (5, .int x5), (6, .int x6), (7, .int x7), (8, .int x8), (9, .int x9), (10, .int x10)] [] M) : ∀ (n : Nat) (x11 : Int32) (x12 : Int32), f_X12_crews_212 k175 M x4 x5 x6 x7 x8 x9 x10 n x11 x12 = some (r, M2) → Z p l e { frames := 5, cells := 0, slots := 0, locals := 132 } s m args below meth c 1 G 13 (MQ below (QC 1 G (some (.int r)) M2) args s 0 0 (AU 1 G)) 212 [(0, .ref (gB G + 0)), (4, .int x4), (5, .int x5), (6, .int x6), (7, .int x7), (8, .int x8), (9, .int x9), (10, .int x10), (11, .int x11), (12, .int x12)] [] M := by
  intro n
  induction n with
  | zero =>
    intro x11 x12  h
    exact absurd h (fun z => by cases z)
  | succ n ih =>
    intro x11 x12  h
    exact kb_X12_crews_212 C hlk hr hk175 (fun x11 x12 h => ih x11 x12 h) h
set_option maxRecDepth 4000 in
theorem k_X12_crews_325 {p : Program} {l : Launch} {e : Env} {s : State} {m : MethodId} {args : Array Value} {below : List Frame} {meth : Method} {c : Code} {G : GG} {M : Mm} {s_0 : Int32} {r : Int32} {M2 : Mm} (C : CX p s m args c prog_14_method_65_code 13 "SnowSentriesModel" 1 G) (hlk : meth.locks = false) (hr : meth.sig.returnType = (some .int)) : f_X12_crews_325 M s_0 = some (r, M2) → Z p l e { frames := 5, cells := 0, slots := 0, locals := 132 } s m args below meth c 1 G 13 (MQ below (QC 1 G (some (.int r)) M2) args s 0 0 (AU 1 G)) 325 [] [.int s_0] M := by
  intro h
  unfold f_X12_crews_325 at h
  obtain ⟨rfl, rfl⟩ := o_pair h
  exact z_iret C hlk hr d_X12_crews_325
set_option maxRecDepth 4000 in
theorem k_X12_crews_299 {p : Program} {l : Launch} {e : Env} {s : State} {m : MethodId} {args : Array Value} {below : List Frame} {meth : Method} {c : Code} {G : GG} {M : Mm} {x4 : Int32} {x5 : Int32} {x7 : Int32} {x8 : Int32} {x9 : Int32} {r : Int32} {M2 : Mm} (C : CX p s m args c prog_14_method_65_code 13 "SnowSentriesModel" 1 G) (hlk : meth.locks = false) (hr : meth.sig.returnType = (some .int)) : f_X12_crews_299 M x4 x5 x7 x8 x9 = some (r, M2) → Z p l e { frames := 5, cells := 0, slots := 0, locals := 132 } s m args below meth c 1 G 13 (MQ below (QC 1 G (some (.int r)) M2) args s 0 0 (AU 1 G)) 299 [(4, .int x4), (5, .int x5), (7, .int x7), (8, .int x8), (9, .int x9)] [] M := by
  intro h
  unfold f_X12_crews_299 at h
  refine z_iload 0 C d_X12_crews_299 rfl ?_
  refine z_if_ne C d_X12_crews_301 (fun q1 => ?_) (fun q1 => ?_)
  · have h := o_f q1 h
    refine z_iload 0 C d_X12_crews_312 rfl ?_
    refine z_iconst (v := (1 : Int32)) C d_X12_crews_314 (by decide) ?_
    refine z_icmp_ne C d_X12_crews_315 (fun q2 => ?_) (fun q2 => ?_)
    · have h := o_f q2 h
      refine z_iload 3 C d_X12_crews_323 rfl ?_
      exact z_sub [] rfl (k_X12_crews_325 C hlk hr h)
    · have h := o_t q2 h
      refine z_iload 4 C d_X12_crews_318 rfl ?_
      refine z_goto C d_X12_crews_320 ?_
      exact z_sub [] rfl (k_X12_crews_325 C hlk hr h)
  · have h := o_t q1 h
    refine z_iload 1 C d_X12_crews_304 rfl ?_
    refine z_iload 2 C d_X12_crews_306 rfl ?_
    refine z_iadd C d_X12_crews_308 ?_
    refine z_goto C d_X12_crews_309 ?_
    exact z_sub [] rfl (k_X12_crews_325 C hlk hr h)
set_option maxRecDepth 4000 in
theorem kb_X12_crews_175 {p : Program} {l : Launch} {e : Env} {s : State} {m : MethodId} {args : Array Value} {below : List Frame} {meth : Method} {c : Code} {G : GG} {k175 : Int32 → Int32 → Int32 → Option (Int32 × Mm)} {M : Mm} {x4 : Int32} {x5 : Int32} {x6 : Int32} {x7 : Int32} {x8 : Int32} {x9 : Int32} {x10 : Int32} {r : Int32} {M2 : Mm} (C : CX p s m args c prog_14_method_65_code 13 "SnowSentriesModel" 1 G) (hlk : meth.locks = false) (hr : meth.sig.returnType = (some .int)) (hk175 : ∀ (x8 : Int32) (x9 : Int32) (x10 : Int32), k175 x8 x9 x10 = some (r, M2) → Z p l e { frames := 5, cells := 0, slots := 0, locals := 132 } s m args below meth c 1 G 13 (MQ below (QC 1 G (some (.int r)) M2) args s 0 0 (AU 1 G)) 175 [(0, .ref (gB G + 0)), (4, .int x4), (5, .int x5), (6, .int x6), (7, .int x7), (8, .int x8), (9, .int x9), (10, .int x10)] [] M) : b_X12_crews_175 k175 M x4 x5 x6 x7 x8 x9 x10 = some (r, M2) → Z p l e { frames := 5, cells := 0, slots := 0, locals := 132 } s m args below meth c 1 G 13 (MQ below (QC 1 G (some (.int r)) M2) args s 0 0 (AU 1 G)) 175 [(0, .ref (gB G + 0)), (4, .int x4), (5, .int x5), (6, .int x6), (7, .int x7), (8, .int x8), (9, .int x9), (10, .int x10)] [] M := by
  intro h
  unfold b_X12_crews_175 at h
  refine z_iload 7 C d_X12_crews_175 rfl ?_
  refine z_iconst (v := (1 : Int32)) C d_X12_crews_177 (by decide) ?_
  refine z_aload_n 0 C d_X12_crews_178 rfl rfl ?_
  refine z_get (k := 1) (v := .int (M.1 0 1)) C (eY_0 _ _) (by decide) rfl inX12 (by decide) wf_X12_13 rfl d_X12_crews_179 ?_
  refine z_ishl C d_X12_crews_182 ?_
  refine z_icmp_ge C d_X12_crews_183 (fun q1 => ?_) (fun q1 => ?_)
  · have h := o_t q1 h
    exact z_sub [1, 2, 4, 5, 6] rfl (k_X12_crews_299 C hlk hr h)
  · have h := o_f q1 h
    refine z_iload 7 C d_X12_crews_186 rfl ?_
    refine z_iload 3 C d_X12_crews_188 rfl ?_
    refine z_iconst (v := (-1 : Int32)) C d_X12_crews_190 (by decide) ?_
    refine z_ixor C d_X12_crews_191 ?_
    refine z_iand C d_X12_crews_192 ?_
    refine z_if_ne C d_X12_crews_193 (fun q2 => ?_) (fun q2 => ?_)
    · have h := o_f q2 h
      exact z_sub [0, 1, 2, 3, 4, 5, 6, 7] rfl (k_X12_crews_293 C hlk hr hk175 h)
    · have h := o_t q2 h
      refine z_iload 7 C d_X12_crews_196 rfl ?_
      obtain ⟨p4, e3, h⟩ := o_bd h
      refine z_S (S := []) (As := [.int x10]) C (c_X12_bitsOf l G (M := M) e3) wc_X12_bitsOf wm_X12_264 ws_X12_bitsOf wi_X12 hy_X12_bitsOf ⟨Nat.le_of_ble_eq_true rfl, Nat.le_of_ble_eq_true rfl⟩ rfl rfl (Nat.le_of_ble_eq_true rfl) d_X12_crews_198 ?_
      refine z_iload 4 C d_X12_crews_201 rfl ?_
      refine z_icmp_ne C d_X12_crews_203 (fun q5 => ?_) (fun q5 => ?_)
      · have h := o_f q5 h
        exact z_sub [0, 1, 2, 3, 4, 5, 6, 7] rfl (k_X12_crews_293 C hlk hr hk175 h)
      · have h := o_t q5 h
        refine z_iconst (v := (0 : Int32)) C d_X12_crews_206 (by decide) ?_
        refine z_istore (L' := [(11, .int (0 : Int32)), (0, .ref (gB G + 0)), (4, .int x4), (5, .int x5), (6, .int x6), (7, .int x7), (8, .int x8), (9, .int x9), (10, .int x10)]) C d_X12_crews_207 (by decide) rfl ?_
        refine z_iconst (v := (0 : Int32)) C d_X12_crews_209 (by decide) ?_
        refine z_istore (L' := [(12, .int (0 : Int32)), (11, .int (0 : Int32)), (0, .ref (gB G + 0)), (4, .int x4), (5, .int x5), (6, .int x6), (7, .int x7), (8, .int x8), (9, .int x9), (10, .int x10)]) C d_X12_crews_210 (by decide) rfl ?_
        exact z_sub [2, 3, 4, 5, 6, 7, 8, 9, 1, 0] rfl (k_X12_crews_212 C hlk hr hk175 _ _ _ h)
theorem k_X12_crews_175 {p : Program} {l : Launch} {e : Env} {s : State} {m : MethodId} {args : Array Value} {below : List Frame} {meth : Method} {c : Code} {G : GG} {M : Mm} {x4 : Int32} {x5 : Int32} {x6 : Int32} {x7 : Int32} {r : Int32} {M2 : Mm} (C : CX p s m args c prog_14_method_65_code 13 "SnowSentriesModel" 1 G) (hlk : meth.locks = false) (hr : meth.sig.returnType = (some .int)) : ∀ (n : Nat) (x8 : Int32) (x9 : Int32) (x10 : Int32), f_X12_crews_175 M x4 x5 x6 x7 n x8 x9 x10 = some (r, M2) → Z p l e { frames := 5, cells := 0, slots := 0, locals := 132 } s m args below meth c 1 G 13 (MQ below (QC 1 G (some (.int r)) M2) args s 0 0 (AU 1 G)) 175 [(0, .ref (gB G + 0)), (4, .int x4), (5, .int x5), (6, .int x6), (7, .int x7), (8, .int x8), (9, .int x9), (10, .int x10)] [] M := by
  intro n
  induction n with
  | zero =>
    intro x8 x9 x10  h
    exact absurd h (fun z => by cases z)
  | succ n ih =>
    intro x8 x9 x10  h
    exact kb_X12_crews_175 C hlk hr  (fun x8 x9 x10 h => ih x8 x9 x10 h) h
set_option maxRecDepth 4000 in
theorem k_X12_crews_163 {p : Program} {l : Launch} {e : Env} {s : State} {m : MethodId} {args : Array Value} {below : List Frame} {meth : Method} {c : Code} {G : GG} {M : Mm} {x4 : Int32} {x5 : Int32} {x6 : Int32} {s_0 : Int32} {r : Int32} {M2 : Mm} (C : CX p s m args c prog_14_method_65_code 13 "SnowSentriesModel" 1 G) (hlk : meth.locks = false) (hr : meth.sig.returnType = (some .int)) : f_X12_crews_163 M x4 x5 x6 s_0 = some (r, M2) → Z p l e { frames := 5, cells := 0, slots := 0, locals := 132 } s m args below meth c 1 G 13 (MQ below (QC 1 G (some (.int r)) M2) args s 0 0 (AU 1 G)) 163 [(0, .ref (gB G + 0)), (4, .int x4), (5, .int x5), (6, .int x6)] [.int s_0] M := by
  intro h
  unfold f_X12_crews_163 at h
  refine z_istore (L' := [(7, .int s_0), (0, .ref (gB G + 0)), (4, .int x4), (5, .int x5), (6, .int x6)]) C d_X12_crews_163 (by decide) rfl ?_
  refine z_bipush (v := (-4 : Int32)) C d_X12_crews_165 (by decide) ?_
  refine z_istore (L' := [(8, .int (-4 : Int32)), (7, .int s_0), (0, .ref (gB G + 0)), (4, .int x4), (5, .int x5), (6, .int x6)]) C d_X12_crews_167 (by decide) rfl ?_
  refine z_iconst (v := (0 : Int32)) C d_X12_crews_169 (by decide) ?_
  refine z_istore (L' := [(9, .int (0 : Int32)), (8, .int (-4 : Int32)), (7, .int s_0), (0, .ref (gB G + 0)), (4, .int x4), (5, .int x5), (6, .int x6)]) C d_X12_crews_170 (by decide) rfl ?_
  refine z_iconst (v := (0 : Int32)) C d_X12_crews_172 (by decide) ?_
  refine z_istore (L' := [(10, .int (0 : Int32)), (9, .int (0 : Int32)), (8, .int (-4 : Int32)), (7, .int s_0), (0, .ref (gB G + 0)), (4, .int x4), (5, .int x5), (6, .int x6)]) C d_X12_crews_173 (by decide) rfl ?_
  exact z_sub [4, 5, 6, 7, 3, 2, 1, 0] rfl (k_X12_crews_175 C hlk hr _ _ _ _ h)
set_option maxRecDepth 4000 in
theorem k_X12_crews_145 {p : Program} {l : Launch} {e : Env} {s : State} {m : MethodId} {args : Array Value} {below : List Frame} {meth : Method} {c : Code} {G : GG} {M : Mm} {x3 : Int32} {x4 : Int32} {x5 : Int32} {x6 : Int32} {r : Int32} {M2 : Mm} (C : CX p s m args c prog_14_method_65_code 13 "SnowSentriesModel" 1 G) (hlk : meth.locks = false) (hr : meth.sig.returnType = (some .int)) : f_X12_crews_145 M x3 x4 x5 x6 = some (r, M2) → Z p l e { frames := 5, cells := 0, slots := 0, locals := 132 } s m args below meth c 1 G 13 (MQ below (QC 1 G (some (.int r)) M2) args s 0 0 (AU 1 G)) 145 [(0, .ref (gB G + 0)), (3, .int x3), (4, .int x4), (5, .int x5), (6, .int x6)] [] M := by
  intro h
  unfold f_X12_crews_145 at h
  refine z_iload 4 C d_X12_crews_145 rfl ?_
  obtain ⟨p2, e1, h⟩ := o_bd h
  refine z_S (S := []) (As := [.int x6]) C (c_X12_bitsOf l G (M := M) e1) wc_X12_bitsOf wm_X12_264 ws_X12_bitsOf wi_X12 hy_X12_bitsOf ⟨Nat.le_of_ble_eq_true rfl, Nat.le_of_ble_eq_true rfl⟩ rfl rfl (Nat.le_of_ble_eq_true rfl) d_X12_crews_147 ?_
  refine z_iload_n 1 C d_X12_crews_150 rfl rfl ?_
  refine z_icmp_ge C d_X12_crews_151 (fun q3 => ?_) (fun q3 => ?_)
  · have h := o_t q3 h
    refine z_iload_n 1 C d_X12_crews_162 rfl rfl ?_
    exact z_sub [0, 2, 3, 4] rfl (k_X12_crews_163 C hlk hr h)
  · have h := o_f q3 h
    refine z_iload 4 C d_X12_crews_154 rfl ?_
    obtain ⟨p5, e4, h⟩ := o_bd h
    refine z_S (S := []) (As := [.int x6]) C (c_X12_bitsOf l G (M := M) e4) wc_X12_bitsOf wm_X12_264 ws_X12_bitsOf wi_X12 hy_X12_bitsOf ⟨Nat.le_of_ble_eq_true rfl, Nat.le_of_ble_eq_true rfl⟩ rfl rfl (Nat.le_of_ble_eq_true rfl) d_X12_crews_156 ?_
    refine z_goto C d_X12_crews_159 ?_
    exact z_sub [0, 2, 3, 4] rfl (k_X12_crews_163 C hlk hr h)
set_option maxRecDepth 4000 in
theorem kb_X12_crews_51 {p : Program} {l : Launch} {e : Env} {s : State} {m : MethodId} {args : Array Value} {below : List Frame} {meth : Method} {c : Code} {G : GG} {k51 : Mm → Int32 → Int32 → Int32 → Option (Int32 × Mm)} {x1 : Int32} {x2 : Int32} {x3 : Int32} {x4 : Int32} {M : Mm} {x5 : Int32} {x6 : Int32} {x7 : Int32} {r : Int32} {M2 : Mm} (C : CX p s m args c prog_14_method_65_code 13 "SnowSentriesModel" 1 G) (hlk : meth.locks = false) (hr : meth.sig.returnType = (some .int)) (hk51 : ∀ (M : Mm) (x5 : Int32) (x6 : Int32) (x7 : Int32), k51 M x5 x6 x7 = some (r, M2) → Z p l e { frames := 5, cells := 0, slots := 0, locals := 132 } s m args below meth c 1 G 13 (MQ below (QC 1 G (some (.int r)) M2) args s 0 0 (AU 1 G)) 51 [(0, .ref (gB G + 0)), (1, .int x1), (2, .int x2), (3, .int x3), (4, .int x4), (5, .int x5), (6, .int x6), (7, .int x7)] [] M) : b_X12_crews_51 k51 x1 x2 x3 x4 M x5 x6 x7 = some (r, M2) → Z p l e { frames := 5, cells := 0, slots := 0, locals := 132 } s m args below meth c 1 G 13 (MQ below (QC 1 G (some (.int r)) M2) args s 0 0 (AU 1 G)) 51 [(0, .ref (gB G + 0)), (1, .int x1), (2, .int x2), (3, .int x3), (4, .int x4), (5, .int x5), (6, .int x6), (7, .int x7)] [] M := by
  intro h
  unfold b_X12_crews_51 at h
  refine z_iload 7 C d_X12_crews_51 rfl ?_
  refine z_aload_n 0 C d_X12_crews_53 rfl rfl ?_
  refine z_get (k := 1) (v := .int (M.1 0 1)) C (eY_0 _ _) (by decide) rfl inX12 (by decide) wf_X12_13 rfl d_X12_crews_54 ?_
  refine z_icmp_ge C d_X12_crews_57 (fun q1 => ?_) (fun q1 => ?_)
  · have h := o_t q1 h
    exact z_sub [0, 3, 4, 5, 6] rfl (k_X12_crews_145 C hlk hr h)
  · have h := o_f q1 h
    refine z_aload_n 0 C d_X12_crews_60 rfl rfl ?_
    refine z_get (k := 27) (v := .ref (gB G + 12)) C (eY_0 _ _) (by decide) rfl inX12 (by decide) wf_X12_50 rfl d_X12_crews_61 ?_
    refine z_iload 7 C d_X12_crews_64 rfl ?_
    refine z_aload_n 0 C d_X12_crews_66 rfl rfl ?_
    refine z_iload_n 1 C d_X12_crews_67 rfl rfl ?_
    refine z_iload 7 C d_X12_crews_68 rfl ?_
    refine z_iload_n 2 C d_X12_crews_70 rfl rfl ?_
    obtain ⟨p3, e2, h⟩ := o_bd h
    refine z_V (S := [.int x7, .ref (gB G + 12)]) (As := [.int x1, .int x7, .int x2]) C (c_X12_needOf l G e2) (eY_0 _ _) (by decide) rfl wc_X12_needOf wm_X12_261 ws_X12_needOf wl_X12_needOf wi_X12 hy_X12_needOf ⟨Nat.le_of_ble_eq_true rfl, Nat.le_of_ble_eq_true rfl⟩ rfl rfl (Nat.le_of_ble_eq_true rfl) d_X12_crews_71 ?_
    obtain ⟨q6, h⟩ := o_ck h
    obtain ⟨M4, e5, h⟩ := o_wr h
    refine z_ast (fun r q => eY_12 r q) C (by decide) q6 d_X12_crews_74 ?_
    refine z_nM e5 ?_
    refine z_iload 5 C d_X12_crews_75 rfl ?_
    refine z_aload_n 0 C d_X12_crews_77 rfl rfl ?_
    refine z_get (k := 27) (v := .ref (gB G + 12)) C (eY_0 _ _) (by decide) rfl inX12 (by decide) wf_X12_50 rfl d_X12_crews_78 ?_
    refine z_iload 7 C d_X12_crews_81 rfl ?_
    refine z_ald (eY_12 _ _) C (by decide) q6 d_X12_crews_83 ?_
    refine z_if_ne C d_X12_crews_84 (fun q7 => ?_) (fun q7 => ?_)
    · have h := o_f q7 h
      refine z_iconst (v := (0 : Int32)) C d_X12_crews_91 (by decide) ?_
      exact z_sub [0, 1, 2, 3, 4, 6, 7] rfl (k_X12_crews_92 C hlk hr hk51 h)
    · have h := o_t q7 h
      refine z_iconst (v := (1 : Int32)) C d_X12_crews_87 (by decide) ?_
      refine z_goto C d_X12_crews_88 ?_
      exact z_sub [0, 1, 2, 3, 4, 6, 7] rfl (k_X12_crews_92 C hlk hr hk51 h)
theorem k_X12_crews_51 {p : Program} {l : Launch} {e : Env} {s : State} {m : MethodId} {args : Array Value} {below : List Frame} {meth : Method} {c : Code} {G : GG} {x1 : Int32} {x2 : Int32} {x3 : Int32} {x4 : Int32} {r : Int32} {M2 : Mm} (C : CX p s m args c prog_14_method_65_code 13 "SnowSentriesModel" 1 G) (hlk : meth.locks = false) (hr : meth.sig.returnType = (some .int)) : ∀ (n : Nat) (M : Mm) (x5 : Int32) (x6 : Int32) (x7 : Int32), f_X12_crews_51 x1 x2 x3 x4 n M x5 x6 x7 = some (r, M2) → Z p l e { frames := 5, cells := 0, slots := 0, locals := 132 } s m args below meth c 1 G 13 (MQ below (QC 1 G (some (.int r)) M2) args s 0 0 (AU 1 G)) 51 [(0, .ref (gB G + 0)), (1, .int x1), (2, .int x2), (3, .int x3), (4, .int x4), (5, .int x5), (6, .int x6), (7, .int x7)] [] M := by
  intro n
  induction n with
  | zero =>
    intro M x5 x6 x7  h
    exact absurd h (fun z => by cases z)
  | succ n ih =>
    intro M x5 x6 x7  h
    exact kb_X12_crews_51 C hlk hr  (fun M x5 x6 x7 h => ih M x5 x6 x7 h) h
set_option maxRecDepth 4000 in
theorem k_X12_crews_0 {p : Program} {l : Launch} {e : Env} {s : State} {m : MethodId} {args : Array Value} {below : List Frame} {meth : Method} {c : Code} {G : GG} {M : Mm} {x1 : Int32} {x2 : Int32} {x3 : Int32} {x4 : Int32} {r : Int32} {M2 : Mm} (C : CX p s m args c prog_14_method_65_code 13 "SnowSentriesModel" 1 G) (hlk : meth.locks = false) (hr : meth.sig.returnType = (some .int)) : f_X12_crews M x1 x2 x3 x4 = some (r, M2) → Z p l e { frames := 5, cells := 0, slots := 0, locals := 132 } s m args below meth c 1 G 13 (MQ below (QC 1 G (some (.int r)) M2) args s 0 0 (AU 1 G)) 0 [(0, .ref (gB G + 0)), (1, .int x1), (2, .int x2), (3, .int x3), (4, .int x4)] [] M := by
  intro h
  unfold f_X12_crews at h
  refine z_iload_n 1 C d_X12_crews_0 rfl rfl ?_
  obtain ⟨p2, e1, h⟩ := o_bd h
  refine z_S (S := []) (As := [.int x1]) C (c_X12_isSide l G (M := M) e1) wc_X12_isSide wm_X12_210 ws_X12_isSide wi_X12 hy_X12_isSide ⟨Nat.le_of_ble_eq_true rfl, Nat.le_of_ble_eq_true rfl⟩ rfl rfl (Nat.le_of_ble_eq_true rfl) d_X12_crews_1 ?_
  refine z_if_eq C d_X12_crews_4 (fun q3 => ?_) (fun q3 => ?_)
  · have h := o_t q3 h
    exact z_sub [] rfl (k_X12_crews_40 C hlk hr h)
  · have h := o_f q3 h
    refine z_aload_n 0 C d_X12_crews_7 rfl rfl ?_
    refine z_iload_n 2 C d_X12_crews_8 rfl rfl ?_
    obtain ⟨p5, e4, h⟩ := o_bd h
    refine z_V (S := []) (As := [.int x2]) C (c_X12_isAhead l G e4) (eY_0 _ _) (by decide) rfl wc_X12_isAhead wm_X12_251 ws_X12_isAhead wl_X12_isAhead wi_X12 hy_X12_isAhead ⟨Nat.le_of_ble_eq_true rfl, Nat.le_of_ble_eq_true rfl⟩ rfl rfl (Nat.le_of_ble_eq_true rfl) d_X12_crews_9 ?_
    refine z_if_eq C d_X12_crews_12 (fun q6 => ?_) (fun q6 => ?_)
    · have h := o_t q6 h
      exact z_sub [] rfl (k_X12_crews_40 C hlk hr h)
    · have h := o_f q6 h
      refine z_iload_n 3 C d_X12_crews_15 rfl rfl ?_
      refine z_i2l C d_X12_crews_16 ?_
      refine z_lconst (v := (0 : Int64)) C d_X12_crews_17 (by decide) ?_
      refine z_ldc2 (v := (10 : Int64)) C wk_X12_225 d_X12_crews_18 ?_
      obtain ⟨p8, e7, h⟩ := o_bd h
      refine z_S (S := []) (As := [.long x3.toInt64, .long (0 : Int64), .long (10 : Int64)]) C (c_X12_in l G (M := M) e7) wc_X12_in wm_X12_75 ws_X12_in wi_X12 hy_X12_in ⟨Nat.le_of_ble_eq_true rfl, Nat.le_of_ble_eq_true rfl⟩ rfl rfl (Nat.le_of_ble_eq_true rfl) d_X12_crews_21 ?_
      refine z_if_eq C d_X12_crews_24 (fun q9 => ?_) (fun q9 => ?_)
      · have h := o_t q9 h
        exact z_sub [] rfl (k_X12_crews_40 C hlk hr h)
      · have h := o_f q9 h
        refine z_iload 4 C d_X12_crews_27 rfl ?_
        refine z_i2l C d_X12_crews_29 ?_
        refine z_lconst (v := (0 : Int64)) C d_X12_crews_30 (by decide) ?_
        refine z_ldc2 (v := (2 : Int64)) C wk_X12_188 d_X12_crews_31 ?_
        obtain ⟨p11, e10, h⟩ := o_bd h
        refine z_S (S := []) (As := [.long x4.toInt64, .long (0 : Int64), .long (2 : Int64)]) C (c_X12_in l G (M := M) e10) wc_X12_in wm_X12_75 ws_X12_in wi_X12 hy_X12_in ⟨Nat.le_of_ble_eq_true rfl, Nat.le_of_ble_eq_true rfl⟩ rfl rfl (Nat.le_of_ble_eq_true rfl) d_X12_crews_34 ?_
        refine z_if_ne C d_X12_crews_37 (fun q12 => ?_) (fun q12 => ?_)
        · have h := o_f q12 h
          refine z_iconst (v := (0 : Int32)) C d_X12_crews_42 (by decide) ?_
          refine z_istore (L' := [(5, .int (0 : Int32)), (0, .ref (gB G + 0)), (1, .int x1), (2, .int x2), (3, .int x3), (4, .int x4)]) C d_X12_crews_43 (by decide) rfl ?_
          refine z_iconst (v := (0 : Int32)) C d_X12_crews_45 (by decide) ?_
          refine z_istore (L' := [(6, .int (0 : Int32)), (5, .int (0 : Int32)), (0, .ref (gB G + 0)), (1, .int x1), (2, .int x2), (3, .int x3), (4, .int x4)]) C d_X12_crews_46 (by decide) rfl ?_
          refine z_iconst (v := (0 : Int32)) C d_X12_crews_48 (by decide) ?_
          refine z_istore (L' := [(7, .int (0 : Int32)), (6, .int (0 : Int32)), (5, .int (0 : Int32)), (0, .ref (gB G + 0)), (1, .int x1), (2, .int x2), (3, .int x3), (4, .int x4)]) C d_X12_crews_49 (by decide) rfl ?_
          exact z_sub [3, 4, 5, 6, 7, 2, 1, 0] rfl (k_X12_crews_51 C hlk hr _ _ _ _ _ h)
        · have h := o_t q12 h
          exact z_sub [] rfl (k_X12_crews_40 C hlk hr h)
theorem c_X12_crews (l : Launch) (G : GG) {M : Mm} {x1 : Int32} {x2 : Int32} {x3 : Int32} {x4 : Int32} {r : Int32} {M2 : Mm} (h : f_X12_crews M x1 x2 x3 x4 = some (r, M2)) : CT l 1 G y_X12_crews prog_14_method_65_code 13 (some .int) 5 132 [.ref (gB G + 0), .int x1, .int x2, .int x3, .int x4] M (some (.int r)) M2 :=
  CT.of (by decide +kernel) (Nat.le_of_ble_eq_true rfl) rfl (fun p e s m args below meth c C hlk hr => k_X12_crews_0 C hlk hr h)
