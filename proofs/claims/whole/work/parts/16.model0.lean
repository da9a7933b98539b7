def y_X12_in : MethodName := ⟨"SnowSentriesModel", "in", "(JJJ)Z"⟩
def y_X12_feed : MethodName := ⟨"SnowSentriesModel", "feed", "(J)I"⟩
def y_X12_end : MethodName := ⟨"SnowSentriesModel", "end", "(I)I"⟩
def y_X12_byteAt : MethodName := ⟨"SnowSentriesModel", "byteAt", "(I)I"⟩
def y_X12_fails : MethodName := ⟨"SnowSentriesModel", "fails", "(I)V"⟩
def y_X12_nameHere : MethodName := ⟨"SnowSentriesModel", "nameHere", "()I"⟩
def y_X12_step : MethodName := ⟨"SnowSentriesModel", "step", "()V"⟩
def y_X12_looks : MethodName := ⟨"SnowSentriesModel", "looks", "(II)V"⟩
def y_X12_number : MethodName := ⟨"SnowSentriesModel", "number", "(II)I"⟩
def y_X12_name : MethodName := ⟨"SnowSentriesModel", "name", "(II)I"⟩
def y_X12_furlongHere : MethodName := ⟨"SnowSentriesModel", "furlongHere", "()I"⟩
def y_X12_readHours : MethodName := ⟨"SnowSentriesModel", "readHours", "(Z)V"⟩
def y_X12_readOnce : MethodName := ⟨"SnowSentriesModel", "readOnce", "(I)V"⟩
def y_X12_readSnow : MethodName := ⟨"SnowSentriesModel", "readSnow", "()V"⟩
def y_X12_readMan : MethodName := ⟨"SnowSentriesModel", "readMan", "()V"⟩
def y_X12_readBrazier : MethodName := ⟨"SnowSentriesModel", "readBrazier", "()V"⟩
def y_X12_readHouse : MethodName := ⟨"SnowSentriesModel", "readHouse", "()V"⟩
def y_X12_readLine : MethodName := ⟨"SnowSentriesModel", "readLine", "()V"⟩
def y_X12_takes : MethodName := ⟨"SnowSentriesModel", "takes", "()V"⟩
def y_X12_land : MethodName := ⟨"SnowSentriesModel", "land", "()I"⟩
def y_X12_fault : MethodName := ⟨"SnowSentriesModel", "fault", "()I"⟩
def y_X12_hourNow : MethodName := ⟨"SnowSentriesModel", "hourNow", "()I"⟩
def y_X12_rule : MethodName := ⟨"SnowSentriesModel", "rule", "(I)I"⟩
def y_X12_isHour : MethodName := ⟨"SnowSentriesModel", "isHour", "(I)Z"⟩
def y_X12_isFurlong : MethodName := ⟨"SnowSentriesModel", "isFurlong", "(I)Z"⟩
def y_X12_isSide : MethodName := ⟨"SnowSentriesModel", "isSide", "(I)Z"⟩
def y_X12_hour : MethodName := ⟨"SnowSentriesModel", "hour", "(II)I"⟩
def y_X12_manAt : MethodName := ⟨"SnowSentriesModel", "manAt", "(II)I"⟩
def y_X12_isThere : MethodName := ⟨"SnowSentriesModel", "isThere", "(III)Z"⟩
def y_X12_counts : MethodName := ⟨"SnowSentriesModel", "counts", "(III)Z"⟩
def y_X12_furlong : MethodName := ⟨"SnowSentriesModel", "furlong", "(II)I"⟩
def y_X12_man : MethodName := ⟨"SnowSentriesModel", "man", "(III)I"⟩
def y_X12_brazier : MethodName := ⟨"SnowSentriesModel", "brazier", "(II)I"⟩
def y_X12_houseOf : MethodName := ⟨"SnowSentriesModel", "houseOf", "(II)I"⟩
theorem wf_X12_72 : Cond.fieldLink "SnowSentriesModel" 72 "SnowSentriesModel" "taped" "I" ∈ TB := it_5 (List.mem_of_getElem? (i := 127) rfl) rfl
theorem wf_X12_41 : Cond.fieldLink "SnowSentriesModel" 41 "SnowSentriesModel" "tape" "[I" ∈ TB := it_5 (List.mem_of_getElem? (i := 126) rfl) rfl
theorem wm_X12_75 : Cond.methodLink "SnowSentriesModel" 75 y_X12_in ∈ TB := it_5 (List.mem_of_getElem? (i := 227) rfl) rfl
theorem wc_X12_in : Cond.code y_X12_in prog_14_method_3_code 6 (some .boolean) ∈ TB := it_5 (List.mem_of_getElem? (i := 229) rfl) rfl
theorem ws_X12_in : Cond.static y_X12_in ∈ TB := it_5 (List.mem_of_getElem? (i := 228) rfl) rfl
theorem wi_X12 : Cond.initialized "SnowSentriesModel" ∈ TB := it_1 (List.mem_of_getElem? (i := 14) rfl) rfl
theorem hy_X12_in : (y_X12_in).cls ≠ "java/lang/invoke/MethodHandle" ∧ (y_X12_in).cls ≠ "java/lang/invoke/VarHandle" ∧ (parseMethodDescriptor (y_X12_in).desc).map (fun d => d.parameters.length) = some 3 := by decide +kernel
theorem wf_X12_79 : Cond.fieldLink "SnowSentriesModel" 79 "SnowSentriesModel" "broken" "I" ∈ TB := it_5 (List.mem_of_getElem? (i := 129) rfl) rfl
theorem wf_X12_82 : Cond.fieldLink "SnowSentriesModel" 82 "SnowSentriesModel" "here" "I" ∈ TB := it_5 (List.mem_of_getElem? (i := 132) rfl) rfl
theorem wf_X12_85 : Cond.fieldLink "SnowSentriesModel" 85 "SnowSentriesModel" "brokenAt" "I" ∈ TB := it_5 (List.mem_of_getElem? (i := 130) rfl) rfl
theorem wf_X12_91 : Cond.fieldLink "SnowSentriesModel" 91 "SnowSentriesModel" "spot" "I" ∈ TB := it_5 (List.mem_of_getElem? (i := 131) rfl) rfl
theorem wm_X12_94 : Cond.methodLink "SnowSentriesModel" 94 y_X12_byteAt ∈ TB := it_5 (List.mem_of_getElem? (i := 238) rfl) rfl
theorem wc_X12_byteAt : Cond.code y_X12_byteAt prog_14_method_6_code 2 (some .int) ∈ TB := it_6 (List.mem_of_getElem? (i := 1) rfl) rfl
theorem ws_X12_byteAt : Cond.instanceMethod y_X12_byteAt ∈ TB := it_6 (List.mem_of_getElem? (i := 0) rfl) rfl
theorem hy_X12_byteAt : (y_X12_byteAt).cls ≠ "java/lang/invoke/MethodHandle" ∧ (y_X12_byteAt).cls ≠ "java/lang/invoke/VarHandle" ∧ (parseMethodDescriptor (y_X12_byteAt).desc).map (fun d => d.parameters.length) = some 1 := by decide +kernel
theorem wl_X12_byteAt : Cond.selects "SnowSentriesModel" y_X12_byteAt y_X12_byteAt ∈ TB := TB_in (List.mem_append_left _ (List.mem_of_getElem? (i := 37) rfl)) rfl
theorem wf_X12_47 : Cond.fieldLink "SnowSentriesModel" 47 "SnowSentriesModel" "letters" "[I" ∈ TB := it_5 (List.mem_of_getElem? (i := 136) rfl) rfl
theorem wf_X12_44 : Cond.fieldLink "SnowSentriesModel" 44 "SnowSentriesModel" "cuts" "[I" ∈ TB := it_5 (List.mem_of_getElem? (i := 135) rfl) rfl
theorem wf_X12_88 : Cond.fieldLink "SnowSentriesModel" 88 "SnowSentriesModel" "token" "I" ∈ TB := it_5 (List.mem_of_getElem? (i := 133) rfl) rfl
theorem wk_X12_101 : Cond.constantLong "SnowSentriesModel" 101 (97 : Int64) ∈ TB := it_6 (List.mem_of_getElem? (i := 2) rfl) rfl
theorem wk_X12_103 : Cond.constantLong "SnowSentriesModel" 103 (122 : Int64) ∈ TB := it_6 (List.mem_of_getElem? (i := 3) rfl) rfl
theorem wf_X12_98 : Cond.fieldLink "SnowSentriesModel" 98 "SnowSentriesModel" "value" "I" ∈ TB := it_5 (List.mem_of_getElem? (i := 134) rfl) rfl
theorem wm_X12_109 : Cond.methodLink "SnowSentriesModel" 109 y_X12_fails ∈ TB := it_6 (List.mem_of_getElem? (i := 6) rfl) rfl
theorem wc_X12_fails : Cond.code y_X12_fails prog_14_method_7_code 2 none ∈ TB := it_6 (List.mem_of_getElem? (i := 9) rfl) rfl
theorem ws_X12_fails : Cond.instanceMethod y_X12_fails ∈ TB := it_6 (List.mem_of_getElem? (i := 8) rfl) rfl
theorem hy_X12_fails : (y_X12_fails).cls ≠ "java/lang/invoke/MethodHandle" ∧ (y_X12_fails).cls ≠ "java/lang/invoke/VarHandle" ∧ (parseMethodDescriptor (y_X12_fails).desc).map (fun d => d.parameters.length) = some 1 := by decide +kernel
theorem wl_X12_fails : Cond.selects "SnowSentriesModel" y_X12_fails y_X12_fails ∈ TB := TB_in (List.mem_append_left _ (List.mem_of_getElem? (i := 38) rfl)) rfl
theorem wk_X12_105 : Cond.constantLong "SnowSentriesModel" 105 (48 : Int64) ∈ TB := it_6 (List.mem_of_getElem? (i := 4) rfl) rfl
theorem wk_X12_107 : Cond.constantLong "SnowSentriesModel" 107 (57 : Int64) ∈ TB := it_6 (List.mem_of_getElem? (i := 5) rfl) rfl
theorem wm_X12_117 : Cond.methodLink "SnowSentriesModel" 117 y_X12_step ∈ TB := it_5 (List.mem_of_getElem? (i := 234) rfl) rfl
theorem wc_X12_step : Cond.code y_X12_step prog_14_method_9_code 2 none ∈ TB := it_5 (List.mem_of_getElem? (i := 237) rfl) rfl
theorem ws_X12_step : Cond.instanceMethod y_X12_step ∈ TB := it_5 (List.mem_of_getElem? (i := 236) rfl) rfl
theorem hy_X12_step : (y_X12_step).cls ≠ "java/lang/invoke/MethodHandle" ∧ (y_X12_step).cls ≠ "java/lang/invoke/VarHandle" ∧ (parseMethodDescriptor (y_X12_step).desc).map (fun d => d.parameters.length) = some 0 := by decide +kernel
theorem wl_X12_step : Cond.selects "SnowSentriesModel" y_X12_step y_X12_step ∈ TB := TB_in (List.mem_append_left _ (List.mem_of_getElem? (i := 36) rfl)) rfl
theorem wm_X12_113 : Cond.methodLink "SnowSentriesModel" 113 y_X12_looks ∈ TB := it_6 (List.mem_of_getElem? (i := 27) rfl) rfl
theorem wc_X12_looks : Cond.code y_X12_looks prog_14_method_10_code 3 none ∈ TB := it_6 (List.mem_of_getElem? (i := 30) rfl) rfl
theorem ws_X12_looks : Cond.instanceMethod y_X12_looks ∈ TB := it_6 (List.mem_of_getElem? (i := 29) rfl) rfl
theorem hy_X12_looks : (y_X12_looks).cls ≠ "java/lang/invoke/MethodHandle" ∧ (y_X12_looks).cls ≠ "java/lang/invoke/VarHandle" ∧ (parseMethodDescriptor (y_X12_looks).desc).map (fun d => d.parameters.length) = some 2 := by decide +kernel
theorem wl_X12_looks : Cond.selects "SnowSentriesModel" y_X12_looks y_X12_looks ∈ TB := TB_in (List.mem_append_left _ (List.mem_of_getElem? (i := 43) rfl)) rfl
theorem wm_X12_120 : Cond.methodLink "SnowSentriesModel" 120 y_X12_nameHere ∈ TB := it_6 (List.mem_of_getElem? (i := 14) rfl) rfl
theorem wc_X12_nameHere : Cond.code y_X12_nameHere prog_14_method_8_code 4 (some .int) ∈ TB := it_6 (List.mem_of_getElem? (i := 17) rfl) rfl
theorem ws_X12_nameHere : Cond.instanceMethod y_X12_nameHere ∈ TB := it_6 (List.mem_of_getElem? (i := 16) rfl) rfl
theorem hy_X12_nameHere : (y_X12_nameHere).cls ≠ "java/lang/invoke/MethodHandle" ∧ (y_X12_nameHere).cls ≠ "java/lang/invoke/VarHandle" ∧ (parseMethodDescriptor (y_X12_nameHere).desc).map (fun d => d.parameters.length) = some 0 := by decide +kernel
theorem wl_X12_nameHere : Cond.selects "SnowSentriesModel" y_X12_nameHere y_X12_nameHere ∈ TB := TB_in (List.mem_append_left _ (List.mem_of_getElem? (i := 40) rfl)) rfl
theorem wf_X12_124 : Cond.fieldLink "SnowSentriesModel" 124 "SnowSentriesModel" "highest" "I" ∈ TB := it_5 (List.mem_of_getElem? (i := 125) rfl) rfl
theorem wm_X12_127 : Cond.methodLink "SnowSentriesModel" 127 y_X12_number ∈ TB := it_6 (List.mem_of_getElem? (i := 23) rfl) rfl
theorem wc_X12_number : Cond.code y_X12_number prog_14_method_11_code 4 (some .int) ∈ TB := it_6 (List.mem_of_getElem? (i := 26) rfl) rfl
theorem ws_X12_number : Cond.instanceMethod y_X12_number ∈ TB := it_6 (List.mem_of_getElem? (i := 25) rfl) rfl
theorem hy_X12_number : (y_X12_number).cls ≠ "java/lang/invoke/MethodHandle" ∧ (y_X12_number).cls ≠ "java/lang/invoke/VarHandle" ∧ (parseMethodDescriptor (y_X12_number).desc).map (fun d => d.parameters.length) = some 2 := by decide +kernel
theorem wl_X12_number : Cond.selects "SnowSentriesModel" y_X12_number y_X12_number ∈ TB := TB_in (List.mem_append_left _ (List.mem_of_getElem? (i := 42) rfl)) rfl
theorem wf_X12_32 : Cond.fieldLink "SnowSentriesModel" 32 "SnowSentriesModel" "readFrosts" "[I" ∈ TB := it_5 (List.mem_of_getElem? (i := 118) rfl) rfl
theorem wf_X12_29 : Cond.fieldLink "SnowSentriesModel" 29 "SnowSentriesModel" "readPage" "[I" ∈ TB := it_5 (List.mem_of_getElem? (i := 117) rfl) rfl
theorem wm_X12_137 : Cond.methodLink "SnowSentriesModel" 137 y_X12_readHours ∈ TB := it_6 (List.mem_of_getElem? (i := 31) rfl) rfl
theorem wc_X12_readHours : Cond.code y_X12_readHours prog_14_method_14_code 4 none ∈ TB := it_6 (List.mem_of_getElem? (i := 34) rfl) rfl
theorem ws_X12_readHours : Cond.instanceMethod y_X12_readHours ∈ TB := it_6 (List.mem_of_getElem? (i := 33) rfl) rfl
theorem hy_X12_readHours : (y_X12_readHours).cls ≠ "java/lang/invoke/MethodHandle" ∧ (y_X12_readHours).cls ≠ "java/lang/invoke/VarHandle" ∧ (parseMethodDescriptor (y_X12_readHours).desc).map (fun d => d.parameters.length) = some 1 := by decide +kernel
theorem wl_X12_readHours : Cond.selects "SnowSentriesModel" y_X12_readHours y_X12_readHours ∈ TB := TB_in (List.mem_append_left _ (List.mem_of_getElem? (i := 44) rfl)) rfl
theorem wf_X12_131 : Cond.fieldLink "SnowSentriesModel" 131 "SnowSentriesModel" "toldOnes" "I" ∈ TB := it_5 (List.mem_of_getElem? (i := 123) rfl) rfl
theorem wf_X12_35 : Cond.fieldLink "SnowSentriesModel" 35 "SnowSentriesModel" "readTreaties" "[I" ∈ TB := it_5 (List.mem_of_getElem? (i := 119) rfl) rfl
theorem wf_X12_134 : Cond.fieldLink "SnowSentriesModel" 134 "SnowSentriesModel" "readFurlongs" "I" ∈ TB := it_5 (List.mem_of_getElem? (i := 122) rfl) rfl
theorem wf_X12_144 : Cond.fieldLink "SnowSentriesModel" 144 "SnowSentriesModel" "toldSnow" "I" ∈ TB := it_5 (List.mem_of_getElem? (i := 124) rfl) rfl
theorem wm_X12_141 : Cond.methodLink "SnowSentriesModel" 141 y_X12_furlongHere ∈ TB := it_6 (List.mem_of_getElem? (i := 39) rfl) rfl
theorem wc_X12_furlongHere : Cond.code y_X12_furlongHere prog_14_method_13_code 2 (some .int) ∈ TB := it_6 (List.mem_of_getElem? (i := 42) rfl) rfl
theorem ws_X12_furlongHere : Cond.instanceMethod y_X12_furlongHere ∈ TB := it_6 (List.mem_of_getElem? (i := 41) rfl) rfl
theorem hy_X12_furlongHere : (y_X12_furlongHere).cls ≠ "java/lang/invoke/MethodHandle" ∧ (y_X12_furlongHere).cls ≠ "java/lang/invoke/VarHandle" ∧ (parseMethodDescriptor (y_X12_furlongHere).desc).map (fun d => d.parameters.length) = some 0 := by decide +kernel
theorem wl_X12_furlongHere : Cond.selects "SnowSentriesModel" y_X12_furlongHere y_X12_furlongHere ∈ TB := TB_in (List.mem_append_left _ (List.mem_of_getElem? (i := 46) rfl)) rfl
theorem wm_X12_147 : Cond.methodLink "SnowSentriesModel" 147 y_X12_name ∈ TB := it_6 (List.mem_of_getElem? (i := 47) rfl) rfl
theorem wc_X12_name : Cond.code y_X12_name prog_14_method_12_code 4 (some .int) ∈ TB := it_6 (List.mem_of_getElem? (i := 50) rfl) rfl
theorem ws_X12_name : Cond.instanceMethod y_X12_name ∈ TB := it_6 (List.mem_of_getElem? (i := 49) rfl) rfl
theorem hy_X12_name : (y_X12_name).cls ≠ "java/lang/invoke/MethodHandle" ∧ (y_X12_name).cls ≠ "java/lang/invoke/VarHandle" ∧ (parseMethodDescriptor (y_X12_name).desc).map (fun d => d.parameters.length) = some 2 := by decide +kernel
theorem wl_X12_name : Cond.selects "SnowSentriesModel" y_X12_name y_X12_name ∈ TB := TB_in (List.mem_append_left _ (List.mem_of_getElem? (i := 48) rfl)) rfl
theorem wf_X12_150 : Cond.fieldLink "SnowSentriesModel" 150 "SnowSentriesModel" "readHouseMany" "I" ∈ TB := it_5 (List.mem_of_getElem? (i := 121) rfl) rfl
theorem wf_X12_38 : Cond.fieldLink "SnowSentriesModel" 38 "SnowSentriesModel" "readHouses" "[I" ∈ TB := it_5 (List.mem_of_getElem? (i := 120) rfl) rfl
theorem wk_X12_153 : Cond.constantLong "SnowSentriesModel" 153 (7 : Int64) ∈ TB := it_6 (List.mem_of_getElem? (i := 18) rfl) rfl
theorem wm_X12_167 : Cond.methodLink "SnowSentriesModel" 167 y_X12_readMan ∈ TB := it_6 (List.mem_of_getElem? (i := 55) rfl) rfl
theorem wc_X12_readMan : Cond.code y_X12_readMan prog_14_method_17_code 4 none ∈ TB := it_6 (List.mem_of_getElem? (i := 58) rfl) rfl
theorem ws_X12_readMan : Cond.instanceMethod y_X12_readMan ∈ TB := it_6 (List.mem_of_getElem? (i := 57) rfl) rfl
theorem hy_X12_readMan : (y_X12_readMan).cls ≠ "java/lang/invoke/MethodHandle" ∧ (y_X12_readMan).cls ≠ "java/lang/invoke/VarHandle" ∧ (parseMethodDescriptor (y_X12_readMan).desc).map (fun d => d.parameters.length) = some 0 := by decide +kernel
theorem wl_X12_readMan : Cond.selects "SnowSentriesModel" y_X12_readMan y_X12_readMan ∈ TB := TB_in (List.mem_append_left _ (List.mem_of_getElem? (i := 50) rfl)) rfl
theorem wm_X12_164 : Cond.methodLink "SnowSentriesModel" 164 y_X12_readSnow ∈ TB := it_6 (List.mem_of_getElem? (i := 51) rfl) rfl
theorem wc_X12_readSnow : Cond.code y_X12_readSnow prog_14_method_16_code 2 none ∈ TB := it_6 (List.mem_of_getElem? (i := 54) rfl) rfl
theorem ws_X12_readSnow : Cond.instanceMethod y_X12_readSnow ∈ TB := it_6 (List.mem_of_getElem? (i := 53) rfl) rfl
theorem hy_X12_readSnow : (y_X12_readSnow).cls ≠ "java/lang/invoke/MethodHandle" ∧ (y_X12_readSnow).cls ≠ "java/lang/invoke/VarHandle" ∧ (parseMethodDescriptor (y_X12_readSnow).desc).map (fun d => d.parameters.length) = some 0 := by decide +kernel
theorem wl_X12_readSnow : Cond.selects "SnowSentriesModel" y_X12_readSnow y_X12_readSnow ∈ TB := TB_in (List.mem_append_left _ (List.mem_of_getElem? (i := 49) rfl)) rfl
theorem wm_X12_161 : Cond.methodLink "SnowSentriesModel" 161 y_X12_readHouse ∈ TB := it_6 (List.mem_of_getElem? (i := 43) rfl) rfl
theorem wc_X12_readHouse : Cond.code y_X12_readHouse prog_14_method_19_code 2 none ∈ TB := it_6 (List.mem_of_getElem? (i := 46) rfl) rfl
theorem ws_X12_readHouse : Cond.instanceMethod y_X12_readHouse ∈ TB := it_6 (List.mem_of_getElem? (i := 45) rfl) rfl
theorem hy_X12_readHouse : (y_X12_readHouse).cls ≠ "java/lang/invoke/MethodHandle" ∧ (y_X12_readHouse).cls ≠ "java/lang/invoke/VarHandle" ∧ (parseMethodDescriptor (y_X12_readHouse).desc).map (fun d => d.parameters.length) = some 0 := by decide +kernel
theorem wl_X12_readHouse : Cond.selects "SnowSentriesModel" y_X12_readHouse y_X12_readHouse ∈ TB := TB_in (List.mem_append_left _ (List.mem_of_getElem? (i := 47) rfl)) rfl
theorem wm_X12_158 : Cond.methodLink "SnowSentriesModel" 158 y_X12_readBrazier ∈ TB := it_6 (List.mem_of_getElem? (i := 35) rfl) rfl
theorem wc_X12_readBrazier : Cond.code y_X12_readBrazier prog_14_method_18_code 3 none ∈ TB := it_6 (List.mem_of_getElem? (i := 38) rfl) rfl
theorem ws_X12_readBrazier : Cond.instanceMethod y_X12_readBrazier ∈ TB := it_6 (List.mem_of_getElem? (i := 37) rfl) rfl
theorem hy_X12_readBrazier : (y_X12_readBrazier).cls ≠ "java/lang/invoke/MethodHandle" ∧ (y_X12_readBrazier).cls ≠ "java/lang/invoke/VarHandle" ∧ (parseMethodDescriptor (y_X12_readBrazier).desc).map (fun d => d.parameters.length) = some 0 := by decide +kernel
theorem wl_X12_readBrazier : Cond.selects "SnowSentriesModel" y_X12_readBrazier y_X12_readBrazier ∈ TB := TB_in (List.mem_append_left _ (List.mem_of_getElem? (i := 45) rfl)) rfl
theorem wm_X12_155 : Cond.methodLink "SnowSentriesModel" 155 y_X12_readOnce ∈ TB := it_6 (List.mem_of_getElem? (i := 19) rfl) rfl
theorem wc_X12_readOnce : Cond.code y_X12_readOnce prog_14_method_15_code 2 none ∈ TB := it_6 (List.mem_of_getElem? (i := 22) rfl) rfl
theorem ws_X12_readOnce : Cond.instanceMethod y_X12_readOnce ∈ TB := it_6 (List.mem_of_getElem? (i := 21) rfl) rfl
theorem hy_X12_readOnce : (y_X12_readOnce).cls ≠ "java/lang/invoke/MethodHandle" ∧ (y_X12_readOnce).cls ≠ "java/lang/invoke/VarHandle" ∧ (parseMethodDescriptor (y_X12_readOnce).desc).map (fun d => d.parameters.length) = some 1 := by decide +kernel
theorem wl_X12_readOnce : Cond.selects "SnowSentriesModel" y_X12_readOnce y_X12_readOnce ∈ TB := TB_in (List.mem_append_left _ (List.mem_of_getElem? (i := 41) rfl)) rfl
theorem wf_X12_13 : Cond.fieldLink "SnowSentriesModel" 13 "SnowSentriesModel" "furlongs" "I" ∈ TB := it_5 (List.mem_of_getElem? (i := 111) rfl) rfl
theorem wf_X12_170 : Cond.fieldLink "SnowSentriesModel" 170 "SnowSentriesModel" "houseMany" "I" ∈ TB := it_5 (List.mem_of_getElem? (i := 115) rfl) rfl
theorem wf_X12_173 : Cond.fieldLink "SnowSentriesModel" 173 "SnowSentriesModel" "feltMany" "I" ∈ TB := it_5 (List.mem_of_getElem? (i := 140) rfl) rfl
theorem wf_X12_59 : Cond.fieldLink "SnowSentriesModel" 59 "SnowSentriesModel" "isKept" "[Z" ∈ TB := it_5 (List.mem_of_getElem? (i := 141) rfl) rfl
theorem wf_X12_23 : Cond.fieldLink "SnowSentriesModel" 23 "SnowSentriesModel" "houses" "[I" ∈ TB := it_5 (List.mem_of_getElem? (i := 114) rfl) rfl
theorem wf_X12_17 : Cond.fieldLink "SnowSentriesModel" 17 "SnowSentriesModel" "frosts" "[I" ∈ TB := it_5 (List.mem_of_getElem? (i := 112) rfl) rfl
theorem wf_X12_20 : Cond.fieldLink "SnowSentriesModel" 20 "SnowSentriesModel" "treaties" "[I" ∈ TB := it_5 (List.mem_of_getElem? (i := 113) rfl) rfl
theorem wf_X12_7 : Cond.fieldLink "SnowSentriesModel" 7 "SnowSentriesModel" "state" "[I" ∈ TB := it_5 (List.mem_of_getElem? (i := 110) rfl) rfl
theorem wf_X12_179 : Cond.fieldLink "SnowSentriesModel" 179 "SnowSentriesModel" "fault" "I" ∈ TB := it_5 (List.mem_of_getElem? (i := 128) rfl) rfl
theorem wm_X12_182 : Cond.methodLink "SnowSentriesModel" 182 y_X12_takes ∈ TB := it_6 (List.mem_of_getElem? (i := 59) rfl) rfl
theorem wc_X12_takes : Cond.code y_X12_takes prog_14_method_21_code 2 none ∈ TB := it_6 (List.mem_of_getElem? (i := 62) rfl) rfl
theorem ws_X12_takes : Cond.instanceMethod y_X12_takes ∈ TB := it_6 (List.mem_of_getElem? (i := 61) rfl) rfl
theorem hy_X12_takes : (y_X12_takes).cls ≠ "java/lang/invoke/MethodHandle" ∧ (y_X12_takes).cls ≠ "java/lang/invoke/VarHandle" ∧ (parseMethodDescriptor (y_X12_takes).desc).map (fun d => d.parameters.length) = some 0 := by decide +kernel
theorem wl_X12_takes : Cond.selects "SnowSentriesModel" y_X12_takes y_X12_takes ∈ TB := TB_in (List.mem_append_left _ (List.mem_of_getElem? (i := 51) rfl)) rfl
theorem wf_X12_26 : Cond.fieldLink "SnowSentriesModel" 26 "SnowSentriesModel" "chanceOf" "I" ∈ TB := it_5 (List.mem_of_getElem? (i := 116) rfl) rfl
theorem wm_X12_176 : Cond.methodLink "SnowSentriesModel" 176 y_X12_readLine ∈ TB := it_6 (List.mem_of_getElem? (i := 10) rfl) rfl
theorem wc_X12_readLine : Cond.code y_X12_readLine prog_14_method_20_code 2 none ∈ TB := it_6 (List.mem_of_getElem? (i := 13) rfl) rfl
theorem ws_X12_readLine : Cond.instanceMethod y_X12_readLine ∈ TB := it_6 (List.mem_of_getElem? (i := 12) rfl) rfl
theorem hy_X12_readLine : (y_X12_readLine).cls ≠ "java/lang/invoke/MethodHandle" ∧ (y_X12_readLine).cls ≠ "java/lang/invoke/VarHandle" ∧ (parseMethodDescriptor (y_X12_readLine).desc).map (fun d => d.parameters.length) = some 0 := by decide +kernel
theorem wl_X12_readLine : Cond.selects "SnowSentriesModel" y_X12_readLine y_X12_readLine ∈ TB := TB_in (List.mem_append_left _ (List.mem_of_getElem? (i := 39) rfl)) rfl
theorem wk_X12_188 : Cond.constantLong "SnowSentriesModel" 188 (2 : Int64) ∈ TB := it_6 (List.mem_of_getElem? (i := 75) rfl) rfl
theorem wk_X12_190 : Cond.constantLong "SnowSentriesModel" 190 (4 : Int64) ∈ TB := it_6 (List.mem_of_getElem? (i := 76) rfl) rfl
theorem wm_X12_185 : Cond.methodLink "SnowSentriesModel" 185 y_X12_hourNow ∈ TB := it_6 (List.mem_of_getElem? (i := 71) rfl) rfl
theorem wc_X12_hourNow : Cond.code y_X12_hourNow prog_14_method_24_code 1 (some .int) ∈ TB := it_6 (List.mem_of_getElem? (i := 74) rfl) rfl
theorem ws_X12_hourNow : Cond.instanceMethod y_X12_hourNow ∈ TB := it_6 (List.mem_of_getElem? (i := 73) rfl) rfl
theorem hy_X12_hourNow : (y_X12_hourNow).cls ≠ "java/lang/invoke/MethodHandle" ∧ (y_X12_hourNow).cls ≠ "java/lang/invoke/VarHandle" ∧ (parseMethodDescriptor (y_X12_hourNow).desc).map (fun d => d.parameters.length) = some 0 := by decide +kernel
theorem wl_X12_hourNow : Cond.selects "SnowSentriesModel" y_X12_hourNow y_X12_hourNow ∈ TB := TB_in (List.mem_append_left _ (List.mem_of_getElem? (i := 52) rfl)) rfl
theorem wk_X12_192 : Cond.constantLong "SnowSentriesModel" 192 (11 : Int64) ∈ TB := it_6 (List.mem_of_getElem? (i := 84) rfl) rfl
theorem wm_X12_194 : Cond.methodLink "SnowSentriesModel" 194 y_X12_isHour ∈ TB := it_6 (List.mem_of_getElem? (i := 81) rfl) rfl
theorem wc_X12_isHour : Cond.code y_X12_isHour prog_14_method_26_code 1 (some .boolean) ∈ TB := it_6 (List.mem_of_getElem? (i := 83) rfl) rfl
theorem ws_X12_isHour : Cond.static y_X12_isHour ∈ TB := it_6 (List.mem_of_getElem? (i := 82) rfl) rfl
theorem hy_X12_isHour : (y_X12_isHour).cls ≠ "java/lang/invoke/MethodHandle" ∧ (y_X12_isHour).cls ≠ "java/lang/invoke/VarHandle" ∧ (parseMethodDescriptor (y_X12_isHour).desc).map (fun d => d.parameters.length) = some 1 := by decide +kernel
theorem wm_X12_198 : Cond.methodLink "SnowSentriesModel" 198 y_X12_manAt ∈ TB := it_6 (List.mem_of_getElem? (i := 98) rfl) rfl
theorem wc_X12_manAt : Cond.code y_X12_manAt prog_14_method_30_code 2 (some .int) ∈ TB := it_6 (List.mem_of_getElem? (i := 100) rfl) rfl
theorem ws_X12_manAt : Cond.static y_X12_manAt ∈ TB := it_6 (List.mem_of_getElem? (i := 99) rfl) rfl
theorem hy_X12_manAt : (y_X12_manAt).cls ≠ "java/lang/invoke/MethodHandle" ∧ (y_X12_manAt).cls ≠ "java/lang/invoke/VarHandle" ∧ (parseMethodDescriptor (y_X12_manAt).desc).map (fun d => d.parameters.length) = some 2 := by decide +kernel
theorem wm_X12_206 : Cond.methodLink "SnowSentriesModel" 206 y_X12_counts ∈ TB := it_6 (List.mem_of_getElem? (i := 94) rfl) rfl
theorem wc_X12_counts : Cond.code y_X12_counts prog_14_method_32_code 5 (some .boolean) ∈ TB := it_6 (List.mem_of_getElem? (i := 97) rfl) rfl
theorem ws_X12_counts : Cond.instanceMethod y_X12_counts ∈ TB := it_6 (List.mem_of_getElem? (i := 96) rfl) rfl
theorem hy_X12_counts : (y_X12_counts).cls ≠ "java/lang/invoke/MethodHandle" ∧ (y_X12_counts).cls ≠ "java/lang/invoke/VarHandle" ∧ (parseMethodDescriptor (y_X12_counts).desc).map (fun d => d.parameters.length) = some 3 := by decide +kernel
theorem wl_X12_counts : Cond.selects "SnowSentriesModel" y_X12_counts y_X12_counts ∈ TB := TB_in (List.mem_append_left _ (List.mem_of_getElem? (i := 54) rfl)) rfl
theorem wm_X12_201 : Cond.methodLink "SnowSentriesModel" 201 y_X12_isFurlong ∈ TB := it_6 (List.mem_of_getElem? (i := 89) rfl) rfl
theorem wc_X12_isFurlong : Cond.code y_X12_isFurlong prog_14_method_27_code 2 (some .boolean) ∈ TB := it_6 (List.mem_of_getElem? (i := 92) rfl) rfl
theorem ws_X12_isFurlong : Cond.instanceMethod y_X12_isFurlong ∈ TB := it_6 (List.mem_of_getElem? (i := 91) rfl) rfl
theorem hy_X12_isFurlong : (y_X12_isFurlong).cls ≠ "java/lang/invoke/MethodHandle" ∧ (y_X12_isFurlong).cls ≠ "java/lang/invoke/VarHandle" ∧ (parseMethodDescriptor (y_X12_isFurlong).desc).map (fun d => d.parameters.length) = some 1 := by decide +kernel
theorem wl_X12_isFurlong : Cond.selects "SnowSentriesModel" y_X12_isFurlong y_X12_isFurlong ∈ TB := TB_in (List.mem_append_left _ (List.mem_of_getElem? (i := 53) rfl)) rfl
theorem wk_X12_204 : Cond.constantLong "SnowSentriesModel" 204 (3 : Int64) ∈ TB := it_6 (List.mem_of_getElem? (i := 93) rfl) rfl
theorem wm_X12_210 : Cond.methodLink "SnowSentriesModel" 210 y_X12_isSide ∈ TB := it_6 (List.mem_of_getElem? (i := 105) rfl) rfl
theorem wc_X12_isSide : Cond.code y_X12_isSide prog_14_method_28_code 1 (some .boolean) ∈ TB := it_6 (List.mem_of_getElem? (i := 107) rfl) rfl
theorem ws_X12_isSide : Cond.static y_X12_isSide ∈ TB := it_6 (List.mem_of_getElem? (i := 106) rfl) rfl
theorem hy_X12_isSide : (y_X12_isSide).cls ≠ "java/lang/invoke/MethodHandle" ∧ (y_X12_isSide).cls ≠ "java/lang/invoke/VarHandle" ∧ (parseMethodDescriptor (y_X12_isSide).desc).map (fun d => d.parameters.length) = some 1 := by decide +kernel
theorem wk_X12_213 : Cond.constantLong "SnowSentriesModel" 213 (5 : Int64) ∈ TB := it_6 (List.mem_of_getElem? (i := 108) rfl) rfl
theorem wm_X12_215 : Cond.methodLink "SnowSentriesModel" 215 y_X12_isThere ∈ TB := it_6 (List.mem_of_getElem? (i := 109) rfl) rfl
theorem wc_X12_isThere : Cond.code y_X12_isThere prog_14_method_31_code 4 (some .boolean) ∈ TB := it_6 (List.mem_of_getElem? (i := 112) rfl) rfl
theorem ws_X12_isThere : Cond.instanceMethod y_X12_isThere ∈ TB := it_6 (List.mem_of_getElem? (i := 111) rfl) rfl
theorem hy_X12_isThere : (y_X12_isThere).cls ≠ "java/lang/invoke/MethodHandle" ∧ (y_X12_isThere).cls ≠ "java/lang/invoke/VarHandle" ∧ (parseMethodDescriptor (y_X12_isThere).desc).map (fun d => d.parameters.length) = some 3 := by decide +kernel
theorem wl_X12_isThere : Cond.selects "SnowSentriesModel" y_X12_isThere y_X12_isThere ∈ TB := TB_in (List.mem_append_left _ (List.mem_of_getElem? (i := 55) rfl)) rfl
theorem d_X12_in_0 : DD prog_14_method_3_code 0 (.lload_n 0) 1 1 := ⟨by decide +kernel, rfl⟩
theorem d_X12_in_1 : DD prog_14_method_3_code 1 (.lload_n 2) 1 2 := ⟨by decide +kernel, rfl⟩
theorem d_X12_in_2 : DD prog_14_method_3_code 2 (.lcmp) 1 3 := ⟨by decide +kernel, rfl⟩
theorem d_X12_in_3 : DJ prog_14_method_3_code 3 (fun o => .ifCond .lt o) 17 3 6 := ⟨by decide +kernel, rfl⟩
theorem d_X12_in_6 : DD prog_14_method_3_code 6 (.lload_n 0) 1 7 := ⟨by decide +kernel, rfl⟩
theorem d_X12_in_7 : DD prog_14_method_3_code 7 (.lload 4) 2 9 := ⟨by decide +kernel, rfl⟩
theorem d_X12_in_9 : DD prog_14_method_3_code 9 (.lcmp) 1 10 := ⟨by decide +kernel, rfl⟩
theorem d_X12_in_10 : DJ prog_14_method_3_code 10 (fun o => .ifCond .gt o) 17 3 13 := ⟨by decide +kernel, rfl⟩
theorem d_X12_in_13 : DD prog_14_method_3_code 13 (.iconst 1) 1 14 := ⟨by decide +kernel, rfl⟩
theorem d_X12_in_14 : DJ prog_14_method_3_code 14 (fun o => .goto o) 18 3 17 := ⟨by decide +kernel, rfl⟩
theorem d_X12_in_17 : DD prog_14_method_3_code 17 (.iconst 0) 1 18 := ⟨by decide +kernel, rfl⟩
theorem d_X12_in_18 : DD prog_14_method_3_code 18 (.ireturn) 1 19 := ⟨by decide +kernel, rfl⟩
theorem d_X12_feed_0 : DD prog_14_method_4_code 0 (.aload_n 0) 1 1 := ⟨by decide +kernel, rfl⟩
theorem d_X12_feed_1 : DD prog_14_method_4_code 1 (.getfield 72) 3 4 := ⟨by decide +kernel, rfl⟩
theorem d_X12_feed_4 : DD prog_14_method_4_code 4 (.bipush 8) 2 6 := ⟨by decide +kernel, rfl⟩
theorem d_X12_feed_6 : DD prog_14_method_4_code 6 (.iadd) 1 7 := ⟨by decide +kernel, rfl⟩
theorem d_X12_feed_7 : DD prog_14_method_4_code 7 (.sipush 400) 3 10 := ⟨by decide +kernel, rfl⟩
theorem d_X12_feed_10 : DJ prog_14_method_4_code 10 (fun o => .if_icmp .le o) 16 3 13 := ⟨by decide +kernel, rfl⟩
theorem d_X12_feed_13 : DD prog_14_method_4_code 13 (.bipush (-3)) 2 15 := ⟨by decide +kernel, rfl⟩
theorem d_X12_feed_15 : DD prog_14_method_4_code 15 (.ireturn) 1 16 := ⟨by decide +kernel, rfl⟩
theorem d_X12_feed_16 : DD prog_14_method_4_code 16 (.bipush 56) 2 18 := ⟨by decide +kernel, rfl⟩
theorem d_X12_feed_18 : DD prog_14_method_4_code 18 (.istore_n 3) 1 19 := ⟨by decide +kernel, rfl⟩
theorem d_X12_feed_19 : DD prog_14_method_4_code 19 (.iload_n 3) 1 20 := ⟨by decide +kernel, rfl⟩
theorem d_X12_feed_20 : DJ prog_14_method_4_code 20 (fun o => .ifCond .lt o) 56 3 23 := ⟨by decide +kernel, rfl⟩
theorem d_X12_feed_23 : DD prog_14_method_4_code 23 (.aload_n 0) 1 24 := ⟨by decide +kernel, rfl⟩
theorem d_X12_feed_24 : DD prog_14_method_4_code 24 (.getfield 41) 3 27 := ⟨by decide +kernel, rfl⟩
theorem d_X12_feed_27 : DD prog_14_method_4_code 27 (.aload_n 0) 1 28 := ⟨by decide +kernel, rfl⟩
theorem d_X12_feed_28 : DD prog_14_method_4_code 28 (.getfield 72) 3 31 := ⟨by decide +kernel, rfl⟩
theorem d_X12_feed_31 : DD prog_14_method_4_code 31 (.lload_n 1) 1 32 := ⟨by decide +kernel, rfl⟩
theorem d_X12_feed_32 : DD prog_14_method_4_code 32 (.iload_n 3) 1 33 := ⟨by decide +kernel, rfl⟩
theorem d_X12_feed_33 : DD prog_14_method_4_code 33 (.lshr) 1 34 := ⟨by decide +kernel, rfl⟩
theorem d_X12_feed_34 : DD prog_14_method_4_code 34 (.l2i) 1 35 := ⟨by decide +kernel, rfl⟩
theorem d_X12_feed_35 : DD prog_14_method_4_code 35 (.sipush 255) 3 38 := ⟨by decide +kernel, rfl⟩
theorem d_X12_feed_38 : DD prog_14_method_4_code 38 (.iand) 1 39 := ⟨by decide +kernel, rfl⟩
theorem d_X12_feed_39 : DD prog_14_method_4_code 39 (.iastore) 1 40 := ⟨by decide +kernel, rfl⟩
theorem d_X12_feed_40 : DD prog_14_method_4_code 40 (.aload_n 0) 1 41 := ⟨by decide +kernel, rfl⟩
theorem d_X12_feed_41 : DD prog_14_method_4_code 41 (.dup) 1 42 := ⟨by decide +kernel, rfl⟩
theorem d_X12_feed_42 : DD prog_14_method_4_code 42 (.getfield 72) 3 45 := ⟨by decide +kernel, rfl⟩
theorem d_X12_feed_45 : DD prog_14_method_4_code 45 (.iconst 1) 1 46 := ⟨by decide +kernel, rfl⟩
theorem d_X12_feed_46 : DD prog_14_method_4_code 46 (.iadd) 1 47 := ⟨by decide +kernel, rfl⟩
theorem d_X12_feed_47 : DD prog_14_method_4_code 47 (.putfield 72) 3 50 := ⟨by decide +kernel, rfl⟩
theorem d_X12_feed_50 : DD prog_14_method_4_code 50 (.iinc 3 (-8)) 3 53 := ⟨by decide +kernel, rfl⟩
theorem d_X12_feed_53 : DJ prog_14_method_4_code 53 (fun o => .goto o) 19 3 56 := ⟨by decide +kernel, rfl⟩
theorem d_X12_feed_56 : DD prog_14_method_4_code 56 (.aload_n 0) 1 57 := ⟨by decide +kernel, rfl⟩
theorem d_X12_feed_57 : DD prog_14_method_4_code 57 (.getfield 72) 3 60 := ⟨by decide +kernel, rfl⟩
theorem d_X12_feed_60 : DD prog_14_method_4_code 60 (.ireturn) 1 61 := ⟨by decide +kernel, rfl⟩
theorem d_X12_end_0 : DD prog_14_method_5_code 0 (.iload_n 1) 1 1 := ⟨by decide +kernel, rfl⟩
theorem d_X12_end_1 : DD prog_14_method_5_code 1 (.i2l) 1 2 := ⟨by decide +kernel, rfl⟩
theorem d_X12_end_2 : DD prog_14_method_5_code 2 (.lconst 0) 1 3 := ⟨by decide +kernel, rfl⟩
theorem d_X12_end_3 : DD prog_14_method_5_code 3 (.aload_n 0) 1 4 := ⟨by decide +kernel, rfl⟩
theorem d_X12_end_4 : DD prog_14_method_5_code 4 (.getfield 72) 3 7 := ⟨by decide +kernel, rfl⟩
theorem d_X12_end_7 : DD prog_14_method_5_code 7 (.i2l) 1 8 := ⟨by decide +kernel, rfl⟩
theorem d_X12_end_8 : DD prog_14_method_5_code 8 (.invokestatic 75) 3 11 := ⟨by decide +kernel, rfl⟩
theorem d_X12_end_11 : DJ prog_14_method_5_code 11 (fun o => .ifCond .ne o) 16 3 14 := ⟨by decide +kernel, rfl⟩
theorem d_X12_end_14 : DD prog_14_method_5_code 14 (.iconst (-1)) 1 15 := ⟨by decide +kernel, rfl⟩
theorem d_X12_end_15 : DD prog_14_method_5_code 15 (.ireturn) 1 16 := ⟨by decide +kernel, rfl⟩
theorem d_X12_end_16 : DD prog_14_method_5_code 16 (.aload_n 0) 1 17 := ⟨by decide +kernel, rfl⟩
theorem d_X12_end_17 : DD prog_14_method_5_code 17 (.getfield 72) 3 20 := ⟨by decide +kernel, rfl⟩
theorem d_X12_end_20 : DD prog_14_method_5_code 20 (.istore_n 2) 1 21 := ⟨by decide +kernel, rfl⟩
theorem d_X12_end_21 : DD prog_14_method_5_code 21 (.aload_n 0) 1 22 := ⟨by decide +kernel, rfl⟩
theorem d_X12_end_22 : DD prog_14_method_5_code 22 (.iload_n 1) 1 23 := ⟨by decide +kernel, rfl⟩
theorem d_X12_end_23 : DD prog_14_method_5_code 23 (.putfield 72) 3 26 := ⟨by decide +kernel, rfl⟩
theorem d_X12_end_26 : DD prog_14_method_5_code 26 (.iload_n 2) 1 27 := ⟨by decide +kernel, rfl⟩
theorem d_X12_end_27 : DD prog_14_method_5_code 27 (.ireturn) 1 28 := ⟨by decide +kernel, rfl⟩
theorem d_X12_byteAt_0 : DD prog_14_method_6_code 0 (.iload_n 1) 1 1 := ⟨by decide +kernel, rfl⟩
theorem d_X12_byteAt_1 : DD prog_14_method_6_code 1 (.aload_n 0) 1 2 := ⟨by decide +kernel, rfl⟩
theorem d_X12_byteAt_2 : DD prog_14_method_6_code 2 (.getfield 72) 3 5 := ⟨by decide +kernel, rfl⟩
theorem d_X12_byteAt_5 : DJ prog_14_method_6_code 5 (fun o => .if_icmp .ge o) 17 3 8 := ⟨by decide +kernel, rfl⟩
theorem d_X12_byteAt_8 : DD prog_14_method_6_code 8 (.aload_n 0) 1 9 := ⟨by decide +kernel, rfl⟩
theorem d_X12_byteAt_9 : DD prog_14_method_6_code 9 (.getfield 41) 3 12 := ⟨by decide +kernel, rfl⟩
theorem d_X12_byteAt_12 : DD prog_14_method_6_code 12 (.iload_n 1) 1 13 := ⟨by decide +kernel, rfl⟩
theorem d_X12_byteAt_13 : DD prog_14_method_6_code 13 (.iaload) 1 14 := ⟨by decide +kernel, rfl⟩
theorem d_X12_byteAt_14 : DJ prog_14_method_6_code 14 (fun o => .goto o) 19 3 17 := ⟨by decide +kernel, rfl⟩
theorem d_X12_byteAt_17 : DD prog_14_method_6_code 17 (.bipush (-4)) 2 19 := ⟨by decide +kernel, rfl⟩
theorem d_X12_byteAt_19 : DD prog_14_method_6_code 19 (.ireturn) 1 20 := ⟨by decide +kernel, rfl⟩
theorem d_X12_fails_0 : DD prog_14_method_7_code 0 (.aload_n 0) 1 1 := ⟨by decide +kernel, rfl⟩
theorem d_X12_fails_1 : DD prog_14_method_7_code 1 (.getfield 79) 3 4 := ⟨by decide +kernel, rfl⟩
theorem d_X12_fails_4 : DJ prog_14_method_7_code 4 (fun o => .ifCond .ne o) 20 3 7 := ⟨by decide +kernel, rfl⟩
theorem d_X12_fails_7 : DD prog_14_method_7_code 7 (.aload_n 0) 1 8 := ⟨by decide +kernel, rfl⟩
theorem d_X12_fails_8 : DD prog_14_method_7_code 8 (.iload_n 1) 1 9 := ⟨by decide +kernel, rfl⟩
theorem d_X12_fails_9 : DD prog_14_method_7_code 9 (.putfield 79) 3 12 := ⟨by decide +kernel, rfl⟩
theorem d_X12_fails_12 : DD prog_14_method_7_code 12 (.aload_n 0) 1 13 := ⟨by decide +kernel, rfl⟩
theorem d_X12_fails_13 : DD prog_14_method_7_code 13 (.aload_n 0) 1 14 := ⟨by decide +kernel, rfl⟩
theorem d_X12_fails_14 : DD prog_14_method_7_code 14 (.getfield 82) 3 17 := ⟨by decide +kernel, rfl⟩
theorem d_X12_fails_17 : DD prog_14_method_7_code 17 (.putfield 85) 3 20 := ⟨by decide +kernel, rfl⟩
theorem d_X12_fails_20 : DD prog_14_method_7_code 20 (.return_) 1 21 := ⟨by decide +kernel, rfl⟩
theorem d_X12_nameHere_0 : DD prog_14_method_8_code 0 (.iconst 0) 1 1 := ⟨by decide +kernel, rfl⟩
theorem d_X12_nameHere_1 : DD prog_14_method_8_code 1 (.istore_n 1) 1 2 := ⟨by decide +kernel, rfl⟩
theorem d_X12_nameHere_2 : DD prog_14_method_8_code 2 (.iload_n 1) 1 3 := ⟨by decide +kernel, rfl⟩
theorem d_X12_nameHere_3 : DD prog_14_method_8_code 3 (.bipush 16) 2 5 := ⟨by decide +kernel, rfl⟩
theorem d_X12_nameHere_5 : DJ prog_14_method_8_code 5 (fun o => .if_icmp .ge o) 118 3 8 := ⟨by decide +kernel, rfl⟩
theorem d_X12_nameHere_8 : DD prog_14_method_8_code 8 (.aload_n 0) 1 9 := ⟨by decide +kernel, rfl⟩
theorem d_X12_nameHere_9 : DD prog_14_method_8_code 9 (.getfield 88) 3 12 := ⟨by decide +kernel, rfl⟩
theorem d_X12_nameHere_12 : DD prog_14_method_8_code 12 (.iconst 1) 1 13 := ⟨by decide +kernel, rfl⟩
theorem d_X12_nameHere_13 : DJ prog_14_method_8_code 13 (fun o => .if_icmp .ne o) 118 3 16 := ⟨by decide +kernel, rfl⟩
theorem d_X12_nameHere_16 : DD prog_14_method_8_code 16 (.aload_n 0) 1 17 := ⟨by decide +kernel, rfl⟩
theorem d_X12_nameHere_17 : DD prog_14_method_8_code 17 (.getfield 91) 3 20 := ⟨by decide +kernel, rfl⟩
theorem d_X12_nameHere_20 : DD prog_14_method_8_code 20 (.aload_n 0) 1 21 := ⟨by decide +kernel, rfl⟩
theorem d_X12_nameHere_21 : DD prog_14_method_8_code 21 (.getfield 82) 3 24 := ⟨by decide +kernel, rfl⟩
theorem d_X12_nameHere_24 : DD prog_14_method_8_code 24 (.isub) 1 25 := ⟨by decide +kernel, rfl⟩
theorem d_X12_nameHere_25 : DD prog_14_method_8_code 25 (.aload_n 0) 1 26 := ⟨by decide +kernel, rfl⟩
theorem d_X12_nameHere_26 : DD prog_14_method_8_code 26 (.getfield 44) 3 29 := ⟨by decide +kernel, rfl⟩
theorem d_X12_nameHere_29 : DD prog_14_method_8_code 29 (.iload_n 1) 1 30 := ⟨by decide +kernel, rfl⟩
theorem d_X12_nameHere_30 : DD prog_14_method_8_code 30 (.iconst 1) 1 31 := ⟨by decide +kernel, rfl⟩
theorem d_X12_nameHere_31 : DD prog_14_method_8_code 31 (.iadd) 1 32 := ⟨by decide +kernel, rfl⟩
theorem d_X12_nameHere_32 : DD prog_14_method_8_code 32 (.iaload) 1 33 := ⟨by decide +kernel, rfl⟩
theorem d_X12_nameHere_33 : DD prog_14_method_8_code 33 (.aload_n 0) 1 34 := ⟨by decide +kernel, rfl⟩
theorem d_X12_nameHere_34 : DD prog_14_method_8_code 34 (.getfield 44) 3 37 := ⟨by decide +kernel, rfl⟩
theorem d_X12_nameHere_37 : DD prog_14_method_8_code 37 (.iload_n 1) 1 38 := ⟨by decide +kernel, rfl⟩
theorem d_X12_nameHere_38 : DD prog_14_method_8_code 38 (.iaload) 1 39 := ⟨by decide +kernel, rfl⟩
theorem d_X12_nameHere_39 : DD prog_14_method_8_code 39 (.isub) 1 40 := ⟨by decide +kernel, rfl⟩
theorem d_X12_nameHere_40 : DJ prog_14_method_8_code 40 (fun o => .if_icmp .ne o) 47 3 43 := ⟨by decide +kernel, rfl⟩
theorem d_X12_nameHere_43 : DD prog_14_method_8_code 43 (.iconst 1) 1 44 := ⟨by decide +kernel, rfl⟩
theorem d_X12_nameHere_44 : DJ prog_14_method_8_code 44 (fun o => .goto o) 48 3 47 := ⟨by decide +kernel, rfl⟩
theorem d_X12_nameHere_47 : DD prog_14_method_8_code 47 (.iconst 0) 1 48 := ⟨by decide +kernel, rfl⟩
theorem d_X12_nameHere_48 : DD prog_14_method_8_code 48 (.istore_n 2) 1 49 := ⟨by decide +kernel, rfl⟩
theorem d_X12_nameHere_49 : DD prog_14_method_8_code 49 (.iconst 0) 1 50 := ⟨by decide +kernel, rfl⟩
theorem d_X12_nameHere_50 : DD prog_14_method_8_code 50 (.istore_n 3) 1 51 := ⟨by decide +kernel, rfl⟩
theorem d_X12_nameHere_51 : DD prog_14_method_8_code 51 (.iload_n 2) 1 52 := ⟨by decide +kernel, rfl⟩
theorem d_X12_nameHere_52 : DJ prog_14_method_8_code 52 (fun o => .ifCond .eq o) 106 3 55 := ⟨by decide +kernel, rfl⟩
theorem d_X12_nameHere_55 : DD prog_14_method_8_code 55 (.iload_n 3) 1 56 := ⟨by decide +kernel, rfl⟩
theorem d_X12_nameHere_56 : DD prog_14_method_8_code 56 (.aload_n 0) 1 57 := ⟨by decide +kernel, rfl⟩
theorem d_X12_nameHere_57 : DD prog_14_method_8_code 57 (.getfield 91) 3 60 := ⟨by decide +kernel, rfl⟩
theorem d_X12_nameHere_60 : DD prog_14_method_8_code 60 (.aload_n 0) 1 61 := ⟨by decide +kernel, rfl⟩
theorem d_X12_nameHere_61 : DD prog_14_method_8_code 61 (.getfield 82) 3 64 := ⟨by decide +kernel, rfl⟩
theorem d_X12_nameHere_64 : DD prog_14_method_8_code 64 (.isub) 1 65 := ⟨by decide +kernel, rfl⟩
theorem d_X12_nameHere_65 : DJ prog_14_method_8_code 65 (fun o => .if_icmp .ge o) 106 3 68 := ⟨by decide +kernel, rfl⟩
theorem d_X12_nameHere_68 : DD prog_14_method_8_code 68 (.aload_n 0) 1 69 := ⟨by decide +kernel, rfl⟩
theorem d_X12_nameHere_69 : DD prog_14_method_8_code 69 (.aload_n 0) 1 70 := ⟨by decide +kernel, rfl⟩
theorem d_X12_nameHere_70 : DD prog_14_method_8_code 70 (.getfield 82) 3 73 := ⟨by decide +kernel, rfl⟩
theorem d_X12_nameHere_73 : DD prog_14_method_8_code 73 (.iload_n 3) 1 74 := ⟨by decide +kernel, rfl⟩
theorem d_X12_nameHere_74 : DD prog_14_method_8_code 74 (.iadd) 1 75 := ⟨by decide +kernel, rfl⟩
theorem d_X12_nameHere_75 : DD prog_14_method_8_code 75 (.invokevirtual 94) 3 78 := ⟨by decide +kernel, rfl⟩
theorem d_X12_nameHere_78 : DD prog_14_method_8_code 78 (.aload_n 0) 1 79 := ⟨by decide +kernel, rfl⟩
theorem d_X12_nameHere_79 : DD prog_14_method_8_code 79 (.getfield 47) 3 82 := ⟨by decide +kernel, rfl⟩
theorem d_X12_nameHere_82 : DD prog_14_method_8_code 82 (.aload_n 0) 1 83 := ⟨by decide +kernel, rfl⟩
theorem d_X12_nameHere_83 : DD prog_14_method_8_code 83 (.getfield 44) 3 86 := ⟨by decide +kernel, rfl⟩
theorem d_X12_nameHere_86 : DD prog_14_method_8_code 86 (.iload_n 1) 1 87 := ⟨by decide +kernel, rfl⟩
theorem d_X12_nameHere_87 : DD prog_14_method_8_code 87 (.iaload) 1 88 := ⟨by decide +kernel, rfl⟩
theorem d_X12_nameHere_88 : DD prog_14_method_8_code 88 (.iload_n 3) 1 89 := ⟨by decide +kernel, rfl⟩
theorem d_X12_nameHere_89 : DD prog_14_method_8_code 89 (.iadd) 1 90 := ⟨by decide +kernel, rfl⟩
theorem d_X12_nameHere_90 : DD prog_14_method_8_code 90 (.iaload) 1 91 := ⟨by decide +kernel, rfl⟩
theorem d_X12_nameHere_91 : DJ prog_14_method_8_code 91 (fun o => .if_icmp .ne o) 98 3 94 := ⟨by decide +kernel, rfl⟩
theorem d_X12_nameHere_94 : DD prog_14_method_8_code 94 (.iconst 1) 1 95 := ⟨by decide +kernel, rfl⟩
theorem d_X12_nameHere_95 : DJ prog_14_method_8_code 95 (fun o => .goto o) 99 3 98 := ⟨by decide +kernel, rfl⟩
theorem d_X12_nameHere_98 : DD prog_14_method_8_code 98 (.iconst 0) 1 99 := ⟨by decide +kernel, rfl⟩
theorem d_X12_nameHere_99 : DD prog_14_method_8_code 99 (.istore_n 2) 1 100 := ⟨by decide +kernel, rfl⟩
theorem d_X12_nameHere_100 : DD prog_14_method_8_code 100 (.iinc 3 1) 3 103 := ⟨by decide +kernel, rfl⟩
theorem d_X12_nameHere_103 : DJ prog_14_method_8_code 103 (fun o => .goto o) 51 3 106 := ⟨by decide +kernel, rfl⟩
theorem d_X12_nameHere_106 : DD prog_14_method_8_code 106 (.iload_n 2) 1 107 := ⟨by decide +kernel, rfl⟩
theorem d_X12_nameHere_107 : DJ prog_14_method_8_code 107 (fun o => .ifCond .eq o) 112 3 110 := ⟨by decide +kernel, rfl⟩
theorem d_X12_nameHere_110 : DD prog_14_method_8_code 110 (.iload_n 1) 1 111 := ⟨by decide +kernel, rfl⟩
theorem d_X12_nameHere_111 : DD prog_14_method_8_code 111 (.ireturn) 1 112 := ⟨by decide +kernel, rfl⟩
theorem d_X12_nameHere_112 : DD prog_14_method_8_code 112 (.iinc 1 1) 3 115 := ⟨by decide +kernel, rfl⟩
theorem d_X12_nameHere_115 : DJ prog_14_method_8_code 115 (fun o => .goto o) 2 3 118 := ⟨by decide +kernel, rfl⟩
theorem d_X12_nameHere_118 : DD prog_14_method_8_code 118 (.bipush (-4)) 2 120 := ⟨by decide +kernel, rfl⟩
theorem d_X12_nameHere_120 : DD prog_14_method_8_code 120 (.ireturn) 1 121 := ⟨by decide +kernel, rfl⟩
theorem d_X12_step_0 : DD prog_14_method_9_code 0 (.aload_n 0) 1 1 := ⟨by decide +kernel, rfl⟩
theorem d_X12_step_1 : DD prog_14_method_9_code 1 (.getfield 79) 3 4 := ⟨by decide +kernel, rfl⟩
theorem d_X12_step_4 : DJ prog_14_method_9_code 4 (fun o => .ifCond .le o) 8 3 7 := ⟨by decide +kernel, rfl⟩
theorem d_X12_step_7 : DD prog_14_method_9_code 7 (.return_) 1 8 := ⟨by decide +kernel, rfl⟩
theorem d_X12_step_8 : DD prog_14_method_9_code 8 (.aload_n 0) 1 9 := ⟨by decide +kernel, rfl⟩
theorem d_X12_step_9 : DD prog_14_method_9_code 9 (.aload_n 0) 1 10 := ⟨by decide +kernel, rfl⟩
theorem d_X12_step_10 : DD prog_14_method_9_code 10 (.getfield 91) 3 13 := ⟨by decide +kernel, rfl⟩
theorem d_X12_step_13 : DD prog_14_method_9_code 13 (.invokevirtual 94) 3 16 := ⟨by decide +kernel, rfl⟩
theorem d_X12_step_16 : DD prog_14_method_9_code 16 (.bipush 32) 2 18 := ⟨by decide +kernel, rfl⟩
theorem d_X12_step_18 : DJ prog_14_method_9_code 18 (fun o => .if_icmp .ne o) 34 3 21 := ⟨by decide +kernel, rfl⟩
theorem d_X12_step_21 : DD prog_14_method_9_code 21 (.aload_n 0) 1 22 := ⟨by decide +kernel, rfl⟩
theorem d_X12_step_22 : DD prog_14_method_9_code 22 (.dup) 1 23 := ⟨by decide +kernel, rfl⟩
theorem d_X12_step_23 : DD prog_14_method_9_code 23 (.getfield 91) 3 26 := ⟨by decide +kernel, rfl⟩
theorem d_X12_step_26 : DD prog_14_method_9_code 26 (.iconst 1) 1 27 := ⟨by decide +kernel, rfl⟩
theorem d_X12_step_27 : DD prog_14_method_9_code 27 (.iadd) 1 28 := ⟨by decide +kernel, rfl⟩
theorem d_X12_step_28 : DD prog_14_method_9_code 28 (.putfield 91) 3 31 := ⟨by decide +kernel, rfl⟩
theorem d_X12_step_31 : DJ prog_14_method_9_code 31 (fun o => .goto o) 8 3 34 := ⟨by decide +kernel, rfl⟩
theorem d_X12_step_34 : DD prog_14_method_9_code 34 (.aload_n 0) 1 35 := ⟨by decide +kernel, rfl⟩
theorem d_X12_step_35 : DD prog_14_method_9_code 35 (.aload_n 0) 1 36 := ⟨by decide +kernel, rfl⟩
theorem d_X12_step_36 : DD prog_14_method_9_code 36 (.getfield 91) 3 39 := ⟨by decide +kernel, rfl⟩
theorem d_X12_step_39 : DD prog_14_method_9_code 39 (.putfield 82) 3 42 := ⟨by decide +kernel, rfl⟩
theorem d_X12_step_42 : DD prog_14_method_9_code 42 (.aload_n 0) 1 43 := ⟨by decide +kernel, rfl⟩
theorem d_X12_step_43 : DD prog_14_method_9_code 43 (.aload_n 0) 1 44 := ⟨by decide +kernel, rfl⟩
theorem d_X12_step_44 : DD prog_14_method_9_code 44 (.getfield 91) 3 47 := ⟨by decide +kernel, rfl⟩
theorem d_X12_step_47 : DD prog_14_method_9_code 47 (.invokevirtual 94) 3 50 := ⟨by decide +kernel, rfl⟩
theorem d_X12_step_50 : DD prog_14_method_9_code 50 (.istore_n 1) 1 51 := ⟨by decide +kernel, rfl⟩
theorem d_X12_step_51 : DD prog_14_method_9_code 51 (.aload_n 0) 1 52 := ⟨by decide +kernel, rfl⟩
theorem d_X12_step_52 : DD prog_14_method_9_code 52 (.iconst 0) 1 53 := ⟨by decide +kernel, rfl⟩
theorem d_X12_step_53 : DD prog_14_method_9_code 53 (.putfield 98) 3 56 := ⟨by decide +kernel, rfl⟩
theorem d_X12_step_56 : DD prog_14_method_9_code 56 (.iload_n 1) 1 57 := ⟨by decide +kernel, rfl⟩
theorem d_X12_step_57 : DD prog_14_method_9_code 57 (.bipush (-4)) 2 59 := ⟨by decide +kernel, rfl⟩
theorem d_X12_step_59 : DJ prog_14_method_9_code 59 (fun o => .if_icmp .ne o) 70 3 62 := ⟨by decide +kernel, rfl⟩
theorem d_X12_step_62 : DD prog_14_method_9_code 62 (.aload_n 0) 1 63 := ⟨by decide +kernel, rfl⟩
theorem d_X12_step_63 : DD prog_14_method_9_code 63 (.iconst 0) 1 64 := ⟨by decide +kernel, rfl⟩
theorem d_X12_step_64 : DD prog_14_method_9_code 64 (.putfield 88) 3 67 := ⟨by decide +kernel, rfl⟩
theorem d_X12_step_67 : DJ prog_14_method_9_code 67 (fun o => .goto o) 269 3 70 := ⟨by decide +kernel, rfl⟩
theorem d_X12_step_70 : DD prog_14_method_9_code 70 (.iload_n 1) 1 71 := ⟨by decide +kernel, rfl⟩
theorem d_X12_step_71 : DD prog_14_method_9_code 71 (.i2l) 1 72 := ⟨by decide +kernel, rfl⟩
theorem d_X12_step_72 : DD prog_14_method_9_code 72 (.ldc2_w 101) 3 75 := ⟨by decide +kernel, rfl⟩
theorem d_X12_step_75 : DD prog_14_method_9_code 75 (.ldc2_w 103) 3 78 := ⟨by decide +kernel, rfl⟩
theorem d_X12_step_78 : DD prog_14_method_9_code 78 (.invokestatic 75) 3 81 := ⟨by decide +kernel, rfl⟩
theorem d_X12_step_81 : DJ prog_14_method_9_code 81 (fun o => .ifCond .eq o) 126 3 84 := ⟨by decide +kernel, rfl⟩
theorem d_X12_step_84 : DD prog_14_method_9_code 84 (.aload_n 0) 1 85 := ⟨by decide +kernel, rfl⟩
theorem d_X12_step_85 : DD prog_14_method_9_code 85 (.aload_n 0) 1 86 := ⟨by decide +kernel, rfl⟩
theorem d_X12_step_86 : DD prog_14_method_9_code 86 (.getfield 91) 3 89 := ⟨by decide +kernel, rfl⟩
theorem d_X12_step_89 : DD prog_14_method_9_code 89 (.invokevirtual 94) 3 92 := ⟨by decide +kernel, rfl⟩
theorem d_X12_step_92 : DD prog_14_method_9_code 92 (.i2l) 1 93 := ⟨by decide +kernel, rfl⟩
theorem d_X12_step_93 : DD prog_14_method_9_code 93 (.ldc2_w 101) 3 96 := ⟨by decide +kernel, rfl⟩
theorem d_X12_step_96 : DD prog_14_method_9_code 96 (.ldc2_w 103) 3 99 := ⟨by decide +kernel, rfl⟩
theorem d_X12_step_99 : DD prog_14_method_9_code 99 (.invokestatic 75) 3 102 := ⟨by decide +kernel, rfl⟩
theorem d_X12_step_102 : DJ prog_14_method_9_code 102 (fun o => .ifCond .eq o) 118 3 105 := ⟨by decide +kernel, rfl⟩
theorem d_X12_step_105 : DD prog_14_method_9_code 105 (.aload_n 0) 1 106 := ⟨by decide +kernel, rfl⟩
theorem d_X12_step_106 : DD prog_14_method_9_code 106 (.dup) 1 107 := ⟨by decide +kernel, rfl⟩
theorem d_X12_step_107 : DD prog_14_method_9_code 107 (.getfield 91) 3 110 := ⟨by decide +kernel, rfl⟩
theorem d_X12_step_110 : DD prog_14_method_9_code 110 (.iconst 1) 1 111 := ⟨by decide +kernel, rfl⟩
theorem d_X12_step_111 : DD prog_14_method_9_code 111 (.iadd) 1 112 := ⟨by decide +kernel, rfl⟩
theorem d_X12_step_112 : DD prog_14_method_9_code 112 (.putfield 91) 3 115 := ⟨by decide +kernel, rfl⟩
theorem d_X12_step_115 : DJ prog_14_method_9_code 115 (fun o => .goto o) 84 3 118 := ⟨by decide +kernel, rfl⟩
theorem d_X12_step_118 : DD prog_14_method_9_code 118 (.aload_n 0) 1 119 := ⟨by decide +kernel, rfl⟩
theorem d_X12_step_119 : DD prog_14_method_9_code 119 (.iconst 1) 1 120 := ⟨by decide +kernel, rfl⟩
theorem d_X12_step_120 : DD prog_14_method_9_code 120 (.putfield 88) 3 123 := ⟨by decide +kernel, rfl⟩
theorem d_X12_step_123 : DJ prog_14_method_9_code 123 (fun o => .goto o) 269 3 126 := ⟨by decide +kernel, rfl⟩
theorem d_X12_step_126 : DD prog_14_method_9_code 126 (.iload_n 1) 1 127 := ⟨by decide +kernel, rfl⟩
theorem d_X12_step_127 : DD prog_14_method_9_code 127 (.i2l) 1 128 := ⟨by decide +kernel, rfl⟩
theorem d_X12_step_128 : DD prog_14_method_9_code 128 (.ldc2_w 105) 3 131 := ⟨by decide +kernel, rfl⟩
theorem d_X12_step_131 : DD prog_14_method_9_code 131 (.ldc2_w 107) 3 134 := ⟨by decide +kernel, rfl⟩
theorem d_X12_step_134 : DD prog_14_method_9_code 134 (.invokestatic 75) 3 137 := ⟨by decide +kernel, rfl⟩
theorem d_X12_step_137 : DJ prog_14_method_9_code 137 (fun o => .ifCond .eq o) 243 3 140 := ⟨by decide +kernel, rfl⟩
theorem d_X12_step_140 : DD prog_14_method_9_code 140 (.aload_n 0) 1 141 := ⟨by decide +kernel, rfl⟩
theorem d_X12_step_141 : DD prog_14_method_9_code 141 (.aload_n 0) 1 142 := ⟨by decide +kernel, rfl⟩
theorem d_X12_step_142 : DD prog_14_method_9_code 142 (.getfield 91) 3 145 := ⟨by decide +kernel, rfl⟩
theorem d_X12_step_145 : DD prog_14_method_9_code 145 (.invokevirtual 94) 3 148 := ⟨by decide +kernel, rfl⟩
theorem d_X12_step_148 : DD prog_14_method_9_code 148 (.i2l) 1 149 := ⟨by decide +kernel, rfl⟩
theorem d_X12_step_149 : DD prog_14_method_9_code 149 (.ldc2_w 105) 3 152 := ⟨by decide +kernel, rfl⟩
theorem d_X12_step_152 : DD prog_14_method_9_code 152 (.ldc2_w 107) 3 155 := ⟨by decide +kernel, rfl⟩
theorem d_X12_step_155 : DD prog_14_method_9_code 155 (.invokestatic 75) 3 158 := ⟨by decide +kernel, rfl⟩
theorem d_X12_step_158 : DJ prog_14_method_9_code 158 (fun o => .ifCond .eq o) 217 3 161 := ⟨by decide +kernel, rfl⟩
theorem d_X12_step_161 : DD prog_14_method_9_code 161 (.aload_n 0) 1 162 := ⟨by decide +kernel, rfl⟩
theorem d_X12_step_162 : DD prog_14_method_9_code 162 (.aload_n 0) 1 163 := ⟨by decide +kernel, rfl⟩
theorem d_X12_step_163 : DD prog_14_method_9_code 163 (.getfield 91) 3 166 := ⟨by decide +kernel, rfl⟩
theorem d_X12_step_166 : DD prog_14_method_9_code 166 (.aload_n 0) 1 167 := ⟨by decide +kernel, rfl⟩
theorem d_X12_step_167 : DD prog_14_method_9_code 167 (.getfield 82) 3 170 := ⟨by decide +kernel, rfl⟩
theorem d_X12_step_170 : DD prog_14_method_9_code 170 (.isub) 1 171 := ⟨by decide +kernel, rfl⟩
theorem d_X12_step_171 : DD prog_14_method_9_code 171 (.iconst 3) 1 172 := ⟨by decide +kernel, rfl⟩
theorem d_X12_step_172 : DJ prog_14_method_9_code 172 (fun o => .if_icmp .ge o) 197 3 175 := ⟨by decide +kernel, rfl⟩
theorem d_X12_step_175 : DD prog_14_method_9_code 175 (.bipush 10) 2 177 := ⟨by decide +kernel, rfl⟩
theorem d_X12_step_177 : DD prog_14_method_9_code 177 (.aload_n 0) 1 178 := ⟨by decide +kernel, rfl⟩
theorem d_X12_step_178 : DD prog_14_method_9_code 178 (.getfield 98) 3 181 := ⟨by decide +kernel, rfl⟩
theorem d_X12_step_181 : DD prog_14_method_9_code 181 (.imul) 1 182 := ⟨by decide +kernel, rfl⟩
theorem d_X12_step_182 : DD prog_14_method_9_code 182 (.aload_n 0) 1 183 := ⟨by decide +kernel, rfl⟩
theorem d_X12_step_183 : DD prog_14_method_9_code 183 (.aload_n 0) 1 184 := ⟨by decide +kernel, rfl⟩
theorem d_X12_step_184 : DD prog_14_method_9_code 184 (.getfield 91) 3 187 := ⟨by decide +kernel, rfl⟩
theorem d_X12_step_187 : DD prog_14_method_9_code 187 (.invokevirtual 94) 3 190 := ⟨by decide +kernel, rfl⟩
theorem d_X12_step_190 : DD prog_14_method_9_code 190 (.iadd) 1 191 := ⟨by decide +kernel, rfl⟩
theorem d_X12_step_191 : DD prog_14_method_9_code 191 (.bipush 48) 2 193 := ⟨by decide +kernel, rfl⟩
theorem d_X12_step_193 : DD prog_14_method_9_code 193 (.isub) 1 194 := ⟨by decide +kernel, rfl⟩
theorem d_X12_step_194 : DJ prog_14_method_9_code 194 (fun o => .goto o) 201 3 197 := ⟨by decide +kernel, rfl⟩
theorem d_X12_step_197 : DD prog_14_method_9_code 197 (.aload_n 0) 1 198 := ⟨by decide +kernel, rfl⟩
theorem d_X12_step_198 : DD prog_14_method_9_code 198 (.getfield 98) 3 201 := ⟨by decide +kernel, rfl⟩
theorem d_X12_step_201 : DD prog_14_method_9_code 201 (.putfield 98) 3 204 := ⟨by decide +kernel, rfl⟩
theorem d_X12_step_204 : DD prog_14_method_9_code 204 (.aload_n 0) 1 205 := ⟨by decide +kernel, rfl⟩
theorem d_X12_step_205 : DD prog_14_method_9_code 205 (.dup) 1 206 := ⟨by decide +kernel, rfl⟩
theorem d_X12_step_206 : DD prog_14_method_9_code 206 (.getfield 91) 3 209 := ⟨by decide +kernel, rfl⟩
theorem d_X12_step_209 : DD prog_14_method_9_code 209 (.iconst 1) 1 210 := ⟨by decide +kernel, rfl⟩
theorem d_X12_step_210 : DD prog_14_method_9_code 210 (.iadd) 1 211 := ⟨by decide +kernel, rfl⟩
theorem d_X12_step_211 : DD prog_14_method_9_code 211 (.putfield 91) 3 214 := ⟨by decide +kernel, rfl⟩
theorem d_X12_step_214 : DJ prog_14_method_9_code 214 (fun o => .goto o) 140 3 217 := ⟨by decide +kernel, rfl⟩
theorem d_X12_step_217 : DD prog_14_method_9_code 217 (.aload_n 0) 1 218 := ⟨by decide +kernel, rfl⟩
theorem d_X12_step_218 : DD prog_14_method_9_code 218 (.iconst 2) 1 219 := ⟨by decide +kernel, rfl⟩
theorem d_X12_step_219 : DD prog_14_method_9_code 219 (.putfield 88) 3 222 := ⟨by decide +kernel, rfl⟩
theorem d_X12_step_222 : DD prog_14_method_9_code 222 (.aload_n 0) 1 223 := ⟨by decide +kernel, rfl⟩
theorem d_X12_step_223 : DD prog_14_method_9_code 223 (.getfield 91) 3 226 := ⟨by decide +kernel, rfl⟩
theorem d_X12_step_226 : DD prog_14_method_9_code 226 (.aload_n 0) 1 227 := ⟨by decide +kernel, rfl⟩
theorem d_X12_step_227 : DD prog_14_method_9_code 227 (.getfield 82) 3 230 := ⟨by decide +kernel, rfl⟩
theorem d_X12_step_230 : DD prog_14_method_9_code 230 (.isub) 1 231 := ⟨by decide +kernel, rfl⟩
theorem d_X12_step_231 : DD prog_14_method_9_code 231 (.iconst 3) 1 232 := ⟨by decide +kernel, rfl⟩
theorem d_X12_step_232 : DJ prog_14_method_9_code 232 (fun o => .if_icmp .le o) 269 3 235 := ⟨by decide +kernel, rfl⟩
theorem d_X12_step_235 : DD prog_14_method_9_code 235 (.aload_n 0) 1 236 := ⟨by decide +kernel, rfl⟩
theorem d_X12_step_236 : DD prog_14_method_9_code 236 (.iconst 1) 1 237 := ⟨by decide +kernel, rfl⟩
theorem d_X12_step_237 : DD prog_14_method_9_code 237 (.invokevirtual 109) 3 240 := ⟨by decide +kernel, rfl⟩
theorem d_X12_step_240 : DJ prog_14_method_9_code 240 (fun o => .goto o) 269 3 243 := ⟨by decide +kernel, rfl⟩
theorem d_X12_step_243 : DD prog_14_method_9_code 243 (.aload_n 0) 1 244 := ⟨by decide +kernel, rfl⟩
theorem d_X12_step_244 : DD prog_14_method_9_code 244 (.iconst 3) 1 245 := ⟨by decide +kernel, rfl⟩
theorem d_X12_step_245 : DD prog_14_method_9_code 245 (.putfield 88) 3 248 := ⟨by decide +kernel, rfl⟩
theorem d_X12_step_248 : DD prog_14_method_9_code 248 (.aload_n 0) 1 249 := ⟨by decide +kernel, rfl⟩
theorem d_X12_step_249 : DD prog_14_method_9_code 249 (.dup) 1 250 := ⟨by decide +kernel, rfl⟩
theorem d_X12_step_250 : DD prog_14_method_9_code 250 (.getfield 91) 3 253 := ⟨by decide +kernel, rfl⟩
theorem d_X12_step_253 : DD prog_14_method_9_code 253 (.iconst 1) 1 254 := ⟨by decide +kernel, rfl⟩
theorem d_X12_step_254 : DD prog_14_method_9_code 254 (.iadd) 1 255 := ⟨by decide +kernel, rfl⟩
theorem d_X12_step_255 : DD prog_14_method_9_code 255 (.putfield 91) 3 258 := ⟨by decide +kernel, rfl⟩
theorem d_X12_step_258 : DD prog_14_method_9_code 258 (.iload_n 1) 1 259 := ⟨by decide +kernel, rfl⟩
theorem d_X12_step_259 : DD prog_14_method_9_code 259 (.bipush 59) 2 261 := ⟨by decide +kernel, rfl⟩
theorem d_X12_step_261 : DJ prog_14_method_9_code 261 (fun o => .if_icmp .eq o) 269 3 264 := ⟨by decide +kernel, rfl⟩
theorem d_X12_step_264 : DD prog_14_method_9_code 264 (.aload_n 0) 1 265 := ⟨by decide +kernel, rfl⟩
theorem d_X12_step_265 : DD prog_14_method_9_code 265 (.iconst 1) 1 266 := ⟨by decide +kernel, rfl⟩
theorem d_X12_step_266 : DD prog_14_method_9_code 266 (.invokevirtual 109) 3 269 := ⟨by decide +kernel, rfl⟩
theorem d_X12_step_269 : DD prog_14_method_9_code 269 (.return_) 1 270 := ⟨by decide +kernel, rfl⟩
theorem d_X12_looks_0 : DD prog_14_method_10_code 0 (.aload_n 0) 1 1 := ⟨by decide +kernel, rfl⟩
theorem d_X12_looks_1 : DD prog_14_method_10_code 1 (.getfield 79) 3 4 := ⟨by decide +kernel, rfl⟩
theorem d_X12_looks_4 : DJ prog_14_method_10_code 4 (fun o => .ifCond .ne o) 20 3 7 := ⟨by decide +kernel, rfl⟩
theorem d_X12_looks_7 : DD prog_14_method_10_code 7 (.aload_n 0) 1 8 := ⟨by decide +kernel, rfl⟩
theorem d_X12_looks_8 : DD prog_14_method_10_code 8 (.getfield 88) 3 11 := ⟨by decide +kernel, rfl⟩
theorem d_X12_looks_11 : DD prog_14_method_10_code 11 (.iconst 2) 1 12 := ⟨by decide +kernel, rfl⟩
theorem d_X12_looks_12 : DJ prog_14_method_10_code 12 (fun o => .if_icmp .eq o) 20 3 15 := ⟨by decide +kernel, rfl⟩
theorem d_X12_looks_15 : DD prog_14_method_10_code 15 (.aload_n 0) 1 16 := ⟨by decide +kernel, rfl⟩
theorem d_X12_looks_16 : DD prog_14_method_10_code 16 (.iconst 2) 1 17 := ⟨by decide +kernel, rfl⟩
theorem d_X12_looks_17 : DD prog_14_method_10_code 17 (.invokevirtual 109) 3 20 := ⟨by decide +kernel, rfl⟩
theorem d_X12_looks_20 : DD prog_14_method_10_code 20 (.aload_n 0) 1 21 := ⟨by decide +kernel, rfl⟩
theorem d_X12_looks_21 : DD prog_14_method_10_code 21 (.getfield 79) 3 24 := ⟨by decide +kernel, rfl⟩
theorem d_X12_looks_24 : DJ prog_14_method_10_code 24 (fun o => .ifCond .ne o) 47 3 27 := ⟨by decide +kernel, rfl⟩
theorem d_X12_looks_27 : DD prog_14_method_10_code 27 (.aload_n 0) 1 28 := ⟨by decide +kernel, rfl⟩
theorem d_X12_looks_28 : DD prog_14_method_10_code 28 (.getfield 98) 3 31 := ⟨by decide +kernel, rfl⟩
theorem d_X12_looks_31 : DD prog_14_method_10_code 31 (.i2l) 1 32 := ⟨by decide +kernel, rfl⟩
theorem d_X12_looks_32 : DD prog_14_method_10_code 32 (.iload_n 1) 1 33 := ⟨by decide +kernel, rfl⟩
theorem d_X12_looks_33 : DD prog_14_method_10_code 33 (.i2l) 1 34 := ⟨by decide +kernel, rfl⟩
theorem d_X12_looks_34 : DD prog_14_method_10_code 34 (.iload_n 2) 1 35 := ⟨by decide +kernel, rfl⟩
theorem d_X12_looks_35 : DD prog_14_method_10_code 35 (.i2l) 1 36 := ⟨by decide +kernel, rfl⟩
theorem d_X12_looks_36 : DD prog_14_method_10_code 36 (.invokestatic 75) 3 39 := ⟨by decide +kernel, rfl⟩
theorem d_X12_looks_39 : DJ prog_14_method_10_code 39 (fun o => .ifCond .ne o) 47 3 42 := ⟨by decide +kernel, rfl⟩
theorem d_X12_looks_42 : DD prog_14_method_10_code 42 (.aload_n 0) 1 43 := ⟨by decide +kernel, rfl⟩
theorem d_X12_looks_43 : DD prog_14_method_10_code 43 (.iconst 3) 1 44 := ⟨by decide +kernel, rfl⟩
theorem d_X12_looks_44 : DD prog_14_method_10_code 44 (.invokevirtual 109) 3 47 := ⟨by decide +kernel, rfl⟩
theorem d_X12_looks_47 : DD prog_14_method_10_code 47 (.return_) 1 48 := ⟨by decide +kernel, rfl⟩
theorem d_X12_number_0 : DD prog_14_method_11_code 0 (.aload_n 0) 1 1 := ⟨by decide +kernel, rfl⟩
theorem d_X12_number_1 : DD prog_14_method_11_code 1 (.iload_n 1) 1 2 := ⟨by decide +kernel, rfl⟩
theorem d_X12_number_2 : DD prog_14_method_11_code 2 (.iload_n 2) 1 3 := ⟨by decide +kernel, rfl⟩
theorem d_X12_number_3 : DD prog_14_method_11_code 3 (.invokevirtual 113) 3 6 := ⟨by decide +kernel, rfl⟩
theorem d_X12_number_6 : DD prog_14_method_11_code 6 (.aload_n 0) 1 7 := ⟨by decide +kernel, rfl⟩
theorem d_X12_number_7 : DD prog_14_method_11_code 7 (.getfield 79) 3 10 := ⟨by decide +kernel, rfl⟩
theorem d_X12_number_10 : DJ prog_14_method_11_code 10 (fun o => .ifCond .ne o) 20 3 13 := ⟨by decide +kernel, rfl⟩
theorem d_X12_number_13 : DD prog_14_method_11_code 13 (.aload_n 0) 1 14 := ⟨by decide +kernel, rfl⟩
theorem d_X12_number_14 : DD prog_14_method_11_code 14 (.getfield 98) 3 17 := ⟨by decide +kernel, rfl⟩
theorem d_X12_number_17 : DJ prog_14_method_11_code 17 (fun o => .goto o) 21 3 20 := ⟨by decide +kernel, rfl⟩
theorem d_X12_number_20 : DD prog_14_method_11_code 20 (.iload_n 1) 1 21 := ⟨by decide +kernel, rfl⟩
theorem d_X12_number_21 : DD prog_14_method_11_code 21 (.istore_n 3) 1 22 := ⟨by decide +kernel, rfl⟩
theorem d_X12_number_22 : DD prog_14_method_11_code 22 (.aload_n 0) 1 23 := ⟨by decide +kernel, rfl⟩
theorem d_X12_number_23 : DD prog_14_method_11_code 23 (.invokevirtual 117) 3 26 := ⟨by decide +kernel, rfl⟩
theorem d_X12_number_26 : DD prog_14_method_11_code 26 (.iload_n 3) 1 27 := ⟨by decide +kernel, rfl⟩
theorem d_X12_number_27 : DD prog_14_method_11_code 27 (.ireturn) 1 28 := ⟨by decide +kernel, rfl⟩
theorem d_X12_name_0 : DD prog_14_method_12_code 0 (.aload_n 0) 1 1 := ⟨by decide +kernel, rfl⟩
theorem d_X12_name_1 : DD prog_14_method_12_code 1 (.invokevirtual 120) 3 4 := ⟨by decide +kernel, rfl⟩
theorem d_X12_name_4 : DD prog_14_method_12_code 4 (.istore_n 3) 1 5 := ⟨by decide +kernel, rfl⟩
theorem d_X12_name_5 : DD prog_14_method_12_code 5 (.iload_n 3) 1 6 := ⟨by decide +kernel, rfl⟩
theorem d_X12_name_6 : DD prog_14_method_12_code 6 (.i2l) 1 7 := ⟨by decide +kernel, rfl⟩
theorem d_X12_name_7 : DD prog_14_method_12_code 7 (.iload_n 1) 1 8 := ⟨by decide +kernel, rfl⟩
theorem d_X12_name_8 : DD prog_14_method_12_code 8 (.i2l) 1 9 := ⟨by decide +kernel, rfl⟩
theorem d_X12_name_9 : DD prog_14_method_12_code 9 (.iload_n 2) 1 10 := ⟨by decide +kernel, rfl⟩
theorem d_X12_name_10 : DD prog_14_method_12_code 10 (.i2l) 1 11 := ⟨by decide +kernel, rfl⟩
theorem d_X12_name_11 : DD prog_14_method_12_code 11 (.invokestatic 75) 3 14 := ⟨by decide +kernel, rfl⟩
theorem d_X12_name_14 : DJ prog_14_method_12_code 14 (fun o => .ifCond .ne o) 24 3 17 := ⟨by decide +kernel, rfl⟩
theorem d_X12_name_17 : DD prog_14_method_12_code 17 (.aload_n 0) 1 18 := ⟨by decide +kernel, rfl⟩
theorem d_X12_name_18 : DD prog_14_method_12_code 18 (.iconst 2) 1 19 := ⟨by decide +kernel, rfl⟩
theorem d_X12_name_19 : DD prog_14_method_12_code 19 (.invokevirtual 109) 3 22 := ⟨by decide +kernel, rfl⟩
theorem d_X12_name_22 : DD prog_14_method_12_code 22 (.iload_n 1) 1 23 := ⟨by decide +kernel, rfl⟩
theorem d_X12_name_23 : DD prog_14_method_12_code 23 (.istore_n 3) 1 24 := ⟨by decide +kernel, rfl⟩
theorem d_X12_name_24 : DD prog_14_method_12_code 24 (.aload_n 0) 1 25 := ⟨by decide +kernel, rfl⟩
theorem d_X12_name_25 : DD prog_14_method_12_code 25 (.invokevirtual 117) 3 28 := ⟨by decide +kernel, rfl⟩
theorem d_X12_name_28 : DD prog_14_method_12_code 28 (.iload_n 3) 1 29 := ⟨by decide +kernel, rfl⟩
theorem d_X12_name_29 : DD prog_14_method_12_code 29 (.iload_n 1) 1 30 := ⟨by decide +kernel, rfl⟩
theorem d_X12_name_30 : DD prog_14_method_12_code 30 (.isub) 1 31 := ⟨by decide +kernel, rfl⟩
theorem d_X12_name_31 : DD prog_14_method_12_code 31 (.ireturn) 1 32 := ⟨by decide +kernel, rfl⟩
theorem d_X12_furlongHere_0 : DD prog_14_method_13_code 0 (.aload_n 0) 1 1 := ⟨by decide +kernel, rfl⟩
theorem d_X12_furlongHere_1 : DD prog_14_method_13_code 1 (.iconst 0) 1 2 := ⟨by decide +kernel, rfl⟩
theorem d_X12_furlongHere_2 : DD prog_14_method_13_code 2 (.bipush 9) 2 4 := ⟨by decide +kernel, rfl⟩
theorem d_X12_furlongHere_4 : DD prog_14_method_13_code 4 (.invokevirtual 113) 3 7 := ⟨by decide +kernel, rfl⟩
theorem d_X12_furlongHere_7 : DD prog_14_method_13_code 7 (.aload_n 0) 1 8 := ⟨by decide +kernel, rfl⟩
theorem d_X12_furlongHere_8 : DD prog_14_method_13_code 8 (.getfield 79) 3 11 := ⟨by decide +kernel, rfl⟩
theorem d_X12_furlongHere_11 : DJ prog_14_method_13_code 11 (fun o => .ifCond .ne o) 21 3 14 := ⟨by decide +kernel, rfl⟩
theorem d_X12_furlongHere_14 : DD prog_14_method_13_code 14 (.aload_n 0) 1 15 := ⟨by decide +kernel, rfl⟩
theorem d_X12_furlongHere_15 : DD prog_14_method_13_code 15 (.getfield 98) 3 18 := ⟨by decide +kernel, rfl⟩
theorem d_X12_furlongHere_18 : DJ prog_14_method_13_code 18 (fun o => .goto o) 22 3 21 := ⟨by decide +kernel, rfl⟩
theorem d_X12_furlongHere_21 : DD prog_14_method_13_code 21 (.iconst 0) 1 22 := ⟨by decide +kernel, rfl⟩
theorem d_X12_furlongHere_22 : DD prog_14_method_13_code 22 (.istore_n 1) 1 23 := ⟨by decide +kernel, rfl⟩
theorem d_X12_furlongHere_23 : DD prog_14_method_13_code 23 (.aload_n 0) 1 24 := ⟨by decide +kernel, rfl⟩
theorem d_X12_furlongHere_24 : DD prog_14_method_13_code 24 (.iload_n 1) 1 25 := ⟨by decide +kernel, rfl⟩
theorem d_X12_furlongHere_25 : DD prog_14_method_13_code 25 (.aload_n 0) 1 26 := ⟨by decide +kernel, rfl⟩
theorem d_X12_furlongHere_26 : DD prog_14_method_13_code 26 (.getfield 124) 3 29 := ⟨by decide +kernel, rfl⟩
theorem d_X12_furlongHere_29 : DJ prog_14_method_13_code 29 (fun o => .if_icmp .le o) 36 3 32 := ⟨by decide +kernel, rfl⟩
theorem d_X12_furlongHere_32 : DD prog_14_method_13_code 32 (.iload_n 1) 1 33 := ⟨by decide +kernel, rfl⟩
theorem d_X12_furlongHere_33 : DJ prog_14_method_13_code 33 (fun o => .goto o) 40 3 36 := ⟨by decide +kernel, rfl⟩
theorem d_X12_furlongHere_36 : DD prog_14_method_13_code 36 (.aload_n 0) 1 37 := ⟨by decide +kernel, rfl⟩
theorem d_X12_furlongHere_37 : DD prog_14_method_13_code 37 (.getfield 124) 3 40 := ⟨by decide +kernel, rfl⟩
theorem d_X12_furlongHere_40 : DD prog_14_method_13_code 40 (.putfield 124) 3 43 := ⟨by decide +kernel, rfl⟩
theorem d_X12_furlongHere_43 : DD prog_14_method_13_code 43 (.iload_n 1) 1 44 := ⟨by decide +kernel, rfl⟩
theorem d_X12_furlongHere_44 : DD prog_14_method_13_code 44 (.ireturn) 1 45 := ⟨by decide +kernel, rfl⟩
theorem d_X12_readHours_0 : DD prog_14_method_14_code 0 (.iconst 0) 1 1 := ⟨by decide +kernel, rfl⟩
theorem d_X12_readHours_1 : DD prog_14_method_14_code 1 (.istore_n 2) 1 2 := ⟨by decide +kernel, rfl⟩
theorem d_X12_readHours_2 : DD prog_14_method_14_code 2 (.aload_n 0) 1 3 := ⟨by decide +kernel, rfl⟩
theorem d_X12_readHours_3 : DD prog_14_method_14_code 3 (.getfield 79) 3 6 := ⟨by decide +kernel, rfl⟩
theorem d_X12_readHours_6 : DJ prog_14_method_14_code 6 (fun o => .ifCond .ne o) 86 3 9 := ⟨by decide +kernel, rfl⟩
theorem d_X12_readHours_9 : DD prog_14_method_14_code 9 (.iload_n 2) 1 10 := ⟨by decide +kernel, rfl⟩
theorem d_X12_readHours_10 : DJ prog_14_method_14_code 10 (fun o => .ifCond .eq o) 21 3 13 := ⟨by decide +kernel, rfl⟩
theorem d_X12_readHours_13 : DD prog_14_method_14_code 13 (.aload_n 0) 1 14 := ⟨by decide +kernel, rfl⟩
theorem d_X12_readHours_14 : DD prog_14_method_14_code 14 (.getfield 88) 3 17 := ⟨by decide +kernel, rfl⟩
theorem d_X12_readHours_17 : DD prog_14_method_14_code 17 (.iconst 2) 1 18 := ⟨by decide +kernel, rfl⟩
theorem d_X12_readHours_18 : DJ prog_14_method_14_code 18 (fun o => .if_icmp .ne o) 86 3 21 := ⟨by decide +kernel, rfl⟩
theorem d_X12_readHours_21 : DD prog_14_method_14_code 21 (.aload_n 0) 1 22 := ⟨by decide +kernel, rfl⟩
theorem d_X12_readHours_22 : DD prog_14_method_14_code 22 (.getfield 88) 3 25 := ⟨by decide +kernel, rfl⟩
theorem d_X12_readHours_25 : DD prog_14_method_14_code 25 (.iconst 2) 1 26 := ⟨by decide +kernel, rfl⟩
theorem d_X12_readHours_26 : DJ prog_14_method_14_code 26 (fun o => .if_icmp .ne o) 40 3 29 := ⟨by decide +kernel, rfl⟩
theorem d_X12_readHours_29 : DD prog_14_method_14_code 29 (.iload_n 2) 1 30 := ⟨by decide +kernel, rfl⟩
theorem d_X12_readHours_30 : DD prog_14_method_14_code 30 (.bipush 12) 2 32 := ⟨by decide +kernel, rfl⟩
theorem d_X12_readHours_32 : DJ prog_14_method_14_code 32 (fun o => .if_icmp .ne o) 40 3 35 := ⟨by decide +kernel, rfl⟩
theorem d_X12_readHours_35 : DD prog_14_method_14_code 35 (.aload_n 0) 1 36 := ⟨by decide +kernel, rfl⟩
theorem d_X12_readHours_36 : DD prog_14_method_14_code 36 (.iconst 5) 1 37 := ⟨by decide +kernel, rfl⟩
theorem d_X12_readHours_37 : DD prog_14_method_14_code 37 (.invokevirtual 109) 3 40 := ⟨by decide +kernel, rfl⟩
theorem d_X12_readHours_40 : DD prog_14_method_14_code 40 (.aload_n 0) 1 41 := ⟨by decide +kernel, rfl⟩
theorem d_X12_readHours_41 : DD prog_14_method_14_code 41 (.iconst 0) 1 42 := ⟨by decide +kernel, rfl⟩
theorem d_X12_readHours_42 : DD prog_14_method_14_code 42 (.bipush 9) 2 44 := ⟨by decide +kernel, rfl⟩
theorem d_X12_readHours_44 : DD prog_14_method_14_code 44 (.invokevirtual 127) 3 47 := ⟨by decide +kernel, rfl⟩
theorem d_X12_readHours_47 : DD prog_14_method_14_code 47 (.istore_n 3) 1 48 := ⟨by decide +kernel, rfl⟩
theorem d_X12_readHours_48 : DD prog_14_method_14_code 48 (.aload_n 0) 1 49 := ⟨by decide +kernel, rfl⟩
theorem d_X12_readHours_49 : DD prog_14_method_14_code 49 (.getfield 79) 3 52 := ⟨by decide +kernel, rfl⟩
theorem d_X12_readHours_52 : DJ prog_14_method_14_code 52 (fun o => .ifCond .ne o) 83 3 55 := ⟨by decide +kernel, rfl⟩
theorem d_X12_readHours_55 : DD prog_14_method_14_code 55 (.iload_n 1) 1 56 := ⟨by decide +kernel, rfl⟩
theorem d_X12_readHours_56 : DJ prog_14_method_14_code 56 (fun o => .ifCond .eq o) 73 3 59 := ⟨by decide +kernel, rfl⟩
theorem d_X12_readHours_59 : DD prog_14_method_14_code 59 (.aload_n 0) 1 60 := ⟨by decide +kernel, rfl⟩
theorem d_X12_readHours_60 : DD prog_14_method_14_code 60 (.getfield 29) 3 63 := ⟨by decide +kernel, rfl⟩
theorem d_X12_readHours_63 : DD prog_14_method_14_code 63 (.sipush 171) 3 66 := ⟨by decide +kernel, rfl⟩
theorem d_X12_readHours_66 : DD prog_14_method_14_code 66 (.iload_n 2) 1 67 := ⟨by decide +kernel, rfl⟩
theorem d_X12_readHours_67 : DD prog_14_method_14_code 67 (.iadd) 1 68 := ⟨by decide +kernel, rfl⟩
theorem d_X12_readHours_68 : DD prog_14_method_14_code 68 (.iload_n 3) 1 69 := ⟨by decide +kernel, rfl⟩
theorem d_X12_readHours_69 : DD prog_14_method_14_code 69 (.iastore) 1 70 := ⟨by decide +kernel, rfl⟩
theorem d_X12_readHours_70 : DJ prog_14_method_14_code 70 (fun o => .goto o) 80 3 73 := ⟨by decide +kernel, rfl⟩
theorem d_X12_readHours_73 : DD prog_14_method_14_code 73 (.aload_n 0) 1 74 := ⟨by decide +kernel, rfl⟩
theorem d_X12_readHours_74 : DD prog_14_method_14_code 74 (.getfield 32) 3 77 := ⟨by decide +kernel, rfl⟩
theorem d_X12_readHours_77 : DD prog_14_method_14_code 77 (.iload_n 2) 1 78 := ⟨by decide +kernel, rfl⟩
theorem d_X12_readHours_78 : DD prog_14_method_14_code 78 (.iload_n 3) 1 79 := ⟨by decide +kernel, rfl⟩
theorem d_X12_readHours_79 : DD prog_14_method_14_code 79 (.iastore) 1 80 := ⟨by decide +kernel, rfl⟩
theorem d_X12_readHours_80 : DD prog_14_method_14_code 80 (.iinc 2 1) 3 83 := ⟨by decide +kernel, rfl⟩
theorem d_X12_readHours_83 : DJ prog_14_method_14_code 83 (fun o => .goto o) 2 3 86 := ⟨by decide +kernel, rfl⟩
theorem d_X12_readHours_86 : DD prog_14_method_14_code 86 (.return_) 1 87 := ⟨by decide +kernel, rfl⟩
theorem d_X12_readOnce_0 : DD prog_14_method_15_code 0 (.aload_n 0) 1 1 := ⟨by decide +kernel, rfl⟩
theorem d_X12_readOnce_1 : DD prog_14_method_15_code 1 (.getfield 131) 3 4 := ⟨by decide +kernel, rfl⟩
theorem d_X12_readOnce_4 : DD prog_14_method_15_code 4 (.iload_n 1) 1 5 := ⟨by decide +kernel, rfl⟩
theorem d_X12_readOnce_5 : DD prog_14_method_15_code 5 (.ishr) 1 6 := ⟨by decide +kernel, rfl⟩
theorem d_X12_readOnce_6 : DD prog_14_method_15_code 6 (.iconst 1) 1 7 := ⟨by decide +kernel, rfl⟩
theorem d_X12_readOnce_7 : DD prog_14_method_15_code 7 (.iand) 1 8 := ⟨by decide +kernel, rfl⟩
theorem d_X12_readOnce_8 : DD prog_14_method_15_code 8 (.iconst 1) 1 9 := ⟨by decide +kernel, rfl⟩
theorem d_X12_readOnce_9 : DJ prog_14_method_15_code 9 (fun o => .if_icmp .ne o) 17 3 12 := ⟨by decide +kernel, rfl⟩
theorem d_X12_readOnce_12 : DD prog_14_method_15_code 12 (.aload_n 0) 1 13 := ⟨by decide +kernel, rfl⟩
theorem d_X12_readOnce_13 : DD prog_14_method_15_code 13 (.iconst 4) 1 14 := ⟨by decide +kernel, rfl⟩
theorem d_X12_readOnce_14 : DD prog_14_method_15_code 14 (.invokevirtual 109) 3 17 := ⟨by decide +kernel, rfl⟩
theorem d_X12_readOnce_17 : DD prog_14_method_15_code 17 (.aload_n 0) 1 18 := ⟨by decide +kernel, rfl⟩
theorem d_X12_readOnce_18 : DD prog_14_method_15_code 18 (.dup) 1 19 := ⟨by decide +kernel, rfl⟩
theorem d_X12_readOnce_19 : DD prog_14_method_15_code 19 (.getfield 131) 3 22 := ⟨by decide +kernel, rfl⟩
theorem d_X12_readOnce_22 : DD prog_14_method_15_code 22 (.iconst 1) 1 23 := ⟨by decide +kernel, rfl⟩
theorem d_X12_readOnce_23 : DD prog_14_method_15_code 23 (.iload_n 1) 1 24 := ⟨by decide +kernel, rfl⟩
theorem d_X12_readOnce_24 : DD prog_14_method_15_code 24 (.ishl) 1 25 := ⟨by decide +kernel, rfl⟩
theorem d_X12_readOnce_25 : DD prog_14_method_15_code 25 (.ior) 1 26 := ⟨by decide +kernel, rfl⟩
theorem d_X12_readOnce_26 : DD prog_14_method_15_code 26 (.putfield 131) 3 29 := ⟨by decide +kernel, rfl⟩
theorem d_X12_readOnce_29 : DD prog_14_method_15_code 29 (.aload_n 0) 1 30 := ⟨by decide +kernel, rfl⟩
theorem d_X12_readOnce_30 : DD prog_14_method_15_code 30 (.invokevirtual 117) 3 33 := ⟨by decide +kernel, rfl⟩
theorem d_X12_readOnce_33 : DD prog_14_method_15_code 33 (.iload_n 1) 1 34 := ⟨by decide +kernel, rfl⟩
theorem d_X12_readOnce_34 : DJ prog_14_method_15_code 34 (fun o => .ifCond .ne o) 51 3 37 := ⟨by decide +kernel, rfl⟩
theorem d_X12_readOnce_37 : DD prog_14_method_15_code 37 (.aload_n 0) 1 38 := ⟨by decide +kernel, rfl⟩
theorem d_X12_readOnce_38 : DD prog_14_method_15_code 38 (.aload_n 0) 1 39 := ⟨by decide +kernel, rfl⟩
theorem d_X12_readOnce_39 : DD prog_14_method_15_code 39 (.iconst 1) 1 40 := ⟨by decide +kernel, rfl⟩
theorem d_X12_readOnce_40 : DD prog_14_method_15_code 40 (.bipush 10) 2 42 := ⟨by decide +kernel, rfl⟩
theorem d_X12_readOnce_42 : DD prog_14_method_15_code 42 (.invokevirtual 127) 3 45 := ⟨by decide +kernel, rfl⟩
theorem d_X12_readOnce_45 : DD prog_14_method_15_code 45 (.putfield 134) 3 48 := ⟨by decide +kernel, rfl⟩
theorem d_X12_readOnce_48 : DJ prog_14_method_15_code 48 (fun o => .goto o) 110 3 51 := ⟨by decide +kernel, rfl⟩
theorem d_X12_readOnce_51 : DD prog_14_method_15_code 51 (.iload_n 1) 1 52 := ⟨by decide +kernel, rfl⟩
theorem d_X12_readOnce_52 : DD prog_14_method_15_code 52 (.iconst 3) 1 53 := ⟨by decide +kernel, rfl⟩
theorem d_X12_readOnce_53 : DJ prog_14_method_15_code 53 (fun o => .if_icmp .ne o) 96 3 56 := ⟨by decide +kernel, rfl⟩
theorem d_X12_readOnce_56 : DD prog_14_method_15_code 56 (.aload_n 0) 1 57 := ⟨by decide +kernel, rfl⟩
theorem d_X12_readOnce_57 : DD prog_14_method_15_code 57 (.getfield 35) 3 60 := ⟨by decide +kernel, rfl⟩
theorem d_X12_readOnce_60 : DD prog_14_method_15_code 60 (.iconst 0) 1 61 := ⟨by decide +kernel, rfl⟩
theorem d_X12_readOnce_61 : DD prog_14_method_15_code 61 (.aload_n 0) 1 62 := ⟨by decide +kernel, rfl⟩
theorem d_X12_readOnce_62 : DD prog_14_method_15_code 62 (.iconst 1) 1 63 := ⟨by decide +kernel, rfl⟩
theorem d_X12_readOnce_63 : DD prog_14_method_15_code 63 (.bipush 99) 2 65 := ⟨by decide +kernel, rfl⟩
theorem d_X12_readOnce_65 : DD prog_14_method_15_code 65 (.invokevirtual 127) 3 68 := ⟨by decide +kernel, rfl⟩
theorem d_X12_readOnce_68 : DD prog_14_method_15_code 68 (.iastore) 1 69 := ⟨by decide +kernel, rfl⟩
theorem d_X12_readOnce_69 : DD prog_14_method_15_code 69 (.aload_n 0) 1 70 := ⟨by decide +kernel, rfl⟩
theorem d_X12_readOnce_70 : DD prog_14_method_15_code 70 (.getfield 35) 3 73 := ⟨by decide +kernel, rfl⟩
theorem d_X12_readOnce_73 : DD prog_14_method_15_code 73 (.iconst 1) 1 74 := ⟨by decide +kernel, rfl⟩
theorem d_X12_readOnce_74 : DD prog_14_method_15_code 74 (.aload_n 0) 1 75 := ⟨by decide +kernel, rfl⟩
theorem d_X12_readOnce_75 : DD prog_14_method_15_code 75 (.iconst 0) 1 76 := ⟨by decide +kernel, rfl⟩
theorem d_X12_readOnce_76 : DD prog_14_method_15_code 76 (.iconst 3) 1 77 := ⟨by decide +kernel, rfl⟩
theorem d_X12_readOnce_77 : DD prog_14_method_15_code 77 (.invokevirtual 127) 3 80 := ⟨by decide +kernel, rfl⟩
theorem d_X12_readOnce_80 : DD prog_14_method_15_code 80 (.iastore) 1 81 := ⟨by decide +kernel, rfl⟩
theorem d_X12_readOnce_81 : DD prog_14_method_15_code 81 (.aload_n 0) 1 82 := ⟨by decide +kernel, rfl⟩
theorem d_X12_readOnce_82 : DD prog_14_method_15_code 82 (.getfield 35) 3 85 := ⟨by decide +kernel, rfl⟩
theorem d_X12_readOnce_85 : DD prog_14_method_15_code 85 (.iconst 2) 1 86 := ⟨by decide +kernel, rfl⟩
theorem d_X12_readOnce_86 : DD prog_14_method_15_code 86 (.aload_n 0) 1 87 := ⟨by decide +kernel, rfl⟩
theorem d_X12_readOnce_87 : DD prog_14_method_15_code 87 (.iconst 0) 1 88 := ⟨by decide +kernel, rfl⟩
theorem d_X12_readOnce_88 : DD prog_14_method_15_code 88 (.iconst 1) 1 89 := ⟨by decide +kernel, rfl⟩
theorem d_X12_readOnce_89 : DD prog_14_method_15_code 89 (.invokevirtual 127) 3 92 := ⟨by decide +kernel, rfl⟩
theorem d_X12_readOnce_92 : DD prog_14_method_15_code 92 (.iastore) 1 93 := ⟨by decide +kernel, rfl⟩
theorem d_X12_readOnce_93 : DJ prog_14_method_15_code 93 (fun o => .goto o) 110 3 96 := ⟨by decide +kernel, rfl⟩
theorem d_X12_readOnce_96 : DD prog_14_method_15_code 96 (.aload_n 0) 1 97 := ⟨by decide +kernel, rfl⟩
theorem d_X12_readOnce_97 : DD prog_14_method_15_code 97 (.iload_n 1) 1 98 := ⟨by decide +kernel, rfl⟩
theorem d_X12_readOnce_98 : DD prog_14_method_15_code 98 (.iconst 1) 1 99 := ⟨by decide +kernel, rfl⟩
theorem d_X12_readOnce_99 : DJ prog_14_method_15_code 99 (fun o => .if_icmp .ne o) 106 3 102 := ⟨by decide +kernel, rfl⟩
theorem d_X12_readOnce_102 : DD prog_14_method_15_code 102 (.iconst 1) 1 103 := ⟨by decide +kernel, rfl⟩
theorem d_X12_readOnce_103 : DJ prog_14_method_15_code 103 (fun o => .goto o) 107 3 106 := ⟨by decide +kernel, rfl⟩
theorem d_X12_readOnce_106 : DD prog_14_method_15_code 106 (.iconst 0) 1 107 := ⟨by decide +kernel, rfl⟩
theorem d_X12_readOnce_107 : DD prog_14_method_15_code 107 (.invokevirtual 137) 3 110 := ⟨by decide +kernel, rfl⟩
theorem d_X12_readOnce_110 : DD prog_14_method_15_code 110 (.return_) 1 111 := ⟨by decide +kernel, rfl⟩
theorem d_X12_readSnow_0 : DD prog_14_method_16_code 0 (.aload_n 0) 1 1 := ⟨by decide +kernel, rfl⟩
theorem d_X12_readSnow_1 : DD prog_14_method_16_code 1 (.invokevirtual 141) 3 4 := ⟨by decide +kernel, rfl⟩
theorem d_X12_readSnow_4 : DD prog_14_method_16_code 4 (.istore_n 1) 1 5 := ⟨by decide +kernel, rfl⟩
theorem d_X12_readSnow_5 : DD prog_14_method_16_code 5 (.aload_n 0) 1 6 := ⟨by decide +kernel, rfl⟩
theorem d_X12_readSnow_6 : DD prog_14_method_16_code 6 (.getfield 79) 3 9 := ⟨by decide +kernel, rfl⟩
theorem d_X12_readSnow_9 : DJ prog_14_method_16_code 9 (fun o => .ifCond .ne o) 29 3 12 := ⟨by decide +kernel, rfl⟩
theorem d_X12_readSnow_12 : DD prog_14_method_16_code 12 (.aload_n 0) 1 13 := ⟨by decide +kernel, rfl⟩
theorem d_X12_readSnow_13 : DD prog_14_method_16_code 13 (.getfield 144) 3 16 := ⟨by decide +kernel, rfl⟩
theorem d_X12_readSnow_16 : DD prog_14_method_16_code 16 (.iload_n 1) 1 17 := ⟨by decide +kernel, rfl⟩
theorem d_X12_readSnow_17 : DD prog_14_method_16_code 17 (.ishr) 1 18 := ⟨by decide +kernel, rfl⟩
theorem d_X12_readSnow_18 : DD prog_14_method_16_code 18 (.iconst 1) 1 19 := ⟨by decide +kernel, rfl⟩
theorem d_X12_readSnow_19 : DD prog_14_method_16_code 19 (.iand) 1 20 := ⟨by decide +kernel, rfl⟩
theorem d_X12_readSnow_20 : DD prog_14_method_16_code 20 (.iconst 1) 1 21 := ⟨by decide +kernel, rfl⟩
theorem d_X12_readSnow_21 : DJ prog_14_method_16_code 21 (fun o => .if_icmp .ne o) 29 3 24 := ⟨by decide +kernel, rfl⟩
theorem d_X12_readSnow_24 : DD prog_14_method_16_code 24 (.aload_n 0) 1 25 := ⟨by decide +kernel, rfl⟩
theorem d_X12_readSnow_25 : DD prog_14_method_16_code 25 (.iconst 4) 1 26 := ⟨by decide +kernel, rfl⟩
theorem d_X12_readSnow_26 : DD prog_14_method_16_code 26 (.invokevirtual 109) 3 29 := ⟨by decide +kernel, rfl⟩
theorem d_X12_readSnow_29 : DD prog_14_method_16_code 29 (.aload_n 0) 1 30 := ⟨by decide +kernel, rfl⟩
theorem d_X12_readSnow_30 : DD prog_14_method_16_code 30 (.dup) 1 31 := ⟨by decide +kernel, rfl⟩
theorem d_X12_readSnow_31 : DD prog_14_method_16_code 31 (.getfield 144) 3 34 := ⟨by decide +kernel, rfl⟩
theorem d_X12_readSnow_34 : DD prog_14_method_16_code 34 (.iconst 1) 1 35 := ⟨by decide +kernel, rfl⟩
theorem d_X12_readSnow_35 : DD prog_14_method_16_code 35 (.iload_n 1) 1 36 := ⟨by decide +kernel, rfl⟩
theorem d_X12_readSnow_36 : DD prog_14_method_16_code 36 (.ishl) 1 37 := ⟨by decide +kernel, rfl⟩
theorem d_X12_readSnow_37 : DD prog_14_method_16_code 37 (.ior) 1 38 := ⟨by decide +kernel, rfl⟩
theorem d_X12_readSnow_38 : DD prog_14_method_16_code 38 (.putfield 144) 3 41 := ⟨by decide +kernel, rfl⟩
theorem d_X12_readSnow_41 : DD prog_14_method_16_code 41 (.aload_n 0) 1 42 := ⟨by decide +kernel, rfl⟩
theorem d_X12_readSnow_42 : DD prog_14_method_16_code 42 (.invokevirtual 117) 3 45 := ⟨by decide +kernel, rfl⟩
theorem d_X12_readSnow_45 : DD prog_14_method_16_code 45 (.aload_n 0) 1 46 := ⟨by decide +kernel, rfl⟩
theorem d_X12_readSnow_46 : DD prog_14_method_16_code 46 (.getfield 29) 3 49 := ⟨by decide +kernel, rfl⟩
theorem d_X12_readSnow_49 : DD prog_14_method_16_code 49 (.sipush 140) 3 52 := ⟨by decide +kernel, rfl⟩
theorem d_X12_readSnow_52 : DD prog_14_method_16_code 52 (.iload_n 1) 1 53 := ⟨by decide +kernel, rfl⟩
theorem d_X12_readSnow_53 : DD prog_14_method_16_code 53 (.iadd) 1 54 := ⟨by decide +kernel, rfl⟩
theorem d_X12_readSnow_54 : DD prog_14_method_16_code 54 (.aload_n 0) 1 55 := ⟨by decide +kernel, rfl⟩
theorem d_X12_readSnow_55 : DD prog_14_method_16_code 55 (.iconst 0) 1 56 := ⟨by decide +kernel, rfl⟩
theorem d_X12_readSnow_56 : DD prog_14_method_16_code 56 (.sipush 200) 3 59 := ⟨by decide +kernel, rfl⟩
theorem d_X12_readSnow_59 : DD prog_14_method_16_code 59 (.invokevirtual 127) 3 62 := ⟨by decide +kernel, rfl⟩
theorem d_X12_readSnow_62 : DD prog_14_method_16_code 62 (.iastore) 1 63 := ⟨by decide +kernel, rfl⟩
theorem d_X12_readSnow_63 : DD prog_14_method_16_code 63 (.return_) 1 64 := ⟨by decide +kernel, rfl⟩
theorem d_X12_readMan_0 : DD prog_14_method_17_code 0 (.aload_n 0) 1 1 := ⟨by decide +kernel, rfl⟩
theorem d_X12_readMan_1 : DD prog_14_method_17_code 1 (.bipush 8) 2 3 := ⟨by decide +kernel, rfl⟩
theorem d_X12_readMan_3 : DD prog_14_method_17_code 3 (.bipush 9) 2 5 := ⟨by decide +kernel, rfl⟩
theorem d_X12_readMan_5 : DD prog_14_method_17_code 5 (.invokevirtual 147) 3 8 := ⟨by decide +kernel, rfl⟩
theorem d_X12_readMan_8 : DD prog_14_method_17_code 8 (.istore_n 1) 1 9 := ⟨by decide +kernel, rfl⟩
theorem d_X12_readMan_9 : DD prog_14_method_17_code 9 (.aload_n 0) 1 10 := ⟨by decide +kernel, rfl⟩
theorem d_X12_readMan_10 : DD prog_14_method_17_code 10 (.invokevirtual 141) 3 13 := ⟨by decide +kernel, rfl⟩
theorem d_X12_readMan_13 : DD prog_14_method_17_code 13 (.istore_n 2) 1 14 := ⟨by decide +kernel, rfl⟩
theorem d_X12_readMan_14 : DD prog_14_method_17_code 14 (.bipush 7) 2 16 := ⟨by decide +kernel, rfl⟩
theorem d_X12_readMan_16 : DD prog_14_method_17_code 16 (.bipush 10) 2 18 := ⟨by decide +kernel, rfl⟩
theorem d_X12_readMan_18 : DD prog_14_method_17_code 18 (.iload_n 1) 1 19 := ⟨by decide +kernel, rfl⟩
theorem d_X12_readMan_19 : DD prog_14_method_17_code 19 (.imul) 1 20 := ⟨by decide +kernel, rfl⟩
theorem d_X12_readMan_20 : DD prog_14_method_17_code 20 (.iload_n 2) 1 21 := ⟨by decide +kernel, rfl⟩
theorem d_X12_readMan_21 : DD prog_14_method_17_code 21 (.iadd) 1 22 := ⟨by decide +kernel, rfl⟩
theorem d_X12_readMan_22 : DD prog_14_method_17_code 22 (.imul) 1 23 := ⟨by decide +kernel, rfl⟩
theorem d_X12_readMan_23 : DD prog_14_method_17_code 23 (.istore_n 3) 1 24 := ⟨by decide +kernel, rfl⟩
theorem d_X12_readMan_24 : DD prog_14_method_17_code 24 (.aload_n 0) 1 25 := ⟨by decide +kernel, rfl⟩
theorem d_X12_readMan_25 : DD prog_14_method_17_code 25 (.getfield 79) 3 28 := ⟨by decide +kernel, rfl⟩
theorem d_X12_readMan_28 : DJ prog_14_method_17_code 28 (fun o => .ifCond .ne o) 46 3 31 := ⟨by decide +kernel, rfl⟩
theorem d_X12_readMan_31 : DD prog_14_method_17_code 31 (.aload_n 0) 1 32 := ⟨by decide +kernel, rfl⟩
theorem d_X12_readMan_32 : DD prog_14_method_17_code 32 (.getfield 29) 3 35 := ⟨by decide +kernel, rfl⟩
theorem d_X12_readMan_35 : DD prog_14_method_17_code 35 (.iload_n 3) 1 36 := ⟨by decide +kernel, rfl⟩
theorem d_X12_readMan_36 : DD prog_14_method_17_code 36 (.iaload) 1 37 := ⟨by decide +kernel, rfl⟩
theorem d_X12_readMan_37 : DD prog_14_method_17_code 37 (.iconst 1) 1 38 := ⟨by decide +kernel, rfl⟩
theorem d_X12_readMan_38 : DJ prog_14_method_17_code 38 (fun o => .if_icmp .ne o) 46 3 41 := ⟨by decide +kernel, rfl⟩
theorem d_X12_readMan_41 : DD prog_14_method_17_code 41 (.aload_n 0) 1 42 := ⟨by decide +kernel, rfl⟩
theorem d_X12_readMan_42 : DD prog_14_method_17_code 42 (.iconst 4) 1 43 := ⟨by decide +kernel, rfl⟩
theorem d_X12_readMan_43 : DD prog_14_method_17_code 43 (.invokevirtual 109) 3 46 := ⟨by decide +kernel, rfl⟩
theorem d_X12_readMan_46 : DD prog_14_method_17_code 46 (.aload_n 0) 1 47 := ⟨by decide +kernel, rfl⟩
theorem d_X12_readMan_47 : DD prog_14_method_17_code 47 (.invokevirtual 117) 3 50 := ⟨by decide +kernel, rfl⟩
theorem d_X12_readMan_50 : DD prog_14_method_17_code 50 (.aload_n 0) 1 51 := ⟨by decide +kernel, rfl⟩
theorem d_X12_readMan_51 : DD prog_14_method_17_code 51 (.getfield 29) 3 54 := ⟨by decide +kernel, rfl⟩
theorem d_X12_readMan_54 : DD prog_14_method_17_code 54 (.iload_n 3) 1 55 := ⟨by decide +kernel, rfl⟩
theorem d_X12_readMan_55 : DD prog_14_method_17_code 55 (.iconst 1) 1 56 := ⟨by decide +kernel, rfl⟩
theorem d_X12_readMan_56 : DD prog_14_method_17_code 56 (.iadd) 1 57 := ⟨by decide +kernel, rfl⟩
theorem d_X12_readMan_57 : DD prog_14_method_17_code 57 (.aload_n 0) 1 58 := ⟨by decide +kernel, rfl⟩
theorem d_X12_readMan_58 : DD prog_14_method_17_code 58 (.bipush 10) 2 60 := ⟨by decide +kernel, rfl⟩
theorem d_X12_readMan_60 : DD prog_14_method_17_code 60 (.bipush 14) 2 62 := ⟨by decide +kernel, rfl⟩
theorem d_X12_readMan_62 : DD prog_14_method_17_code 62 (.invokevirtual 147) 3 65 := ⟨by decide +kernel, rfl⟩
theorem d_X12_readMan_65 : DD prog_14_method_17_code 65 (.iastore) 1 66 := ⟨by decide +kernel, rfl⟩
theorem d_X12_readMan_66 : DD prog_14_method_17_code 66 (.aload_n 0) 1 67 := ⟨by decide +kernel, rfl⟩
theorem d_X12_readMan_67 : DD prog_14_method_17_code 67 (.getfield 29) 3 70 := ⟨by decide +kernel, rfl⟩
theorem d_X12_readMan_70 : DD prog_14_method_17_code 70 (.iload_n 3) 1 71 := ⟨by decide +kernel, rfl⟩
theorem d_X12_readMan_71 : DD prog_14_method_17_code 71 (.iconst 2) 1 72 := ⟨by decide +kernel, rfl⟩
theorem d_X12_readMan_72 : DD prog_14_method_17_code 72 (.iadd) 1 73 := ⟨by decide +kernel, rfl⟩
theorem d_X12_readMan_73 : DD prog_14_method_17_code 73 (.aload_n 0) 1 74 := ⟨by decide +kernel, rfl⟩
theorem d_X12_readMan_74 : DD prog_14_method_17_code 74 (.iconst 0) 1 75 := ⟨by decide +kernel, rfl⟩
theorem d_X12_readMan_75 : DD prog_14_method_17_code 75 (.bipush 99) 2 77 := ⟨by decide +kernel, rfl⟩
theorem d_X12_readMan_77 : DD prog_14_method_17_code 77 (.invokevirtual 127) 3 80 := ⟨by decide +kernel, rfl⟩
theorem d_X12_readMan_80 : DD prog_14_method_17_code 80 (.iastore) 1 81 := ⟨by decide +kernel, rfl⟩
theorem d_X12_readMan_81 : DD prog_14_method_17_code 81 (.aload_n 0) 1 82 := ⟨by decide +kernel, rfl⟩
theorem d_X12_readMan_82 : DD prog_14_method_17_code 82 (.getfield 29) 3 85 := ⟨by decide +kernel, rfl⟩
theorem d_X12_readMan_85 : DD prog_14_method_17_code 85 (.iload_n 3) 1 86 := ⟨by decide +kernel, rfl⟩
theorem d_X12_readMan_86 : DD prog_14_method_17_code 86 (.iconst 3) 1 87 := ⟨by decide +kernel, rfl⟩
theorem d_X12_readMan_87 : DD prog_14_method_17_code 87 (.iadd) 1 88 := ⟨by decide +kernel, rfl⟩
theorem d_X12_readMan_88 : DD prog_14_method_17_code 88 (.aload_n 0) 1 89 := ⟨by decide +kernel, rfl⟩
theorem d_X12_readMan_89 : DD prog_14_method_17_code 89 (.iconst 0) 1 90 := ⟨by decide +kernel, rfl⟩
theorem d_X12_readMan_90 : DD prog_14_method_17_code 90 (.bipush 99) 2 92 := ⟨by decide +kernel, rfl⟩
theorem d_X12_readMan_92 : DD prog_14_method_17_code 92 (.invokevirtual 127) 3 95 := ⟨by decide +kernel, rfl⟩
theorem d_X12_readMan_95 : DD prog_14_method_17_code 95 (.iastore) 1 96 := ⟨by decide +kernel, rfl⟩
theorem d_X12_readMan_96 : DD prog_14_method_17_code 96 (.aload_n 0) 1 97 := ⟨by decide +kernel, rfl⟩
theorem d_X12_readMan_97 : DD prog_14_method_17_code 97 (.getfield 29) 3 100 := ⟨by decide +kernel, rfl⟩
theorem d_X12_readMan_100 : DD prog_14_method_17_code 100 (.iload_n 3) 1 101 := ⟨by decide +kernel, rfl⟩
theorem d_X12_readMan_101 : DD prog_14_method_17_code 101 (.iconst 4) 1 102 := ⟨by decide +kernel, rfl⟩
theorem d_X12_readMan_102 : DD prog_14_method_17_code 102 (.iadd) 1 103 := ⟨by decide +kernel, rfl⟩
theorem d_X12_readMan_103 : DD prog_14_method_17_code 103 (.aload_n 0) 1 104 := ⟨by decide +kernel, rfl⟩
theorem d_X12_readMan_104 : DD prog_14_method_17_code 104 (.iconst 0) 1 105 := ⟨by decide +kernel, rfl⟩
theorem d_X12_readMan_105 : DD prog_14_method_17_code 105 (.bipush 99) 2 107 := ⟨by decide +kernel, rfl⟩
theorem d_X12_readMan_107 : DD prog_14_method_17_code 107 (.invokevirtual 127) 3 110 := ⟨by decide +kernel, rfl⟩
theorem d_X12_readMan_110 : DD prog_14_method_17_code 110 (.iastore) 1 111 := ⟨by decide +kernel, rfl⟩
theorem d_X12_readMan_111 : DD prog_14_method_17_code 111 (.aload_n 0) 1 112 := ⟨by decide +kernel, rfl⟩
theorem d_X12_readMan_112 : DD prog_14_method_17_code 112 (.getfield 29) 3 115 := ⟨by decide +kernel, rfl⟩
theorem d_X12_readMan_115 : DD prog_14_method_17_code 115 (.iload_n 3) 1 116 := ⟨by decide +kernel, rfl⟩
theorem d_X12_readMan_116 : DD prog_14_method_17_code 116 (.iconst 5) 1 117 := ⟨by decide +kernel, rfl⟩
theorem d_X12_readMan_117 : DD prog_14_method_17_code 117 (.iadd) 1 118 := ⟨by decide +kernel, rfl⟩
theorem d_X12_readMan_118 : DD prog_14_method_17_code 118 (.aload_n 0) 1 119 := ⟨by decide +kernel, rfl⟩
theorem d_X12_readMan_119 : DD prog_14_method_17_code 119 (.iconst 0) 1 120 := ⟨by decide +kernel, rfl⟩
theorem d_X12_readMan_120 : DD prog_14_method_17_code 120 (.iconst 3) 1 121 := ⟨by decide +kernel, rfl⟩
theorem d_X12_readMan_121 : DD prog_14_method_17_code 121 (.invokevirtual 127) 3 124 := ⟨by decide +kernel, rfl⟩
theorem d_X12_readMan_124 : DD prog_14_method_17_code 124 (.iastore) 1 125 := ⟨by decide +kernel, rfl⟩
theorem d_X12_readMan_125 : DD prog_14_method_17_code 125 (.aload_n 0) 1 126 := ⟨by decide +kernel, rfl⟩
theorem d_X12_readMan_126 : DD prog_14_method_17_code 126 (.getfield 29) 3 129 := ⟨by decide +kernel, rfl⟩
theorem d_X12_readMan_129 : DD prog_14_method_17_code 129 (.iload_n 3) 1 130 := ⟨by decide +kernel, rfl⟩
theorem d_X12_readMan_130 : DD prog_14_method_17_code 130 (.iconst 1) 1 131 := ⟨by decide +kernel, rfl⟩
theorem d_X12_readMan_131 : DD prog_14_method_17_code 131 (.iastore) 1 132 := ⟨by decide +kernel, rfl⟩
theorem d_X12_readMan_132 : DD prog_14_method_17_code 132 (.aload_n 0) 1 133 := ⟨by decide +kernel, rfl⟩
theorem d_X12_readMan_133 : DD prog_14_method_17_code 133 (.getfield 79) 3 136 := ⟨by decide +kernel, rfl⟩
theorem d_X12_readMan_136 : DJ prog_14_method_17_code 136 (fun o => .ifCond .ne o) 166 3 139 := ⟨by decide +kernel, rfl⟩
theorem d_X12_readMan_139 : DD prog_14_method_17_code 139 (.aload_n 0) 1 140 := ⟨by decide +kernel, rfl⟩
theorem d_X12_readMan_140 : DD prog_14_method_17_code 140 (.getfield 88) 3 143 := ⟨by decide +kernel, rfl⟩
theorem d_X12_readMan_143 : DD prog_14_method_17_code 143 (.iconst 1) 1 144 := ⟨by decide +kernel, rfl⟩
theorem d_X12_readMan_144 : DJ prog_14_method_17_code 144 (fun o => .if_icmp .ne o) 166 3 147 := ⟨by decide +kernel, rfl⟩
theorem d_X12_readMan_147 : DD prog_14_method_17_code 147 (.aload_n 0) 1 148 := ⟨by decide +kernel, rfl⟩
theorem d_X12_readMan_148 : DD prog_14_method_17_code 148 (.bipush 15) 2 150 := ⟨by decide +kernel, rfl⟩
theorem d_X12_readMan_150 : DD prog_14_method_17_code 150 (.bipush 15) 2 152 := ⟨by decide +kernel, rfl⟩
theorem d_X12_readMan_152 : DD prog_14_method_17_code 152 (.invokevirtual 147) 3 155 := ⟨by decide +kernel, rfl⟩
theorem d_X12_readMan_155 : DD prog_14_method_17_code 155 (.pop) 1 156 := ⟨by decide +kernel, rfl⟩
theorem d_X12_readMan_156 : DD prog_14_method_17_code 156 (.aload_n 0) 1 157 := ⟨by decide +kernel, rfl⟩
theorem d_X12_readMan_157 : DD prog_14_method_17_code 157 (.getfield 29) 3 160 := ⟨by decide +kernel, rfl⟩
theorem d_X12_readMan_160 : DD prog_14_method_17_code 160 (.iload_n 3) 1 161 := ⟨by decide +kernel, rfl⟩
theorem d_X12_readMan_161 : DD prog_14_method_17_code 161 (.bipush 6) 2 163 := ⟨by decide +kernel, rfl⟩
theorem d_X12_readMan_163 : DD prog_14_method_17_code 163 (.iadd) 1 164 := ⟨by decide +kernel, rfl⟩
theorem d_X12_readMan_164 : DD prog_14_method_17_code 164 (.iconst 1) 1 165 := ⟨by decide +kernel, rfl⟩
theorem d_X12_readMan_165 : DD prog_14_method_17_code 165 (.iastore) 1 166 := ⟨by decide +kernel, rfl⟩
theorem d_X12_readMan_166 : DD prog_14_method_17_code 166 (.return_) 1 167 := ⟨by decide +kernel, rfl⟩
theorem d_X12_readBrazier_0 : DD prog_14_method_18_code 0 (.aload_n 0) 1 1 := ⟨by decide +kernel, rfl⟩
theorem d_X12_readBrazier_1 : DD prog_14_method_18_code 1 (.getfield 29) 3 4 := ⟨by decide +kernel, rfl⟩
theorem d_X12_readBrazier_4 : DD prog_14_method_18_code 4 (.sipush 207) 3 7 := ⟨by decide +kernel, rfl⟩
theorem d_X12_readBrazier_7 : DD prog_14_method_18_code 7 (.iaload) 1 8 := ⟨by decide +kernel, rfl⟩
theorem d_X12_readBrazier_8 : DD prog_14_method_18_code 8 (.istore_n 1) 1 9 := ⟨by decide +kernel, rfl⟩
theorem d_X12_readBrazier_9 : DD prog_14_method_18_code 9 (.iload_n 1) 1 10 := ⟨by decide +kernel, rfl⟩
theorem d_X12_readBrazier_10 : DD prog_14_method_18_code 10 (.bipush 6) 2 12 := ⟨by decide +kernel, rfl⟩
theorem d_X12_readBrazier_12 : DJ prog_14_method_18_code 12 (fun o => .if_icmp .ne o) 21 3 15 := ⟨by decide +kernel, rfl⟩
theorem d_X12_readBrazier_15 : DD prog_14_method_18_code 15 (.aload_n 0) 1 16 := ⟨by decide +kernel, rfl⟩
theorem d_X12_readBrazier_16 : DD prog_14_method_18_code 16 (.iconst 5) 1 17 := ⟨by decide +kernel, rfl⟩
theorem d_X12_readBrazier_17 : DD prog_14_method_18_code 17 (.invokevirtual 109) 3 20 := ⟨by decide +kernel, rfl⟩
theorem d_X12_readBrazier_20 : DD prog_14_method_18_code 20 (.return_) 1 21 := ⟨by decide +kernel, rfl⟩
theorem d_X12_readBrazier_21 : DD prog_14_method_18_code 21 (.aload_n 0) 1 22 := ⟨by decide +kernel, rfl⟩
theorem d_X12_readBrazier_22 : DD prog_14_method_18_code 22 (.invokevirtual 117) 3 25 := ⟨by decide +kernel, rfl⟩
theorem d_X12_readBrazier_25 : DD prog_14_method_18_code 25 (.sipush 183) 3 28 := ⟨by decide +kernel, rfl⟩
theorem d_X12_readBrazier_28 : DD prog_14_method_18_code 28 (.iconst 4) 1 29 := ⟨by decide +kernel, rfl⟩
theorem d_X12_readBrazier_29 : DD prog_14_method_18_code 29 (.iload_n 1) 1 30 := ⟨by decide +kernel, rfl⟩
theorem d_X12_readBrazier_30 : DD prog_14_method_18_code 30 (.imul) 1 31 := ⟨by decide +kernel, rfl⟩
theorem d_X12_readBrazier_31 : DD prog_14_method_18_code 31 (.iadd) 1 32 := ⟨by decide +kernel, rfl⟩
theorem d_X12_readBrazier_32 : DD prog_14_method_18_code 32 (.istore_n 2) 1 33 := ⟨by decide +kernel, rfl⟩
theorem d_X12_readBrazier_33 : DD prog_14_method_18_code 33 (.aload_n 0) 1 34 := ⟨by decide +kernel, rfl⟩
theorem d_X12_readBrazier_34 : DD prog_14_method_18_code 34 (.getfield 29) 3 37 := ⟨by decide +kernel, rfl⟩
theorem d_X12_readBrazier_37 : DD prog_14_method_18_code 37 (.iload_n 2) 1 38 := ⟨by decide +kernel, rfl⟩
theorem d_X12_readBrazier_38 : DD prog_14_method_18_code 38 (.aload_n 0) 1 39 := ⟨by decide +kernel, rfl⟩
theorem d_X12_readBrazier_39 : DD prog_14_method_18_code 39 (.invokevirtual 141) 3 42 := ⟨by decide +kernel, rfl⟩
theorem d_X12_readBrazier_42 : DD prog_14_method_18_code 42 (.iastore) 1 43 := ⟨by decide +kernel, rfl⟩
theorem d_X12_readBrazier_43 : DD prog_14_method_18_code 43 (.aload_n 0) 1 44 := ⟨by decide +kernel, rfl⟩
theorem d_X12_readBrazier_44 : DD prog_14_method_18_code 44 (.invokevirtual 117) 3 47 := ⟨by decide +kernel, rfl⟩
theorem d_X12_readBrazier_47 : DD prog_14_method_18_code 47 (.aload_n 0) 1 48 := ⟨by decide +kernel, rfl⟩
theorem d_X12_readBrazier_48 : DD prog_14_method_18_code 48 (.getfield 29) 3 51 := ⟨by decide +kernel, rfl⟩
theorem d_X12_readBrazier_51 : DD prog_14_method_18_code 51 (.iload_n 2) 1 52 := ⟨by decide +kernel, rfl⟩
theorem d_X12_readBrazier_52 : DD prog_14_method_18_code 52 (.iconst 1) 1 53 := ⟨by decide +kernel, rfl⟩
theorem d_X12_readBrazier_53 : DD prog_14_method_18_code 53 (.iadd) 1 54 := ⟨by decide +kernel, rfl⟩
theorem d_X12_readBrazier_54 : DD prog_14_method_18_code 54 (.aload_n 0) 1 55 := ⟨by decide +kernel, rfl⟩
theorem d_X12_readBrazier_55 : DD prog_14_method_18_code 55 (.iconst 1) 1 56 := ⟨by decide +kernel, rfl⟩
theorem d_X12_readBrazier_56 : DD prog_14_method_18_code 56 (.bipush 20) 2 58 := ⟨by decide +kernel, rfl⟩
theorem d_X12_readBrazier_58 : DD prog_14_method_18_code 58 (.invokevirtual 127) 3 61 := ⟨by decide +kernel, rfl⟩
theorem d_X12_readBrazier_61 : DD prog_14_method_18_code 61 (.iastore) 1 62 := ⟨by decide +kernel, rfl⟩
theorem d_X12_readBrazier_62 : DD prog_14_method_18_code 62 (.aload_n 0) 1 63 := ⟨by decide +kernel, rfl⟩
theorem d_X12_readBrazier_63 : DD prog_14_method_18_code 63 (.getfield 29) 3 66 := ⟨by decide +kernel, rfl⟩
theorem d_X12_readBrazier_66 : DD prog_14_method_18_code 66 (.iload_n 2) 1 67 := ⟨by decide +kernel, rfl⟩
theorem d_X12_readBrazier_67 : DD prog_14_method_18_code 67 (.iconst 2) 1 68 := ⟨by decide +kernel, rfl⟩
theorem d_X12_readBrazier_68 : DD prog_14_method_18_code 68 (.iadd) 1 69 := ⟨by decide +kernel, rfl⟩
theorem d_X12_readBrazier_69 : DD prog_14_method_18_code 69 (.aload_n 0) 1 70 := ⟨by decide +kernel, rfl⟩
theorem d_X12_readBrazier_70 : DD prog_14_method_18_code 70 (.iconst 0) 1 71 := ⟨by decide +kernel, rfl⟩
theorem d_X12_readBrazier_71 : DD prog_14_method_18_code 71 (.bipush 11) 2 73 := ⟨by decide +kernel, rfl⟩
theorem d_X12_readBrazier_73 : DD prog_14_method_18_code 73 (.invokevirtual 127) 3 76 := ⟨by decide +kernel, rfl⟩
theorem d_X12_readBrazier_76 : DD prog_14_method_18_code 76 (.iastore) 1 77 := ⟨by decide +kernel, rfl⟩
theorem d_X12_readBrazier_77 : DD prog_14_method_18_code 77 (.aload_n 0) 1 78 := ⟨by decide +kernel, rfl⟩
theorem d_X12_readBrazier_78 : DD prog_14_method_18_code 78 (.getfield 29) 3 81 := ⟨by decide +kernel, rfl⟩
theorem d_X12_readBrazier_81 : DD prog_14_method_18_code 81 (.iload_n 2) 1 82 := ⟨by decide +kernel, rfl⟩
theorem d_X12_readBrazier_82 : DD prog_14_method_18_code 82 (.iconst 3) 1 83 := ⟨by decide +kernel, rfl⟩
theorem d_X12_readBrazier_83 : DD prog_14_method_18_code 83 (.iadd) 1 84 := ⟨by decide +kernel, rfl⟩
theorem d_X12_readBrazier_84 : DD prog_14_method_18_code 84 (.aload_n 0) 1 85 := ⟨by decide +kernel, rfl⟩
theorem d_X12_readBrazier_85 : DD prog_14_method_18_code 85 (.aload_n 0) 1 86 := ⟨by decide +kernel, rfl⟩
theorem d_X12_readBrazier_86 : DD prog_14_method_18_code 86 (.getfield 29) 3 89 := ⟨by decide +kernel, rfl⟩
theorem d_X12_readBrazier_89 : DD prog_14_method_18_code 89 (.iload_n 2) 1 90 := ⟨by decide +kernel, rfl⟩
theorem d_X12_readBrazier_90 : DD prog_14_method_18_code 90 (.iconst 2) 1 91 := ⟨by decide +kernel, rfl⟩
theorem d_X12_readBrazier_91 : DD prog_14_method_18_code 91 (.iadd) 1 92 := ⟨by decide +kernel, rfl⟩
theorem d_X12_readBrazier_92 : DD prog_14_method_18_code 92 (.iaload) 1 93 := ⟨by decide +kernel, rfl⟩
theorem d_X12_readBrazier_93 : DD prog_14_method_18_code 93 (.bipush 11) 2 95 := ⟨by decide +kernel, rfl⟩
theorem d_X12_readBrazier_95 : DD prog_14_method_18_code 95 (.invokevirtual 127) 3 98 := ⟨by decide +kernel, rfl⟩
theorem d_X12_readBrazier_98 : DD prog_14_method_18_code 98 (.iastore) 1 99 := ⟨by decide +kernel, rfl⟩
theorem d_X12_readBrazier_99 : DD prog_14_method_18_code 99 (.aload_n 0) 1 100 := ⟨by decide +kernel, rfl⟩
theorem d_X12_readBrazier_100 : DD prog_14_method_18_code 100 (.getfield 29) 3 103 := ⟨by decide +kernel, rfl⟩
theorem d_X12_readBrazier_103 : DD prog_14_method_18_code 103 (.sipush 207) 3 106 := ⟨by decide +kernel, rfl⟩
theorem d_X12_readBrazier_106 : DD prog_14_method_18_code 106 (.dup2) 1 107 := ⟨by decide +kernel, rfl⟩
theorem d_X12_readBrazier_107 : DD prog_14_method_18_code 107 (.iaload) 1 108 := ⟨by decide +kernel, rfl⟩
theorem d_X12_readBrazier_108 : DD prog_14_method_18_code 108 (.iconst 1) 1 109 := ⟨by decide +kernel, rfl⟩
theorem d_X12_readBrazier_109 : DD prog_14_method_18_code 109 (.iadd) 1 110 := ⟨by decide +kernel, rfl⟩
theorem d_X12_readBrazier_110 : DD prog_14_method_18_code 110 (.iastore) 1 111 := ⟨by decide +kernel, rfl⟩
theorem d_X12_readBrazier_111 : DD prog_14_method_18_code 111 (.return_) 1 112 := ⟨by decide +kernel, rfl⟩
theorem d_X12_readHouse_0 : DD prog_14_method_19_code 0 (.aload_n 0) 1 1 := ⟨by decide +kernel, rfl⟩
theorem d_X12_readHouse_1 : DD prog_14_method_19_code 1 (.getfield 150) 3 4 := ⟨by decide +kernel, rfl⟩
theorem d_X12_readHouse_4 : DD prog_14_method_19_code 4 (.bipush 8) 2 6 := ⟨by decide +kernel, rfl⟩
theorem d_X12_readHouse_6 : DJ prog_14_method_19_code 6 (fun o => .if_icmp .ne o) 15 3 9 := ⟨by decide +kernel, rfl⟩
theorem d_X12_readHouse_9 : DD prog_14_method_19_code 9 (.aload_n 0) 1 10 := ⟨by decide +kernel, rfl⟩
theorem d_X12_readHouse_10 : DD prog_14_method_19_code 10 (.iconst 5) 1 11 := ⟨by decide +kernel, rfl⟩
theorem d_X12_readHouse_11 : DD prog_14_method_19_code 11 (.invokevirtual 109) 3 14 := ⟨by decide +kernel, rfl⟩
theorem d_X12_readHouse_14 : DD prog_14_method_19_code 14 (.return_) 1 15 := ⟨by decide +kernel, rfl⟩
theorem d_X12_readHouse_15 : DD prog_14_method_19_code 15 (.aload_n 0) 1 16 := ⟨by decide +kernel, rfl⟩
theorem d_X12_readHouse_16 : DD prog_14_method_19_code 16 (.invokevirtual 117) 3 19 := ⟨by decide +kernel, rfl⟩
theorem d_X12_readHouse_19 : DD prog_14_method_19_code 19 (.aload_n 0) 1 20 := ⟨by decide +kernel, rfl⟩
theorem d_X12_readHouse_20 : DD prog_14_method_19_code 20 (.getfield 38) 3 23 := ⟨by decide +kernel, rfl⟩
theorem d_X12_readHouse_23 : DD prog_14_method_19_code 23 (.iconst 2) 1 24 := ⟨by decide +kernel, rfl⟩
theorem d_X12_readHouse_24 : DD prog_14_method_19_code 24 (.aload_n 0) 1 25 := ⟨by decide +kernel, rfl⟩
theorem d_X12_readHouse_25 : DD prog_14_method_19_code 25 (.getfield 150) 3 28 := ⟨by decide +kernel, rfl⟩
theorem d_X12_readHouse_28 : DD prog_14_method_19_code 28 (.imul) 1 29 := ⟨by decide +kernel, rfl⟩
theorem d_X12_readHouse_29 : DD prog_14_method_19_code 29 (.aload_n 0) 1 30 := ⟨by decide +kernel, rfl⟩
theorem d_X12_readHouse_30 : DD prog_14_method_19_code 30 (.invokevirtual 141) 3 33 := ⟨by decide +kernel, rfl⟩
theorem d_X12_readHouse_33 : DD prog_14_method_19_code 33 (.iastore) 1 34 := ⟨by decide +kernel, rfl⟩
theorem d_X12_readHouse_34 : DD prog_14_method_19_code 34 (.aload_n 0) 1 35 := ⟨by decide +kernel, rfl⟩
theorem d_X12_readHouse_35 : DD prog_14_method_19_code 35 (.invokevirtual 117) 3 38 := ⟨by decide +kernel, rfl⟩
theorem d_X12_readHouse_38 : DD prog_14_method_19_code 38 (.aload_n 0) 1 39 := ⟨by decide +kernel, rfl⟩
theorem d_X12_readHouse_39 : DD prog_14_method_19_code 39 (.iconst 0) 1 40 := ⟨by decide +kernel, rfl⟩
theorem d_X12_readHouse_40 : DD prog_14_method_19_code 40 (.bipush 9) 2 42 := ⟨by decide +kernel, rfl⟩
theorem d_X12_readHouse_42 : DD prog_14_method_19_code 42 (.invokevirtual 127) 3 45 := ⟨by decide +kernel, rfl⟩
theorem d_X12_readHouse_45 : DD prog_14_method_19_code 45 (.istore_n 1) 1 46 := ⟨by decide +kernel, rfl⟩
theorem d_X12_readHouse_46 : DD prog_14_method_19_code 46 (.aload_n 0) 1 47 := ⟨by decide +kernel, rfl⟩
theorem d_X12_readHouse_47 : DD prog_14_method_19_code 47 (.getfield 38) 3 50 := ⟨by decide +kernel, rfl⟩
theorem d_X12_readHouse_50 : DD prog_14_method_19_code 50 (.iconst 2) 1 51 := ⟨by decide +kernel, rfl⟩
theorem d_X12_readHouse_51 : DD prog_14_method_19_code 51 (.aload_n 0) 1 52 := ⟨by decide +kernel, rfl⟩
theorem d_X12_readHouse_52 : DD prog_14_method_19_code 52 (.getfield 150) 3 55 := ⟨by decide +kernel, rfl⟩
theorem d_X12_readHouse_55 : DD prog_14_method_19_code 55 (.imul) 1 56 := ⟨by decide +kernel, rfl⟩
theorem d_X12_readHouse_56 : DD prog_14_method_19_code 56 (.iconst 1) 1 57 := ⟨by decide +kernel, rfl⟩
theorem d_X12_readHouse_57 : DD prog_14_method_19_code 57 (.iadd) 1 58 := ⟨by decide +kernel, rfl⟩
theorem d_X12_readHouse_58 : DD prog_14_method_19_code 58 (.aload_n 0) 1 59 := ⟨by decide +kernel, rfl⟩
theorem d_X12_readHouse_59 : DD prog_14_method_19_code 59 (.bipush 8) 2 61 := ⟨by decide +kernel, rfl⟩
theorem d_X12_readHouse_61 : DD prog_14_method_19_code 61 (.bipush 9) 2 63 := ⟨by decide +kernel, rfl⟩
theorem d_X12_readHouse_63 : DD prog_14_method_19_code 63 (.invokevirtual 147) 3 66 := ⟨by decide +kernel, rfl⟩
theorem d_X12_readHouse_66 : DJ prog_14_method_19_code 66 (fun o => .ifCond .ne o) 74 3 69 := ⟨by decide +kernel, rfl⟩
theorem d_X12_readHouse_69 : DD prog_14_method_19_code 69 (.iload_n 1) 1 70 := ⟨by decide +kernel, rfl⟩
theorem d_X12_readHouse_70 : DD prog_14_method_19_code 70 (.ineg) 1 71 := ⟨by decide +kernel, rfl⟩
theorem d_X12_readHouse_71 : DJ prog_14_method_19_code 71 (fun o => .goto o) 75 3 74 := ⟨by decide +kernel, rfl⟩
theorem d_X12_readHouse_74 : DD prog_14_method_19_code 74 (.iload_n 1) 1 75 := ⟨by decide +kernel, rfl⟩
theorem d_X12_readHouse_75 : DD prog_14_method_19_code 75 (.iastore) 1 76 := ⟨by decide +kernel, rfl⟩
theorem d_X12_readHouse_76 : DD prog_14_method_19_code 76 (.aload_n 0) 1 77 := ⟨by decide +kernel, rfl⟩
theorem d_X12_readHouse_77 : DD prog_14_method_19_code 77 (.dup) 1 78 := ⟨by decide +kernel, rfl⟩
theorem d_X12_readHouse_78 : DD prog_14_method_19_code 78 (.getfield 150) 3 81 := ⟨by decide +kernel, rfl⟩
theorem d_X12_readHouse_81 : DD prog_14_method_19_code 81 (.iconst 1) 1 82 := ⟨by decide +kernel, rfl⟩
theorem d_X12_readHouse_82 : DD prog_14_method_19_code 82 (.iadd) 1 83 := ⟨by decide +kernel, rfl⟩
theorem d_X12_readHouse_83 : DD prog_14_method_19_code 83 (.putfield 150) 3 86 := ⟨by decide +kernel, rfl⟩
theorem d_X12_readHouse_86 : DD prog_14_method_19_code 86 (.return_) 1 87 := ⟨by decide +kernel, rfl⟩
theorem d_X12_readLine_0 : DD prog_14_method_20_code 0 (.aload_n 0) 1 1 := ⟨by decide +kernel, rfl⟩
theorem d_X12_readLine_1 : DD prog_14_method_20_code 1 (.invokevirtual 120) 3 4 := ⟨by decide +kernel, rfl⟩
theorem d_X12_readLine_4 : DD prog_14_method_20_code 4 (.istore_n 1) 1 5 := ⟨by decide +kernel, rfl⟩
theorem d_X12_readLine_5 : DD prog_14_method_20_code 5 (.iload_n 1) 1 6 := ⟨by decide +kernel, rfl⟩
theorem d_X12_readLine_6 : DD prog_14_method_20_code 6 (.i2l) 1 7 := ⟨by decide +kernel, rfl⟩
theorem d_X12_readLine_7 : DD prog_14_method_20_code 7 (.lconst 0) 1 8 := ⟨by decide +kernel, rfl⟩
theorem d_X12_readLine_8 : DD prog_14_method_20_code 8 (.ldc2_w 153) 3 11 := ⟨by decide +kernel, rfl⟩
theorem d_X12_readLine_11 : DD prog_14_method_20_code 11 (.invokestatic 75) 3 14 := ⟨by decide +kernel, rfl⟩
theorem d_X12_readLine_14 : DJ prog_14_method_20_code 14 (fun o => .ifCond .ne o) 23 3 17 := ⟨by decide +kernel, rfl⟩
theorem d_X12_readLine_17 : DD prog_14_method_20_code 17 (.aload_n 0) 1 18 := ⟨by decide +kernel, rfl⟩
theorem d_X12_readLine_18 : DD prog_14_method_20_code 18 (.iconst 2) 1 19 := ⟨by decide +kernel, rfl⟩
theorem d_X12_readLine_19 : DD prog_14_method_20_code 19 (.invokevirtual 109) 3 22 := ⟨by decide +kernel, rfl⟩
theorem d_X12_readLine_22 : DD prog_14_method_20_code 22 (.return_) 1 23 := ⟨by decide +kernel, rfl⟩
theorem d_X12_readLine_23 : DD prog_14_method_20_code 23 (.iload_n 1) 1 24 := ⟨by decide +kernel, rfl⟩
theorem d_X12_readLine_24 : DD prog_14_method_20_code 24 (.iconst 3) 1 25 := ⟨by decide +kernel, rfl⟩
theorem d_X12_readLine_25 : DJ prog_14_method_20_code 25 (fun o => .if_icmp .gt o) 36 3 28 := ⟨by decide +kernel, rfl⟩
theorem d_X12_readLine_28 : DD prog_14_method_20_code 28 (.aload_n 0) 1 29 := ⟨by decide +kernel, rfl⟩
theorem d_X12_readLine_29 : DD prog_14_method_20_code 29 (.iload_n 1) 1 30 := ⟨by decide +kernel, rfl⟩
theorem d_X12_readLine_30 : DD prog_14_method_20_code 30 (.invokevirtual 155) 3 33 := ⟨by decide +kernel, rfl⟩
theorem d_X12_readLine_33 : DJ prog_14_method_20_code 33 (fun o => .goto o) 82 3 36 := ⟨by decide +kernel, rfl⟩
theorem d_X12_readLine_36 : DD prog_14_method_20_code 36 (.iload_n 1) 1 37 := ⟨by decide +kernel, rfl⟩
theorem d_X12_readLine_37 : DD prog_14_method_20_code 37 (.bipush 6) 2 39 := ⟨by decide +kernel, rfl⟩
theorem d_X12_readLine_39 : DJ prog_14_method_20_code 39 (fun o => .if_icmp .ne o) 49 3 42 := ⟨by decide +kernel, rfl⟩
theorem d_X12_readLine_42 : DD prog_14_method_20_code 42 (.aload_n 0) 1 43 := ⟨by decide +kernel, rfl⟩
theorem d_X12_readLine_43 : DD prog_14_method_20_code 43 (.invokevirtual 158) 3 46 := ⟨by decide +kernel, rfl⟩
theorem d_X12_readLine_46 : DJ prog_14_method_20_code 46 (fun o => .goto o) 82 3 49 := ⟨by decide +kernel, rfl⟩
theorem d_X12_readLine_49 : DD prog_14_method_20_code 49 (.iload_n 1) 1 50 := ⟨by decide +kernel, rfl⟩
theorem d_X12_readLine_50 : DD prog_14_method_20_code 50 (.bipush 7) 2 52 := ⟨by decide +kernel, rfl⟩
theorem d_X12_readLine_52 : DJ prog_14_method_20_code 52 (fun o => .if_icmp .ne o) 62 3 55 := ⟨by decide +kernel, rfl⟩
theorem d_X12_readLine_55 : DD prog_14_method_20_code 55 (.aload_n 0) 1 56 := ⟨by decide +kernel, rfl⟩
theorem d_X12_readLine_56 : DD prog_14_method_20_code 56 (.invokevirtual 161) 3 59 := ⟨by decide +kernel, rfl⟩
theorem d_X12_readLine_59 : DJ prog_14_method_20_code 59 (fun o => .goto o) 82 3 62 := ⟨by decide +kernel, rfl⟩
theorem d_X12_readLine_62 : DD prog_14_method_20_code 62 (.aload_n 0) 1 63 := ⟨by decide +kernel, rfl⟩
theorem d_X12_readLine_63 : DD prog_14_method_20_code 63 (.invokevirtual 117) 3 66 := ⟨by decide +kernel, rfl⟩
theorem d_X12_readLine_66 : DD prog_14_method_20_code 66 (.iload_n 1) 1 67 := ⟨by decide +kernel, rfl⟩
theorem d_X12_readLine_67 : DD prog_14_method_20_code 67 (.iconst 4) 1 68 := ⟨by decide +kernel, rfl⟩
theorem d_X12_readLine_68 : DJ prog_14_method_20_code 68 (fun o => .if_icmp .ne o) 78 3 71 := ⟨by decide +kernel, rfl⟩
theorem d_X12_readLine_71 : DD prog_14_method_20_code 71 (.aload_n 0) 1 72 := ⟨by decide +kernel, rfl⟩
theorem d_X12_readLine_72 : DD prog_14_method_20_code 72 (.invokevirtual 164) 3 75 := ⟨by decide +kernel, rfl⟩
theorem d_X12_readLine_75 : DJ prog_14_method_20_code 75 (fun o => .goto o) 82 3 78 := ⟨by decide +kernel, rfl⟩
theorem d_X12_readLine_78 : DD prog_14_method_20_code 78 (.aload_n 0) 1 79 := ⟨by decide +kernel, rfl⟩
theorem d_X12_readLine_79 : DD prog_14_method_20_code 79 (.invokevirtual 167) 3 82 := ⟨by decide +kernel, rfl⟩
theorem d_X12_readLine_82 : DD prog_14_method_20_code 82 (.aload_n 0) 1 83 := ⟨by decide +kernel, rfl⟩
theorem d_X12_readLine_83 : DD prog_14_method_20_code 83 (.getfield 79) 3 86 := ⟨by decide +kernel, rfl⟩
theorem d_X12_readLine_86 : DJ prog_14_method_20_code 86 (fun o => .ifCond .ne o) 102 3 89 := ⟨by decide +kernel, rfl⟩
theorem d_X12_readLine_89 : DD prog_14_method_20_code 89 (.aload_n 0) 1 90 := ⟨by decide +kernel, rfl⟩
theorem d_X12_readLine_90 : DD prog_14_method_20_code 90 (.getfield 88) 3 93 := ⟨by decide +kernel, rfl⟩
theorem d_X12_readLine_93 : DD prog_14_method_20_code 93 (.iconst 3) 1 94 := ⟨by decide +kernel, rfl⟩
theorem d_X12_readLine_94 : DJ prog_14_method_20_code 94 (fun o => .if_icmp .eq o) 102 3 97 := ⟨by decide +kernel, rfl⟩
theorem d_X12_readLine_97 : DD prog_14_method_20_code 97 (.aload_n 0) 1 98 := ⟨by decide +kernel, rfl⟩
theorem d_X12_readLine_98 : DD prog_14_method_20_code 98 (.iconst 2) 1 99 := ⟨by decide +kernel, rfl⟩
theorem d_X12_readLine_99 : DD prog_14_method_20_code 99 (.invokevirtual 109) 3 102 := ⟨by decide +kernel, rfl⟩
theorem d_X12_readLine_102 : DD prog_14_method_20_code 102 (.aload_n 0) 1 103 := ⟨by decide +kernel, rfl⟩
theorem d_X12_readLine_103 : DD prog_14_method_20_code 103 (.invokevirtual 117) 3 106 := ⟨by decide +kernel, rfl⟩
theorem d_X12_readLine_106 : DD prog_14_method_20_code 106 (.return_) 1 107 := ⟨by decide +kernel, rfl⟩
theorem d_X12_takes_0 : DD prog_14_method_21_code 0 (.iconst 0) 1 1 := ⟨by decide +kernel, rfl⟩
theorem d_X12_takes_1 : DD prog_14_method_21_code 1 (.istore_n 1) 1 2 := ⟨by decide +kernel, rfl⟩
theorem d_X12_takes_2 : DD prog_14_method_21_code 2 (.iload_n 1) 1 3 := ⟨by decide +kernel, rfl⟩
theorem d_X12_takes_3 : DD prog_14_method_21_code 3 (.sipush 210) 3 6 := ⟨by decide +kernel, rfl⟩
theorem d_X12_takes_6 : DJ prog_14_method_21_code 6 (fun o => .if_icmp .ge o) 27 3 9 := ⟨by decide +kernel, rfl⟩
theorem d_X12_takes_9 : DD prog_14_method_21_code 9 (.aload_n 0) 1 10 := ⟨by decide +kernel, rfl⟩
theorem d_X12_takes_10 : DD prog_14_method_21_code 10 (.getfield 7) 3 13 := ⟨by decide +kernel, rfl⟩
theorem d_X12_takes_13 : DD prog_14_method_21_code 13 (.iload_n 1) 1 14 := ⟨by decide +kernel, rfl⟩
theorem d_X12_takes_14 : DD prog_14_method_21_code 14 (.aload_n 0) 1 15 := ⟨by decide +kernel, rfl⟩
theorem d_X12_takes_15 : DD prog_14_method_21_code 15 (.getfield 29) 3 18 := ⟨by decide +kernel, rfl⟩
theorem d_X12_takes_18 : DD prog_14_method_21_code 18 (.iload_n 1) 1 19 := ⟨by decide +kernel, rfl⟩
theorem d_X12_takes_19 : DD prog_14_method_21_code 19 (.iaload) 1 20 := ⟨by decide +kernel, rfl⟩
theorem d_X12_takes_20 : DD prog_14_method_21_code 20 (.iastore) 1 21 := ⟨by decide +kernel, rfl⟩
theorem d_X12_takes_21 : DD prog_14_method_21_code 21 (.iinc 1 1) 3 24 := ⟨by decide +kernel, rfl⟩
theorem d_X12_takes_24 : DJ prog_14_method_21_code 24 (fun o => .goto o) 2 3 27 := ⟨by decide +kernel, rfl⟩
theorem d_X12_takes_27 : DD prog_14_method_21_code 27 (.iconst 0) 1 28 := ⟨by decide +kernel, rfl⟩
theorem d_X12_takes_28 : DD prog_14_method_21_code 28 (.istore_n 1) 1 29 := ⟨by decide +kernel, rfl⟩
theorem d_X12_takes_29 : DD prog_14_method_21_code 29 (.iload_n 1) 1 30 := ⟨by decide +kernel, rfl⟩
theorem d_X12_takes_30 : DD prog_14_method_21_code 30 (.bipush 16) 2 32 := ⟨by decide +kernel, rfl⟩
theorem d_X12_takes_32 : DJ prog_14_method_21_code 32 (fun o => .if_icmp .ge o) 87 3 35 := ⟨by decide +kernel, rfl⟩
theorem d_X12_takes_35 : DD prog_14_method_21_code 35 (.aload_n 0) 1 36 := ⟨by decide +kernel, rfl⟩
theorem d_X12_takes_36 : DD prog_14_method_21_code 36 (.getfield 23) 3 39 := ⟨by decide +kernel, rfl⟩
theorem d_X12_takes_39 : DD prog_14_method_21_code 39 (.iload_n 1) 1 40 := ⟨by decide +kernel, rfl⟩
theorem d_X12_takes_40 : DD prog_14_method_21_code 40 (.aload_n 0) 1 41 := ⟨by decide +kernel, rfl⟩
theorem d_X12_takes_41 : DD prog_14_method_21_code 41 (.getfield 38) 3 44 := ⟨by decide +kernel, rfl⟩
theorem d_X12_takes_44 : DD prog_14_method_21_code 44 (.iload_n 1) 1 45 := ⟨by decide +kernel, rfl⟩
theorem d_X12_takes_45 : DD prog_14_method_21_code 45 (.iaload) 1 46 := ⟨by decide +kernel, rfl⟩
theorem d_X12_takes_46 : DD prog_14_method_21_code 46 (.iastore) 1 47 := ⟨by decide +kernel, rfl⟩
theorem d_X12_takes_47 : DD prog_14_method_21_code 47 (.aload_n 0) 1 48 := ⟨by decide +kernel, rfl⟩
theorem d_X12_takes_48 : DD prog_14_method_21_code 48 (.getfield 17) 3 51 := ⟨by decide +kernel, rfl⟩
theorem d_X12_takes_51 : DD prog_14_method_21_code 51 (.iload_n 1) 1 52 := ⟨by decide +kernel, rfl⟩
theorem d_X12_takes_52 : DD prog_14_method_21_code 52 (.bipush 12) 2 54 := ⟨by decide +kernel, rfl⟩
theorem d_X12_takes_54 : DD prog_14_method_21_code 54 (.irem) 1 55 := ⟨by decide +kernel, rfl⟩
theorem d_X12_takes_55 : DD prog_14_method_21_code 55 (.aload_n 0) 1 56 := ⟨by decide +kernel, rfl⟩
theorem d_X12_takes_56 : DD prog_14_method_21_code 56 (.getfield 32) 3 59 := ⟨by decide +kernel, rfl⟩
theorem d_X12_takes_59 : DD prog_14_method_21_code 59 (.iload_n 1) 1 60 := ⟨by decide +kernel, rfl⟩
theorem d_X12_takes_60 : DD prog_14_method_21_code 60 (.bipush 12) 2 62 := ⟨by decide +kernel, rfl⟩
theorem d_X12_takes_62 : DD prog_14_method_21_code 62 (.irem) 1 63 := ⟨by decide +kernel, rfl⟩
theorem d_X12_takes_63 : DD prog_14_method_21_code 63 (.iaload) 1 64 := ⟨by decide +kernel, rfl⟩
theorem d_X12_takes_64 : DD prog_14_method_21_code 64 (.iastore) 1 65 := ⟨by decide +kernel, rfl⟩
theorem d_X12_takes_65 : DD prog_14_method_21_code 65 (.aload_n 0) 1 66 := ⟨by decide +kernel, rfl⟩
theorem d_X12_takes_66 : DD prog_14_method_21_code 66 (.getfield 20) 3 69 := ⟨by decide +kernel, rfl⟩
theorem d_X12_takes_69 : DD prog_14_method_21_code 69 (.iload_n 1) 1 70 := ⟨by decide +kernel, rfl⟩
theorem d_X12_takes_70 : DD prog_14_method_21_code 70 (.iconst 3) 1 71 := ⟨by decide +kernel, rfl⟩
theorem d_X12_takes_71 : DD prog_14_method_21_code 71 (.irem) 1 72 := ⟨by decide +kernel, rfl⟩
theorem d_X12_takes_72 : DD prog_14_method_21_code 72 (.aload_n 0) 1 73 := ⟨by decide +kernel, rfl⟩
theorem d_X12_takes_73 : DD prog_14_method_21_code 73 (.getfield 35) 3 76 := ⟨by decide +kernel, rfl⟩
theorem d_X12_takes_76 : DD prog_14_method_21_code 76 (.iload_n 1) 1 77 := ⟨by decide +kernel, rfl⟩
theorem d_X12_takes_77 : DD prog_14_method_21_code 77 (.iconst 3) 1 78 := ⟨by decide +kernel, rfl⟩
theorem d_X12_takes_78 : DD prog_14_method_21_code 78 (.irem) 1 79 := ⟨by decide +kernel, rfl⟩
theorem d_X12_takes_79 : DD prog_14_method_21_code 79 (.iaload) 1 80 := ⟨by decide +kernel, rfl⟩
theorem d_X12_takes_80 : DD prog_14_method_21_code 80 (.iastore) 1 81 := ⟨by decide +kernel, rfl⟩
theorem d_X12_takes_81 : DD prog_14_method_21_code 81 (.iinc 1 1) 3 84 := ⟨by decide +kernel, rfl⟩
theorem d_X12_takes_84 : DJ prog_14_method_21_code 84 (fun o => .goto o) 29 3 87 := ⟨by decide +kernel, rfl⟩
theorem d_X12_takes_87 : DD prog_14_method_21_code 87 (.aload_n 0) 1 88 := ⟨by decide +kernel, rfl⟩
theorem d_X12_takes_88 : DD prog_14_method_21_code 88 (.aload_n 0) 1 89 := ⟨by decide +kernel, rfl⟩
theorem d_X12_takes_89 : DD prog_14_method_21_code 89 (.getfield 134) 3 92 := ⟨by decide +kernel, rfl⟩
theorem d_X12_takes_92 : DD prog_14_method_21_code 92 (.putfield 13) 3 95 := ⟨by decide +kernel, rfl⟩
theorem d_X12_takes_95 : DD prog_14_method_21_code 95 (.aload_n 0) 1 96 := ⟨by decide +kernel, rfl⟩
theorem d_X12_takes_96 : DD prog_14_method_21_code 96 (.aload_n 0) 1 97 := ⟨by decide +kernel, rfl⟩
theorem d_X12_takes_97 : DD prog_14_method_21_code 97 (.getfield 150) 3 100 := ⟨by decide +kernel, rfl⟩
theorem d_X12_takes_100 : DD prog_14_method_21_code 100 (.putfield 170) 3 103 := ⟨by decide +kernel, rfl⟩
theorem d_X12_takes_103 : DD prog_14_method_21_code 103 (.aload_n 0) 1 104 := ⟨by decide +kernel, rfl⟩
theorem d_X12_takes_104 : DD prog_14_method_21_code 104 (.iconst 0) 1 105 := ⟨by decide +kernel, rfl⟩
theorem d_X12_takes_105 : DD prog_14_method_21_code 105 (.putfield 173) 3 108 := ⟨by decide +kernel, rfl⟩
theorem d_X12_takes_108 : DD prog_14_method_21_code 108 (.aload_n 0) 1 109 := ⟨by decide +kernel, rfl⟩
theorem d_X12_takes_109 : DD prog_14_method_21_code 109 (.getfield 59) 3 112 := ⟨by decide +kernel, rfl⟩
theorem d_X12_takes_112 : DD prog_14_method_21_code 112 (.iconst 0) 1 113 := ⟨by decide +kernel, rfl⟩
theorem d_X12_takes_113 : DD prog_14_method_21_code 113 (.iconst 0) 1 114 := ⟨by decide +kernel, rfl⟩
theorem d_X12_takes_114 : DD prog_14_method_21_code 114 (.bastore) 1 115 := ⟨by decide +kernel, rfl⟩
theorem d_X12_takes_115 : DD prog_14_method_21_code 115 (.aload_n 0) 1 116 := ⟨by decide +kernel, rfl⟩
theorem d_X12_takes_116 : DD prog_14_method_21_code 116 (.getfield 59) 3 119 := ⟨by decide +kernel, rfl⟩
theorem d_X12_takes_119 : DD prog_14_method_21_code 119 (.iconst 1) 1 120 := ⟨by decide +kernel, rfl⟩
theorem d_X12_takes_120 : DD prog_14_method_21_code 120 (.iconst 0) 1 121 := ⟨by decide +kernel, rfl⟩
theorem d_X12_takes_121 : DD prog_14_method_21_code 121 (.bastore) 1 122 := ⟨by decide +kernel, rfl⟩
theorem d_X12_takes_122 : DD prog_14_method_21_code 122 (.return_) 1 123 := ⟨by decide +kernel, rfl⟩
theorem d_X12_land_0 : DD prog_14_method_22_code 0 (.aload_n 0) 1 1 := ⟨by decide +kernel, rfl⟩
theorem d_X12_land_1 : DD prog_14_method_22_code 1 (.iconst 0) 1 2 := ⟨by decide +kernel, rfl⟩
theorem d_X12_land_2 : DD prog_14_method_22_code 2 (.putfield 79) 3 5 := ⟨by decide +kernel, rfl⟩
theorem d_X12_land_5 : DD prog_14_method_22_code 5 (.aload_n 0) 1 6 := ⟨by decide +kernel, rfl⟩
theorem d_X12_land_6 : DD prog_14_method_22_code 6 (.iconst 0) 1 7 := ⟨by decide +kernel, rfl⟩
theorem d_X12_land_7 : DD prog_14_method_22_code 7 (.putfield 91) 3 10 := ⟨by decide +kernel, rfl⟩
theorem d_X12_land_10 : DD prog_14_method_22_code 10 (.aload_n 0) 1 11 := ⟨by decide +kernel, rfl⟩
theorem d_X12_land_11 : DD prog_14_method_22_code 11 (.iconst 0) 1 12 := ⟨by decide +kernel, rfl⟩
theorem d_X12_land_12 : DD prog_14_method_22_code 12 (.putfield 131) 3 15 := ⟨by decide +kernel, rfl⟩
theorem d_X12_land_15 : DD prog_14_method_22_code 15 (.aload_n 0) 1 16 := ⟨by decide +kernel, rfl⟩
theorem d_X12_land_16 : DD prog_14_method_22_code 16 (.iconst 0) 1 17 := ⟨by decide +kernel, rfl⟩
theorem d_X12_land_17 : DD prog_14_method_22_code 17 (.putfield 144) 3 20 := ⟨by decide +kernel, rfl⟩
theorem d_X12_land_20 : DD prog_14_method_22_code 20 (.aload_n 0) 1 21 := ⟨by decide +kernel, rfl⟩
theorem d_X12_land_21 : DD prog_14_method_22_code 21 (.iconst 0) 1 22 := ⟨by decide +kernel, rfl⟩
theorem d_X12_land_22 : DD prog_14_method_22_code 22 (.putfield 124) 3 25 := ⟨by decide +kernel, rfl⟩
theorem d_X12_land_25 : DD prog_14_method_22_code 25 (.aload_n 0) 1 26 := ⟨by decide +kernel, rfl⟩
theorem d_X12_land_26 : DD prog_14_method_22_code 26 (.iconst 5) 1 27 := ⟨by decide +kernel, rfl⟩
theorem d_X12_land_27 : DD prog_14_method_22_code 27 (.putfield 134) 3 30 := ⟨by decide +kernel, rfl⟩
theorem d_X12_land_30 : DD prog_14_method_22_code 30 (.aload_n 0) 1 31 := ⟨by decide +kernel, rfl⟩
theorem d_X12_land_31 : DD prog_14_method_22_code 31 (.iconst 0) 1 32 := ⟨by decide +kernel, rfl⟩
theorem d_X12_land_32 : DD prog_14_method_22_code 32 (.putfield 150) 3 35 := ⟨by decide +kernel, rfl⟩
theorem d_X12_land_35 : DD prog_14_method_22_code 35 (.iconst 0) 1 36 := ⟨by decide +kernel, rfl⟩
theorem d_X12_land_36 : DD prog_14_method_22_code 36 (.istore_n 1) 1 37 := ⟨by decide +kernel, rfl⟩
theorem d_X12_land_37 : DD prog_14_method_22_code 37 (.iconst 0) 1 38 := ⟨by decide +kernel, rfl⟩
theorem d_X12_land_38 : DD prog_14_method_22_code 38 (.istore_n 2) 1 39 := ⟨by decide +kernel, rfl⟩
theorem d_X12_land_39 : DD prog_14_method_22_code 39 (.iload_n 2) 1 40 := ⟨by decide +kernel, rfl⟩
theorem d_X12_land_40 : DD prog_14_method_22_code 40 (.sipush 210) 3 43 := ⟨by decide +kernel, rfl⟩
theorem d_X12_land_43 : DJ prog_14_method_22_code 43 (fun o => .if_icmp .ge o) 88 3 46 := ⟨by decide +kernel, rfl⟩
theorem d_X12_land_46 : DD prog_14_method_22_code 46 (.aload_n 0) 1 47 := ⟨by decide +kernel, rfl⟩
theorem d_X12_land_47 : DD prog_14_method_22_code 47 (.getfield 29) 3 50 := ⟨by decide +kernel, rfl⟩
theorem d_X12_land_50 : DD prog_14_method_22_code 50 (.iload_n 2) 1 51 := ⟨by decide +kernel, rfl⟩
theorem d_X12_land_51 : DD prog_14_method_22_code 51 (.iconst 0) 1 52 := ⟨by decide +kernel, rfl⟩
theorem d_X12_land_52 : DD prog_14_method_22_code 52 (.iastore) 1 53 := ⟨by decide +kernel, rfl⟩
theorem d_X12_land_53 : DD prog_14_method_22_code 53 (.aload_n 0) 1 54 := ⟨by decide +kernel, rfl⟩
theorem d_X12_land_54 : DD prog_14_method_22_code 54 (.getfield 32) 3 57 := ⟨by decide +kernel, rfl⟩
theorem d_X12_land_57 : DD prog_14_method_22_code 57 (.iload_n 2) 1 58 := ⟨by decide +kernel, rfl⟩
theorem d_X12_land_58 : DD prog_14_method_22_code 58 (.bipush 12) 2 60 := ⟨by decide +kernel, rfl⟩
theorem d_X12_land_60 : DD prog_14_method_22_code 60 (.irem) 1 61 := ⟨by decide +kernel, rfl⟩
theorem d_X12_land_61 : DD prog_14_method_22_code 61 (.iconst 0) 1 62 := ⟨by decide +kernel, rfl⟩
theorem d_X12_land_62 : DD prog_14_method_22_code 62 (.iastore) 1 63 := ⟨by decide +kernel, rfl⟩
theorem d_X12_land_63 : DD prog_14_method_22_code 63 (.aload_n 0) 1 64 := ⟨by decide +kernel, rfl⟩
theorem d_X12_land_64 : DD prog_14_method_22_code 64 (.getfield 35) 3 67 := ⟨by decide +kernel, rfl⟩
theorem d_X12_land_67 : DD prog_14_method_22_code 67 (.iload_n 2) 1 68 := ⟨by decide +kernel, rfl⟩
theorem d_X12_land_68 : DD prog_14_method_22_code 68 (.iconst 3) 1 69 := ⟨by decide +kernel, rfl⟩
theorem d_X12_land_69 : DD prog_14_method_22_code 69 (.irem) 1 70 := ⟨by decide +kernel, rfl⟩
theorem d_X12_land_70 : DD prog_14_method_22_code 70 (.iload_n 2) 1 71 := ⟨by decide +kernel, rfl⟩
theorem d_X12_land_71 : DD prog_14_method_22_code 71 (.iconst 3) 1 72 := ⟨by decide +kernel, rfl⟩
theorem d_X12_land_72 : DD prog_14_method_22_code 72 (.irem) 1 73 := ⟨by decide +kernel, rfl⟩
theorem d_X12_land_73 : DJ prog_14_method_22_code 73 (fun o => .ifCond .ne o) 80 3 76 := ⟨by decide +kernel, rfl⟩
theorem d_X12_land_76 : DD prog_14_method_22_code 76 (.iconst 1) 1 77 := ⟨by decide +kernel, rfl⟩
theorem d_X12_land_77 : DJ prog_14_method_22_code 77 (fun o => .goto o) 81 3 80 := ⟨by decide +kernel, rfl⟩
theorem d_X12_land_80 : DD prog_14_method_22_code 80 (.iconst 0) 1 81 := ⟨by decide +kernel, rfl⟩
theorem d_X12_land_81 : DD prog_14_method_22_code 81 (.iastore) 1 82 := ⟨by decide +kernel, rfl⟩
theorem d_X12_land_82 : DD prog_14_method_22_code 82 (.iinc 2 1) 3 85 := ⟨by decide +kernel, rfl⟩
theorem d_X12_land_85 : DJ prog_14_method_22_code 85 (fun o => .goto o) 39 3 88 := ⟨by decide +kernel, rfl⟩
theorem d_X12_land_88 : DD prog_14_method_22_code 88 (.aload_n 0) 1 89 := ⟨by decide +kernel, rfl⟩
theorem d_X12_land_89 : DD prog_14_method_22_code 89 (.invokevirtual 117) 3 92 := ⟨by decide +kernel, rfl⟩
theorem d_X12_land_92 : DD prog_14_method_22_code 92 (.aload_n 0) 1 93 := ⟨by decide +kernel, rfl⟩
theorem d_X12_land_93 : DD prog_14_method_22_code 93 (.getfield 79) 3 96 := ⟨by decide +kernel, rfl⟩
theorem d_X12_land_96 : DJ prog_14_method_22_code 96 (fun o => .ifCond .ne o) 116 3 99 := ⟨by decide +kernel, rfl⟩
theorem d_X12_land_99 : DD prog_14_method_22_code 99 (.aload_n 0) 1 100 := ⟨by decide +kernel, rfl⟩
theorem d_X12_land_100 : DD prog_14_method_22_code 100 (.getfield 88) 3 103 := ⟨by decide +kernel, rfl⟩
theorem d_X12_land_103 : DJ prog_14_method_22_code 103 (fun o => .ifCond .eq o) 116 3 106 := ⟨by decide +kernel, rfl⟩
theorem d_X12_land_106 : DD prog_14_method_22_code 106 (.aload_n 0) 1 107 := ⟨by decide +kernel, rfl⟩
theorem d_X12_land_107 : DD prog_14_method_22_code 107 (.invokevirtual 176) 3 110 := ⟨by decide +kernel, rfl⟩
theorem d_X12_land_110 : DD prog_14_method_22_code 110 (.iinc 1 1) 3 113 := ⟨by decide +kernel, rfl⟩
theorem d_X12_land_113 : DJ prog_14_method_22_code 113 (fun o => .goto o) 92 3 116 := ⟨by decide +kernel, rfl⟩
theorem d_X12_land_116 : DD prog_14_method_22_code 116 (.aload_n 0) 1 117 := ⟨by decide +kernel, rfl⟩
theorem d_X12_land_117 : DD prog_14_method_22_code 117 (.getfield 79) 3 120 := ⟨by decide +kernel, rfl⟩
theorem d_X12_land_120 : DJ prog_14_method_22_code 120 (fun o => .ifCond .ne o) 140 3 123 := ⟨by decide +kernel, rfl⟩
theorem d_X12_land_123 : DD prog_14_method_22_code 123 (.aload_n 0) 1 124 := ⟨by decide +kernel, rfl⟩
theorem d_X12_land_124 : DD prog_14_method_22_code 124 (.getfield 124) 3 127 := ⟨by decide +kernel, rfl⟩
theorem d_X12_land_127 : DD prog_14_method_22_code 127 (.aload_n 0) 1 128 := ⟨by decide +kernel, rfl⟩
theorem d_X12_land_128 : DD prog_14_method_22_code 128 (.getfield 134) 3 131 := ⟨by decide +kernel, rfl⟩
theorem d_X12_land_131 : DJ prog_14_method_22_code 131 (fun o => .if_icmp .lt o) 140 3 134 := ⟨by decide +kernel, rfl⟩
theorem d_X12_land_134 : DD prog_14_method_22_code 134 (.aload_n 0) 1 135 := ⟨by decide +kernel, rfl⟩
theorem d_X12_land_135 : DD prog_14_method_22_code 135 (.bipush 6) 2 137 := ⟨by decide +kernel, rfl⟩
theorem d_X12_land_137 : DD prog_14_method_22_code 137 (.invokevirtual 109) 3 140 := ⟨by decide +kernel, rfl⟩
theorem d_X12_land_140 : DD prog_14_method_22_code 140 (.aload_n 0) 1 141 := ⟨by decide +kernel, rfl⟩
theorem d_X12_land_141 : DD prog_14_method_22_code 141 (.iconst 0) 1 142 := ⟨by decide +kernel, rfl⟩
theorem d_X12_land_142 : DD prog_14_method_22_code 142 (.putfield 72) 3 145 := ⟨by decide +kernel, rfl⟩
theorem d_X12_land_145 : DD prog_14_method_22_code 145 (.aload_n 0) 1 146 := ⟨by decide +kernel, rfl⟩
theorem d_X12_land_146 : DD prog_14_method_22_code 146 (.aload_n 0) 1 147 := ⟨by decide +kernel, rfl⟩
theorem d_X12_land_147 : DD prog_14_method_22_code 147 (.getfield 79) 3 150 := ⟨by decide +kernel, rfl⟩
theorem d_X12_land_150 : DD prog_14_method_22_code 150 (.putfield 179) 3 153 := ⟨by decide +kernel, rfl⟩
theorem d_X12_land_153 : DD prog_14_method_22_code 153 (.aload_n 0) 1 154 := ⟨by decide +kernel, rfl⟩
theorem d_X12_land_154 : DD prog_14_method_22_code 154 (.getfield 79) 3 157 := ⟨by decide +kernel, rfl⟩
theorem d_X12_land_157 : DJ prog_14_method_22_code 157 (fun o => .ifCond .le o) 168 3 160 := ⟨by decide +kernel, rfl⟩
theorem d_X12_land_160 : DD prog_14_method_22_code 160 (.bipush (-10)) 2 162 := ⟨by decide +kernel, rfl⟩
theorem d_X12_land_162 : DD prog_14_method_22_code 162 (.aload_n 0) 1 163 := ⟨by decide +kernel, rfl⟩
theorem d_X12_land_163 : DD prog_14_method_22_code 163 (.getfield 85) 3 166 := ⟨by decide +kernel, rfl⟩
theorem d_X12_land_166 : DD prog_14_method_22_code 166 (.isub) 1 167 := ⟨by decide +kernel, rfl⟩
theorem d_X12_land_167 : DD prog_14_method_22_code 167 (.ireturn) 1 168 := ⟨by decide +kernel, rfl⟩
theorem d_X12_land_168 : DD prog_14_method_22_code 168 (.aload_n 0) 1 169 := ⟨by decide +kernel, rfl⟩
theorem d_X12_land_169 : DD prog_14_method_22_code 169 (.invokevirtual 182) 3 172 := ⟨by decide +kernel, rfl⟩
theorem d_X12_land_172 : DD prog_14_method_22_code 172 (.aload_n 0) 1 173 := ⟨by decide +kernel, rfl⟩
theorem d_X12_land_173 : DD prog_14_method_22_code 173 (.iconst 3) 1 174 := ⟨by decide +kernel, rfl⟩
theorem d_X12_land_174 : DD prog_14_method_22_code 174 (.putfield 26) 3 177 := ⟨by decide +kernel, rfl⟩
theorem d_X12_land_177 : DD prog_14_method_22_code 177 (.iload_n 1) 1 178 := ⟨by decide +kernel, rfl⟩
theorem d_X12_land_178 : DD prog_14_method_22_code 178 (.ireturn) 1 179 := ⟨by decide +kernel, rfl⟩
theorem d_X12_fault_0 : DD prog_14_method_23_code 0 (.aload_n 0) 1 1 := ⟨by decide +kernel, rfl⟩
theorem d_X12_fault_1 : DD prog_14_method_23_code 1 (.getfield 179) 3 4 := ⟨by decide +kernel, rfl⟩
theorem d_X12_fault_4 : DD prog_14_method_23_code 4 (.ireturn) 1 5 := ⟨by decide +kernel, rfl⟩
theorem d_X12_hourNow_0 : DD prog_14_method_24_code 0 (.aload_n 0) 1 1 := ⟨by decide +kernel, rfl⟩
theorem d_X12_hourNow_1 : DD prog_14_method_24_code 1 (.getfield 7) 3 4 := ⟨by decide +kernel, rfl⟩
theorem d_X12_hourNow_4 : DD prog_14_method_24_code 4 (.sipush 170) 3 7 := ⟨by decide +kernel, rfl⟩
theorem d_X12_hourNow_7 : DD prog_14_method_24_code 7 (.iaload) 1 8 := ⟨by decide +kernel, rfl⟩
theorem d_X12_hourNow_8 : DD prog_14_method_24_code 8 (.ireturn) 1 9 := ⟨by decide +kernel, rfl⟩
theorem d_X12_rule_0 : DD prog_14_method_25_code 0 (.iload_n 1) 1 1 := ⟨by decide +kernel, rfl⟩
theorem d_X12_rule_1 : DJ prog_14_method_25_code 1 (fun o => .ifCond .ne o) 11 3 4 := ⟨by decide +kernel, rfl⟩
theorem d_X12_rule_4 : DD prog_14_method_25_code 4 (.aload_n 0) 1 5 := ⟨by decide +kernel, rfl⟩
theorem d_X12_rule_5 : DD prog_14_method_25_code 5 (.getfield 13) 3 8 := ⟨by decide +kernel, rfl⟩
theorem d_X12_rule_8 : DJ prog_14_method_25_code 8 (fun o => .goto o) 61 3 11 := ⟨by decide +kernel, rfl⟩
theorem d_X12_rule_11 : DD prog_14_method_25_code 11 (.iload_n 1) 1 12 := ⟨by decide +kernel, rfl⟩
theorem d_X12_rule_12 : DD prog_14_method_25_code 12 (.iconst 1) 1 13 := ⟨by decide +kernel, rfl⟩
theorem d_X12_rule_13 : DJ prog_14_method_25_code 13 (fun o => .if_icmp .ne o) 23 3 16 := ⟨by decide +kernel, rfl⟩
theorem d_X12_rule_16 : DD prog_14_method_25_code 16 (.aload_n 0) 1 17 := ⟨by decide +kernel, rfl⟩
theorem d_X12_rule_17 : DD prog_14_method_25_code 17 (.invokevirtual 185) 3 20 := ⟨by decide +kernel, rfl⟩
theorem d_X12_rule_20 : DJ prog_14_method_25_code 20 (fun o => .goto o) 61 3 23 := ⟨by decide +kernel, rfl⟩
theorem d_X12_rule_23 : DD prog_14_method_25_code 23 (.iload_n 1) 1 24 := ⟨by decide +kernel, rfl⟩
theorem d_X12_rule_24 : DD prog_14_method_25_code 24 (.i2l) 1 25 := ⟨by decide +kernel, rfl⟩
theorem d_X12_rule_25 : DD prog_14_method_25_code 25 (.ldc2_w 188) 3 28 := ⟨by decide +kernel, rfl⟩
theorem d_X12_rule_28 : DD prog_14_method_25_code 28 (.ldc2_w 190) 3 31 := ⟨by decide +kernel, rfl⟩
theorem d_X12_rule_31 : DD prog_14_method_25_code 31 (.invokestatic 75) 3 34 := ⟨by decide +kernel, rfl⟩
theorem d_X12_rule_34 : DJ prog_14_method_25_code 34 (fun o => .ifCond .eq o) 48 3 37 := ⟨by decide +kernel, rfl⟩
theorem d_X12_rule_37 : DD prog_14_method_25_code 37 (.aload_n 0) 1 38 := ⟨by decide +kernel, rfl⟩
theorem d_X12_rule_38 : DD prog_14_method_25_code 38 (.getfield 20) 3 41 := ⟨by decide +kernel, rfl⟩
theorem d_X12_rule_41 : DD prog_14_method_25_code 41 (.iload_n 1) 1 42 := ⟨by decide +kernel, rfl⟩
theorem d_X12_rule_42 : DD prog_14_method_25_code 42 (.iconst 2) 1 43 := ⟨by decide +kernel, rfl⟩
theorem d_X12_rule_43 : DD prog_14_method_25_code 43 (.isub) 1 44 := ⟨by decide +kernel, rfl⟩
theorem d_X12_rule_44 : DD prog_14_method_25_code 44 (.iaload) 1 45 := ⟨by decide +kernel, rfl⟩
theorem d_X12_rule_45 : DJ prog_14_method_25_code 45 (fun o => .goto o) 61 3 48 := ⟨by decide +kernel, rfl⟩
theorem d_X12_rule_48 : DD prog_14_method_25_code 48 (.iload_n 1) 1 49 := ⟨by decide +kernel, rfl⟩
theorem d_X12_rule_49 : DD prog_14_method_25_code 49 (.iconst 5) 1 50 := ⟨by decide +kernel, rfl⟩
theorem d_X12_rule_50 : DJ prog_14_method_25_code 50 (fun o => .if_icmp .ne o) 60 3 53 := ⟨by decide +kernel, rfl⟩
theorem d_X12_rule_53 : DD prog_14_method_25_code 53 (.aload_n 0) 1 54 := ⟨by decide +kernel, rfl⟩
theorem d_X12_rule_54 : DD prog_14_method_25_code 54 (.getfield 26) 3 57 := ⟨by decide +kernel, rfl⟩
theorem d_X12_rule_57 : DJ prog_14_method_25_code 57 (fun o => .goto o) 61 3 60 := ⟨by decide +kernel, rfl⟩
theorem d_X12_rule_60 : DD prog_14_method_25_code 60 (.iconst (-1)) 1 61 := ⟨by decide +kernel, rfl⟩
theorem d_X12_rule_61 : DD prog_14_method_25_code 61 (.ireturn) 1 62 := ⟨by decide +kernel, rfl⟩
theorem d_X12_isHour_0 : DD prog_14_method_26_code 0 (.iload_n 0) 1 1 := ⟨by decide +kernel, rfl⟩
theorem d_X12_isHour_1 : DD prog_14_method_26_code 1 (.i2l) 1 2 := ⟨by decide +kernel, rfl⟩
theorem d_X12_isHour_2 : DD prog_14_method_26_code 2 (.lconst 0) 1 3 := ⟨by decide +kernel, rfl⟩
theorem d_X12_isHour_3 : DD prog_14_method_26_code 3 (.ldc2_w 192) 3 6 := ⟨by decide +kernel, rfl⟩
theorem d_X12_isHour_6 : DD prog_14_method_26_code 6 (.invokestatic 75) 3 9 := ⟨by decide +kernel, rfl⟩
theorem d_X12_isHour_9 : DD prog_14_method_26_code 9 (.ireturn) 1 10 := ⟨by decide +kernel, rfl⟩
theorem d_X12_isFurlong_0 : DD prog_14_method_27_code 0 (.iload_n 1) 1 1 := ⟨by decide +kernel, rfl⟩
theorem d_X12_isFurlong_1 : DD prog_14_method_27_code 1 (.i2l) 1 2 := ⟨by decide +kernel, rfl⟩
theorem d_X12_isFurlong_2 : DD prog_14_method_27_code 2 (.lconst 0) 1 3 := ⟨by decide +kernel, rfl⟩
theorem d_X12_isFurlong_3 : DD prog_14_method_27_code 3 (.aload_n 0) 1 4 := ⟨by decide +kernel, rfl⟩
theorem d_X12_isFurlong_4 : DD prog_14_method_27_code 4 (.getfield 13) 3 7 := ⟨by decide +kernel, rfl⟩
theorem d_X12_isFurlong_7 : DD prog_14_method_27_code 7 (.iconst 1) 1 8 := ⟨by decide +kernel, rfl⟩
theorem d_X12_isFurlong_8 : DD prog_14_method_27_code 8 (.isub) 1 9 := ⟨by decide +kernel, rfl⟩
theorem d_X12_isFurlong_9 : DD prog_14_method_27_code 9 (.i2l) 1 10 := ⟨by decide +kernel, rfl⟩
theorem d_X12_isFurlong_10 : DD prog_14_method_27_code 10 (.invokestatic 75) 3 13 := ⟨by decide +kernel, rfl⟩
theorem d_X12_isFurlong_13 : DD prog_14_method_27_code 13 (.ireturn) 1 14 := ⟨by decide +kernel, rfl⟩
theorem d_X12_isSide_0 : DD prog_14_method_28_code 0 (.iload_n 0) 1 1 := ⟨by decide +kernel, rfl⟩
theorem d_X12_isSide_1 : DD prog_14_method_28_code 1 (.i2l) 1 2 := ⟨by decide +kernel, rfl⟩
theorem d_X12_isSide_2 : DD prog_14_method_28_code 2 (.lconst 0) 1 3 := ⟨by decide +kernel, rfl⟩
theorem d_X12_isSide_3 : DD prog_14_method_28_code 3 (.lconst 1) 1 4 := ⟨by decide +kernel, rfl⟩
theorem d_X12_isSide_4 : DD prog_14_method_28_code 4 (.invokestatic 75) 3 7 := ⟨by decide +kernel, rfl⟩
theorem d_X12_isSide_7 : DD prog_14_method_28_code 7 (.ireturn) 1 8 := ⟨by decide +kernel, rfl⟩
theorem d_X12_hour_0 : DD prog_14_method_29_code 0 (.iload_n 1) 1 1 := ⟨by decide +kernel, rfl⟩
theorem d_X12_hour_1 : DD prog_14_method_29_code 1 (.invokestatic 194) 3 4 := ⟨by decide +kernel, rfl⟩
theorem d_X12_hour_4 : DJ prog_14_method_29_code 4 (fun o => .ifCond .eq o) 43 3 7 := ⟨by decide +kernel, rfl⟩
theorem d_X12_hour_7 : DD prog_14_method_29_code 7 (.iload_n 2) 1 8 := ⟨by decide +kernel, rfl⟩
theorem d_X12_hour_8 : DD prog_14_method_29_code 8 (.i2l) 1 9 := ⟨by decide +kernel, rfl⟩
theorem d_X12_hour_9 : DD prog_14_method_29_code 9 (.lconst 0) 1 10 := ⟨by decide +kernel, rfl⟩
theorem d_X12_hour_10 : DD prog_14_method_29_code 10 (.lconst 1) 1 11 := ⟨by decide +kernel, rfl⟩
theorem d_X12_hour_11 : DD prog_14_method_29_code 11 (.invokestatic 75) 3 14 := ⟨by decide +kernel, rfl⟩
theorem d_X12_hour_14 : DJ prog_14_method_29_code 14 (fun o => .ifCond .eq o) 43 3 17 := ⟨by decide +kernel, rfl⟩
theorem d_X12_hour_17 : DD prog_14_method_29_code 17 (.iload_n 2) 1 18 := ⟨by decide +kernel, rfl⟩
theorem d_X12_hour_18 : DJ prog_14_method_29_code 18 (fun o => .ifCond .ne o) 34 3 21 := ⟨by decide +kernel, rfl⟩
theorem d_X12_hour_21 : DD prog_14_method_29_code 21 (.aload_n 0) 1 22 := ⟨by decide +kernel, rfl⟩
theorem d_X12_hour_22 : DD prog_14_method_29_code 22 (.getfield 7) 3 25 := ⟨by decide +kernel, rfl⟩
theorem d_X12_hour_25 : DD prog_14_method_29_code 25 (.sipush 171) 3 28 := ⟨by decide +kernel, rfl⟩
theorem d_X12_hour_28 : DD prog_14_method_29_code 28 (.iload_n 1) 1 29 := ⟨by decide +kernel, rfl⟩
theorem d_X12_hour_29 : DD prog_14_method_29_code 29 (.iadd) 1 30 := ⟨by decide +kernel, rfl⟩
theorem d_X12_hour_30 : DD prog_14_method_29_code 30 (.iaload) 1 31 := ⟨by decide +kernel, rfl⟩
theorem d_X12_hour_31 : DJ prog_14_method_29_code 31 (fun o => .goto o) 44 3 34 := ⟨by decide +kernel, rfl⟩
theorem d_X12_hour_34 : DD prog_14_method_29_code 34 (.aload_n 0) 1 35 := ⟨by decide +kernel, rfl⟩
theorem d_X12_hour_35 : DD prog_14_method_29_code 35 (.getfield 17) 3 38 := ⟨by decide +kernel, rfl⟩
theorem d_X12_hour_38 : DD prog_14_method_29_code 38 (.iload_n 1) 1 39 := ⟨by decide +kernel, rfl⟩
theorem d_X12_hour_39 : DD prog_14_method_29_code 39 (.iaload) 1 40 := ⟨by decide +kernel, rfl⟩
theorem d_X12_hour_40 : DJ prog_14_method_29_code 40 (fun o => .goto o) 44 3 43 := ⟨by decide +kernel, rfl⟩
theorem d_X12_hour_43 : DD prog_14_method_29_code 43 (.iconst (-1)) 1 44 := ⟨by decide +kernel, rfl⟩
theorem d_X12_hour_44 : DD prog_14_method_29_code 44 (.ireturn) 1 45 := ⟨by decide +kernel, rfl⟩
theorem d_X12_manAt_0 : DD prog_14_method_30_code 0 (.bipush 7) 2 2 := ⟨by decide +kernel, rfl⟩
theorem d_X12_manAt_2 : DD prog_14_method_30_code 2 (.bipush 10) 2 4 := ⟨by decide +kernel, rfl⟩
theorem d_X12_manAt_4 : DD prog_14_method_30_code 4 (.iload_n 0) 1 5 := ⟨by decide +kernel, rfl⟩
theorem d_X12_manAt_5 : DD prog_14_method_30_code 5 (.imul) 1 6 := ⟨by decide +kernel, rfl⟩
theorem d_X12_manAt_6 : DD prog_14_method_30_code 6 (.iload_n 1) 1 7 := ⟨by decide +kernel, rfl⟩
theorem d_X12_manAt_7 : DD prog_14_method_30_code 7 (.iadd) 1 8 := ⟨by decide +kernel, rfl⟩
theorem d_X12_manAt_8 : DD prog_14_method_30_code 8 (.imul) 1 9 := ⟨by decide +kernel, rfl⟩
theorem d_X12_manAt_9 : DD prog_14_method_30_code 9 (.ireturn) 1 10 := ⟨by decide +kernel, rfl⟩
theorem d_X12_isThere_0 : DD prog_14_method_31_code 0 (.aload_n 0) 1 1 := ⟨by decide +kernel, rfl⟩
theorem d_X12_isThere_1 : DD prog_14_method_31_code 1 (.getfield 7) 3 4 := ⟨by decide +kernel, rfl⟩
theorem d_X12_isThere_4 : DD prog_14_method_31_code 4 (.iload_n 1) 1 5 := ⟨by decide +kernel, rfl⟩
theorem d_X12_isThere_5 : DD prog_14_method_31_code 5 (.iload_n 2) 1 6 := ⟨by decide +kernel, rfl⟩
theorem d_X12_isThere_6 : DD prog_14_method_31_code 6 (.iload_n 3) 1 7 := ⟨by decide +kernel, rfl⟩
theorem d_X12_isThere_7 : DD prog_14_method_31_code 7 (.invokestatic 198) 3 10 := ⟨by decide +kernel, rfl⟩
theorem d_X12_isThere_10 : DD prog_14_method_31_code 10 (.iadd) 1 11 := ⟨by decide +kernel, rfl⟩
theorem d_X12_isThere_11 : DD prog_14_method_31_code 11 (.iaload) 1 12 := ⟨by decide +kernel, rfl⟩
theorem d_X12_isThere_12 : DD prog_14_method_31_code 12 (.iconst 1) 1 13 := ⟨by decide +kernel, rfl⟩
theorem d_X12_isThere_13 : DJ prog_14_method_31_code 13 (fun o => .if_icmp .ne o) 20 3 16 := ⟨by decide +kernel, rfl⟩
theorem d_X12_isThere_16 : DD prog_14_method_31_code 16 (.iconst 1) 1 17 := ⟨by decide +kernel, rfl⟩
theorem d_X12_isThere_17 : DJ prog_14_method_31_code 17 (fun o => .goto o) 21 3 20 := ⟨by decide +kernel, rfl⟩
theorem d_X12_isThere_20 : DD prog_14_method_31_code 20 (.iconst 0) 1 21 := ⟨by decide +kernel, rfl⟩
theorem d_X12_isThere_21 : DD prog_14_method_31_code 21 (.ireturn) 1 22 := ⟨by decide +kernel, rfl⟩
theorem d_X12_counts_0 : DD prog_14_method_32_code 0 (.iload_n 1) 1 1 := ⟨by decide +kernel, rfl⟩
theorem d_X12_counts_1 : DD prog_14_method_32_code 1 (.iload_n 2) 1 2 := ⟨by decide +kernel, rfl⟩
theorem d_X12_counts_2 : DD prog_14_method_32_code 2 (.iload_n 3) 1 3 := ⟨by decide +kernel, rfl⟩
theorem d_X12_counts_3 : DD prog_14_method_32_code 3 (.invokestatic 198) 3 6 := ⟨by decide +kernel, rfl⟩
theorem d_X12_counts_6 : DD prog_14_method_32_code 6 (.iadd) 1 7 := ⟨by decide +kernel, rfl⟩
theorem d_X12_counts_7 : DD prog_14_method_32_code 7 (.istore 4) 2 9 := ⟨by decide +kernel, rfl⟩
theorem d_X12_counts_9 : DD prog_14_method_32_code 9 (.aload_n 0) 1 10 := ⟨by decide +kernel, rfl⟩
theorem d_X12_counts_10 : DD prog_14_method_32_code 10 (.getfield 7) 3 13 := ⟨by decide +kernel, rfl⟩
theorem d_X12_counts_13 : DD prog_14_method_32_code 13 (.iload 4) 2 15 := ⟨by decide +kernel, rfl⟩
theorem d_X12_counts_15 : DD prog_14_method_32_code 15 (.iaload) 1 16 := ⟨by decide +kernel, rfl⟩
theorem d_X12_counts_16 : DD prog_14_method_32_code 16 (.iconst 1) 1 17 := ⟨by decide +kernel, rfl⟩
theorem d_X12_counts_17 : DJ prog_14_method_32_code 17 (fun o => .if_icmp .ne o) 82 3 20 := ⟨by decide +kernel, rfl⟩
theorem d_X12_counts_20 : DD prog_14_method_32_code 20 (.aload_n 0) 1 21 := ⟨by decide +kernel, rfl⟩
theorem d_X12_counts_21 : DD prog_14_method_32_code 21 (.getfield 7) 3 24 := ⟨by decide +kernel, rfl⟩
theorem d_X12_counts_24 : DD prog_14_method_32_code 24 (.iload 4) 2 26 := ⟨by decide +kernel, rfl⟩
theorem d_X12_counts_26 : DD prog_14_method_32_code 26 (.iconst 4) 1 27 := ⟨by decide +kernel, rfl⟩
theorem d_X12_counts_27 : DD prog_14_method_32_code 27 (.iadd) 1 28 := ⟨by decide +kernel, rfl⟩
theorem d_X12_counts_28 : DD prog_14_method_32_code 28 (.iaload) 1 29 := ⟨by decide +kernel, rfl⟩
theorem d_X12_counts_29 : DD prog_14_method_32_code 29 (.aload_n 0) 1 30 := ⟨by decide +kernel, rfl⟩
theorem d_X12_counts_30 : DD prog_14_method_32_code 30 (.getfield 20) 3 33 := ⟨by decide +kernel, rfl⟩
theorem d_X12_counts_33 : DD prog_14_method_32_code 33 (.iconst 0) 1 34 := ⟨by decide +kernel, rfl⟩
theorem d_X12_counts_34 : DD prog_14_method_32_code 34 (.iaload) 1 35 := ⟨by decide +kernel, rfl⟩
theorem d_X12_counts_35 : DJ prog_14_method_32_code 35 (fun o => .if_icmp .lt o) 82 3 38 := ⟨by decide +kernel, rfl⟩
theorem d_X12_counts_38 : DD prog_14_method_32_code 38 (.aload_n 0) 1 39 := ⟨by decide +kernel, rfl⟩
theorem d_X12_counts_39 : DD prog_14_method_32_code 39 (.getfield 7) 3 42 := ⟨by decide +kernel, rfl⟩
theorem d_X12_counts_42 : DD prog_14_method_32_code 42 (.iload 4) 2 44 := ⟨by decide +kernel, rfl⟩
theorem d_X12_counts_44 : DD prog_14_method_32_code 44 (.iconst 5) 1 45 := ⟨by decide +kernel, rfl⟩
theorem d_X12_counts_45 : DD prog_14_method_32_code 45 (.iadd) 1 46 := ⟨by decide +kernel, rfl⟩
theorem d_X12_counts_46 : DD prog_14_method_32_code 46 (.iaload) 1 47 := ⟨by decide +kernel, rfl⟩
theorem d_X12_counts_47 : DD prog_14_method_32_code 47 (.aload_n 0) 1 48 := ⟨by decide +kernel, rfl⟩
theorem d_X12_counts_48 : DD prog_14_method_32_code 48 (.getfield 20) 3 51 := ⟨by decide +kernel, rfl⟩
theorem d_X12_counts_51 : DD prog_14_method_32_code 51 (.iconst 1) 1 52 := ⟨by decide +kernel, rfl⟩
theorem d_X12_counts_52 : DD prog_14_method_32_code 52 (.iaload) 1 53 := ⟨by decide +kernel, rfl⟩
theorem d_X12_counts_53 : DJ prog_14_method_32_code 53 (fun o => .if_icmp .lt o) 82 3 56 := ⟨by decide +kernel, rfl⟩
theorem d_X12_counts_56 : DD prog_14_method_32_code 56 (.aload_n 0) 1 57 := ⟨by decide +kernel, rfl⟩
theorem d_X12_counts_57 : DD prog_14_method_32_code 57 (.getfield 20) 3 60 := ⟨by decide +kernel, rfl⟩
theorem d_X12_counts_60 : DD prog_14_method_32_code 60 (.iconst 2) 1 61 := ⟨by decide +kernel, rfl⟩
theorem d_X12_counts_61 : DD prog_14_method_32_code 61 (.iaload) 1 62 := ⟨by decide +kernel, rfl⟩
theorem d_X12_counts_62 : DJ prog_14_method_32_code 62 (fun o => .ifCond .eq o) 78 3 65 := ⟨by decide +kernel, rfl⟩
theorem d_X12_counts_65 : DD prog_14_method_32_code 65 (.aload_n 0) 1 66 := ⟨by decide +kernel, rfl⟩
theorem d_X12_counts_66 : DD prog_14_method_32_code 66 (.getfield 7) 3 69 := ⟨by decide +kernel, rfl⟩
theorem d_X12_counts_69 : DD prog_14_method_32_code 69 (.iload 4) 2 71 := ⟨by decide +kernel, rfl⟩
theorem d_X12_counts_71 : DD prog_14_method_32_code 71 (.bipush 6) 2 73 := ⟨by decide +kernel, rfl⟩
theorem d_X12_counts_73 : DD prog_14_method_32_code 73 (.iadd) 1 74 := ⟨by decide +kernel, rfl⟩
theorem d_X12_counts_74 : DD prog_14_method_32_code 74 (.iaload) 1 75 := ⟨by decide +kernel, rfl⟩
theorem d_X12_counts_75 : DJ prog_14_method_32_code 75 (fun o => .ifCond .ne o) 82 3 78 := ⟨by decide +kernel, rfl⟩
theorem d_X12_counts_78 : DD prog_14_method_32_code 78 (.iconst 1) 1 79 := ⟨by decide +kernel, rfl⟩
theorem d_X12_counts_79 : DJ prog_14_method_32_code 79 (fun o => .goto o) 83 3 82 := ⟨by decide +kernel, rfl⟩
theorem d_X12_counts_82 : DD prog_14_method_32_code 82 (.iconst 0) 1 83 := ⟨by decide +kernel, rfl⟩
theorem d_X12_counts_83 : DD prog_14_method_32_code 83 (.ireturn) 1 84 := ⟨by decide +kernel, rfl⟩
theorem d_X12_furlong_0 : DD prog_14_method_33_code 0 (.aload_n 0) 1 1 := ⟨by decide +kernel, rfl⟩
theorem d_X12_furlong_1 : DD prog_14_method_33_code 1 (.iload_n 1) 1 2 := ⟨by decide +kernel, rfl⟩
theorem d_X12_furlong_2 : DD prog_14_method_33_code 2 (.invokevirtual 201) 3 5 := ⟨by decide +kernel, rfl⟩
theorem d_X12_furlong_5 : DJ prog_14_method_33_code 5 (fun o => .ifCond .eq o) 20 3 8 := ⟨by decide +kernel, rfl⟩
theorem d_X12_furlong_8 : DD prog_14_method_33_code 8 (.iload_n 2) 1 9 := ⟨by decide +kernel, rfl⟩
theorem d_X12_furlong_9 : DD prog_14_method_33_code 9 (.i2l) 1 10 := ⟨by decide +kernel, rfl⟩
theorem d_X12_furlong_10 : DD prog_14_method_33_code 10 (.lconst 0) 1 11 := ⟨by decide +kernel, rfl⟩
theorem d_X12_furlong_11 : DD prog_14_method_33_code 11 (.ldc2_w 204) 3 14 := ⟨by decide +kernel, rfl⟩
theorem d_X12_furlong_14 : DD prog_14_method_33_code 14 (.invokestatic 75) 3 17 := ⟨by decide +kernel, rfl⟩
theorem d_X12_furlong_17 : DJ prog_14_method_33_code 17 (fun o => .ifCond .ne o) 22 3 20 := ⟨by decide +kernel, rfl⟩
theorem d_X12_furlong_20 : DD prog_14_method_33_code 20 (.iconst (-1)) 1 21 := ⟨by decide +kernel, rfl⟩
theorem d_X12_furlong_21 : DD prog_14_method_33_code 21 (.ireturn) 1 22 := ⟨by decide +kernel, rfl⟩
theorem d_X12_furlong_22 : DD prog_14_method_33_code 22 (.aload_n 0) 1 23 := ⟨by decide +kernel, rfl⟩
theorem d_X12_furlong_23 : DD prog_14_method_33_code 23 (.iconst 0) 1 24 := ⟨by decide +kernel, rfl⟩
theorem d_X12_furlong_24 : DD prog_14_method_33_code 24 (.iconst 0) 1 25 := ⟨by decide +kernel, rfl⟩
theorem d_X12_furlong_25 : DD prog_14_method_33_code 25 (.iload_n 1) 1 26 := ⟨by decide +kernel, rfl⟩
theorem d_X12_furlong_26 : DD prog_14_method_33_code 26 (.invokevirtual 206) 3 29 := ⟨by decide +kernel, rfl⟩
theorem d_X12_furlong_29 : DJ prog_14_method_33_code 29 (fun o => .ifCond .eq o) 36 3 32 := ⟨by decide +kernel, rfl⟩
theorem d_X12_furlong_32 : DD prog_14_method_33_code 32 (.iconst 1) 1 33 := ⟨by decide +kernel, rfl⟩
theorem d_X12_furlong_33 : DJ prog_14_method_33_code 33 (fun o => .goto o) 37 3 36 := ⟨by decide +kernel, rfl⟩
theorem d_X12_furlong_36 : DD prog_14_method_33_code 36 (.iconst 0) 1 37 := ⟨by decide +kernel, rfl⟩
theorem d_X12_furlong_37 : DD prog_14_method_33_code 37 (.aload_n 0) 1 38 := ⟨by decide +kernel, rfl⟩
theorem d_X12_furlong_38 : DD prog_14_method_33_code 38 (.iconst 0) 1 39 := ⟨by decide +kernel, rfl⟩
theorem d_X12_furlong_39 : DD prog_14_method_33_code 39 (.iconst 1) 1 40 := ⟨by decide +kernel, rfl⟩
theorem d_X12_furlong_40 : DD prog_14_method_33_code 40 (.iload_n 1) 1 41 := ⟨by decide +kernel, rfl⟩
theorem d_X12_furlong_41 : DD prog_14_method_33_code 41 (.invokevirtual 206) 3 44 := ⟨by decide +kernel, rfl⟩
theorem d_X12_furlong_44 : DJ prog_14_method_33_code 44 (fun o => .ifCond .eq o) 51 3 47 := ⟨by decide +kernel, rfl⟩
theorem d_X12_furlong_47 : DD prog_14_method_33_code 47 (.iconst 2) 1 48 := ⟨by decide +kernel, rfl⟩
theorem d_X12_furlong_48 : DJ prog_14_method_33_code 48 (fun o => .goto o) 52 3 51 := ⟨by decide +kernel, rfl⟩
theorem d_X12_furlong_51 : DD prog_14_method_33_code 51 (.iconst 0) 1 52 := ⟨by decide +kernel, rfl⟩
theorem d_X12_furlong_52 : DD prog_14_method_33_code 52 (.iadd) 1 53 := ⟨by decide +kernel, rfl⟩
theorem d_X12_furlong_53 : DD prog_14_method_33_code 53 (.istore_n 3) 1 54 := ⟨by decide +kernel, rfl⟩
theorem d_X12_furlong_54 : DD prog_14_method_33_code 54 (.iload_n 2) 1 55 := ⟨by decide +kernel, rfl⟩
theorem d_X12_furlong_55 : DJ prog_14_method_33_code 55 (fun o => .ifCond .ne o) 71 3 58 := ⟨by decide +kernel, rfl⟩
theorem d_X12_furlong_58 : DD prog_14_method_33_code 58 (.aload_n 0) 1 59 := ⟨by decide +kernel, rfl⟩
theorem d_X12_furlong_59 : DD prog_14_method_33_code 59 (.getfield 7) 3 62 := ⟨by decide +kernel, rfl⟩
theorem d_X12_furlong_62 : DD prog_14_method_33_code 62 (.sipush 140) 3 65 := ⟨by decide +kernel, rfl⟩
theorem d_X12_furlong_65 : DD prog_14_method_33_code 65 (.iload_n 1) 1 66 := ⟨by decide +kernel, rfl⟩
theorem d_X12_furlong_66 : DD prog_14_method_33_code 66 (.iadd) 1 67 := ⟨by decide +kernel, rfl⟩
theorem d_X12_furlong_67 : DD prog_14_method_33_code 67 (.iaload) 1 68 := ⟨by decide +kernel, rfl⟩
theorem d_X12_furlong_68 : DJ prog_14_method_33_code 68 (fun o => .goto o) 111 3 71 := ⟨by decide +kernel, rfl⟩
theorem d_X12_furlong_71 : DD prog_14_method_33_code 71 (.iload_n 2) 1 72 := ⟨by decide +kernel, rfl⟩
theorem d_X12_furlong_72 : DD prog_14_method_33_code 72 (.iconst 1) 1 73 := ⟨by decide +kernel, rfl⟩
theorem d_X12_furlong_73 : DJ prog_14_method_33_code 73 (fun o => .if_icmp .ne o) 89 3 76 := ⟨by decide +kernel, rfl⟩
theorem d_X12_furlong_76 : DD prog_14_method_33_code 76 (.aload_n 0) 1 77 := ⟨by decide +kernel, rfl⟩
theorem d_X12_furlong_77 : DD prog_14_method_33_code 77 (.getfield 7) 3 80 := ⟨by decide +kernel, rfl⟩
theorem d_X12_furlong_80 : DD prog_14_method_33_code 80 (.sipush 150) 3 83 := ⟨by decide +kernel, rfl⟩
theorem d_X12_furlong_83 : DD prog_14_method_33_code 83 (.iload_n 1) 1 84 := ⟨by decide +kernel, rfl⟩
theorem d_X12_furlong_84 : DD prog_14_method_33_code 84 (.iadd) 1 85 := ⟨by decide +kernel, rfl⟩
theorem d_X12_furlong_85 : DD prog_14_method_33_code 85 (.iaload) 1 86 := ⟨by decide +kernel, rfl⟩
theorem d_X12_furlong_86 : DJ prog_14_method_33_code 86 (fun o => .goto o) 111 3 89 := ⟨by decide +kernel, rfl⟩
theorem d_X12_furlong_89 : DD prog_14_method_33_code 89 (.iload_n 2) 1 90 := ⟨by decide +kernel, rfl⟩
theorem d_X12_furlong_90 : DD prog_14_method_33_code 90 (.iconst 2) 1 91 := ⟨by decide +kernel, rfl⟩
theorem d_X12_furlong_91 : DJ prog_14_method_33_code 91 (fun o => .if_icmp .ne o) 110 3 94 := ⟨by decide +kernel, rfl⟩
theorem d_X12_furlong_94 : DD prog_14_method_33_code 94 (.bipush 100) 2 96 := ⟨by decide +kernel, rfl⟩
theorem d_X12_furlong_96 : DD prog_14_method_33_code 96 (.aload_n 0) 1 97 := ⟨by decide +kernel, rfl⟩
theorem d_X12_furlong_97 : DD prog_14_method_33_code 97 (.getfield 7) 3 100 := ⟨by decide +kernel, rfl⟩
theorem d_X12_furlong_100 : DD prog_14_method_33_code 100 (.sipush 160) 3 103 := ⟨by decide +kernel, rfl⟩
theorem d_X12_furlong_103 : DD prog_14_method_33_code 103 (.iload_n 1) 1 104 := ⟨by decide +kernel, rfl⟩
theorem d_X12_furlong_104 : DD prog_14_method_33_code 104 (.iadd) 1 105 := ⟨by decide +kernel, rfl⟩
theorem d_X12_furlong_105 : DD prog_14_method_33_code 105 (.iaload) 1 106 := ⟨by decide +kernel, rfl⟩
theorem d_X12_furlong_106 : DD prog_14_method_33_code 106 (.iadd) 1 107 := ⟨by decide +kernel, rfl⟩
theorem d_X12_furlong_107 : DJ prog_14_method_33_code 107 (fun o => .goto o) 111 3 110 := ⟨by decide +kernel, rfl⟩
theorem d_X12_furlong_110 : DD prog_14_method_33_code 110 (.iload_n 3) 1 111 := ⟨by decide +kernel, rfl⟩
theorem d_X12_furlong_111 : DD prog_14_method_33_code 111 (.ireturn) 1 112 := ⟨by decide +kernel, rfl⟩
theorem d_X12_man_0 : DD prog_14_method_34_code 0 (.iload_n 1) 1 1 := ⟨by decide +kernel, rfl⟩
theorem d_X12_man_1 : DD prog_14_method_34_code 1 (.invokestatic 210) 3 4 := ⟨by decide +kernel, rfl⟩
theorem d_X12_man_4 : DJ prog_14_method_34_code 4 (fun o => .ifCond .eq o) 27 3 7 := ⟨by decide +kernel, rfl⟩
theorem d_X12_man_7 : DD prog_14_method_34_code 7 (.aload_n 0) 1 8 := ⟨by decide +kernel, rfl⟩
theorem d_X12_man_8 : DD prog_14_method_34_code 8 (.iload_n 2) 1 9 := ⟨by decide +kernel, rfl⟩
theorem d_X12_man_9 : DD prog_14_method_34_code 9 (.invokevirtual 201) 3 12 := ⟨by decide +kernel, rfl⟩
theorem d_X12_man_12 : DJ prog_14_method_34_code 12 (fun o => .ifCond .eq o) 27 3 15 := ⟨by decide +kernel, rfl⟩
theorem d_X12_man_15 : DD prog_14_method_34_code 15 (.iload_n 3) 1 16 := ⟨by decide +kernel, rfl⟩
theorem d_X12_man_16 : DD prog_14_method_34_code 16 (.i2l) 1 17 := ⟨by decide +kernel, rfl⟩
theorem d_X12_man_17 : DD prog_14_method_34_code 17 (.lconst 0) 1 18 := ⟨by decide +kernel, rfl⟩
theorem d_X12_man_18 : DD prog_14_method_34_code 18 (.ldc2_w 213) 3 21 := ⟨by decide +kernel, rfl⟩
theorem d_X12_man_21 : DD prog_14_method_34_code 21 (.invokestatic 75) 3 24 := ⟨by decide +kernel, rfl⟩
theorem d_X12_man_24 : DJ prog_14_method_34_code 24 (fun o => .ifCond .ne o) 29 3 27 := ⟨by decide +kernel, rfl⟩
theorem d_X12_man_27 : DD prog_14_method_34_code 27 (.iconst (-1)) 1 28 := ⟨by decide +kernel, rfl⟩
theorem d_X12_man_28 : DD prog_14_method_34_code 28 (.ireturn) 1 29 := ⟨by decide +kernel, rfl⟩
theorem d_X12_man_29 : DD prog_14_method_34_code 29 (.aload_n 0) 1 30 := ⟨by decide +kernel, rfl⟩
theorem d_X12_man_30 : DD prog_14_method_34_code 30 (.iconst 0) 1 31 := ⟨by decide +kernel, rfl⟩
theorem d_X12_man_31 : DD prog_14_method_34_code 31 (.iload_n 1) 1 32 := ⟨by decide +kernel, rfl⟩
theorem d_X12_man_32 : DD prog_14_method_34_code 32 (.iload_n 2) 1 33 := ⟨by decide +kernel, rfl⟩
theorem d_X12_man_33 : DD prog_14_method_34_code 33 (.invokevirtual 215) 3 36 := ⟨by decide +kernel, rfl⟩
theorem d_X12_man_36 : DJ prog_14_method_34_code 36 (fun o => .ifCond .ne o) 42 3 39 := ⟨by decide +kernel, rfl⟩
theorem d_X12_man_39 : DD prog_14_method_34_code 39 (.bipush (-4)) 2 41 := ⟨by decide +kernel, rfl⟩
theorem d_X12_man_41 : DD prog_14_method_34_code 41 (.ireturn) 1 42 := ⟨by decide +kernel, rfl⟩
theorem d_X12_man_42 : DD prog_14_method_34_code 42 (.aload_n 0) 1 43 := ⟨by decide +kernel, rfl⟩
theorem d_X12_man_43 : DD prog_14_method_34_code 43 (.getfield 7) 3 46 := ⟨by decide +kernel, rfl⟩
theorem d_X12_man_46 : DD prog_14_method_34_code 46 (.iload_n 1) 1 47 := ⟨by decide +kernel, rfl⟩
theorem d_X12_man_47 : DD prog_14_method_34_code 47 (.iload_n 2) 1 48 := ⟨by decide +kernel, rfl⟩
theorem d_X12_man_48 : DD prog_14_method_34_code 48 (.invokestatic 198) 3 51 := ⟨by decide +kernel, rfl⟩
theorem d_X12_man_51 : DD prog_14_method_34_code 51 (.iconst 1) 1 52 := ⟨by decide +kernel, rfl⟩
theorem d_X12_man_52 : DD prog_14_method_34_code 52 (.iadd) 1 53 := ⟨by decide +kernel, rfl⟩
theorem d_X12_man_53 : DD prog_14_method_34_code 53 (.iload_n 3) 1 54 := ⟨by decide +kernel, rfl⟩
theorem d_X12_man_54 : DD prog_14_method_34_code 54 (.iadd) 1 55 := ⟨by decide +kernel, rfl⟩
theorem d_X12_man_55 : DD prog_14_method_34_code 55 (.iaload) 1 56 := ⟨by decide +kernel, rfl⟩
theorem d_X12_man_56 : DD prog_14_method_34_code 56 (.istore 4) 2 58 := ⟨by decide +kernel, rfl⟩
theorem d_X12_man_58 : DD prog_14_method_34_code 58 (.iload_n 3) 1 59 := ⟨by decide +kernel, rfl⟩
theorem d_X12_man_59 : DD prog_14_method_34_code 59 (.iconst 5) 1 60 := ⟨by decide +kernel, rfl⟩
theorem d_X12_man_60 : DJ prog_14_method_34_code 60 (fun o => .if_icmp .ne o) 70 3 63 := ⟨by decide +kernel, rfl⟩
theorem d_X12_man_63 : DD prog_14_method_34_code 63 (.iconst 1) 1 64 := ⟨by decide +kernel, rfl⟩
theorem d_X12_man_64 : DD prog_14_method_34_code 64 (.iload 4) 2 66 := ⟨by decide +kernel, rfl⟩
theorem d_X12_man_66 : DD prog_14_method_34_code 66 (.isub) 1 67 := ⟨by decide +kernel, rfl⟩
theorem d_X12_man_67 : DJ prog_14_method_34_code 67 (fun o => .goto o) 72 3 70 := ⟨by decide +kernel, rfl⟩
theorem d_X12_man_70 : DD prog_14_method_34_code 70 (.iload 4) 2 72 := ⟨by decide +kernel, rfl⟩
theorem d_X12_man_72 : DD prog_14_method_34_code 72 (.ireturn) 1 73 := ⟨by decide +kernel, rfl⟩
theorem d_X12_brazier_0 : DD prog_14_method_35_code 0 (.iload_n 1) 1 1 := ⟨by decide +kernel, rfl⟩
theorem d_X12_brazier_1 : DD prog_14_method_35_code 1 (.i2l) 1 2 := ⟨by decide +kernel, rfl⟩
theorem d_X12_brazier_2 : DD prog_14_method_35_code 2 (.lconst 0) 1 3 := ⟨by decide +kernel, rfl⟩
theorem d_X12_brazier_3 : DD prog_14_method_35_code 3 (.aload_n 0) 1 4 := ⟨by decide +kernel, rfl⟩
theorem d_X12_brazier_4 : DD prog_14_method_35_code 4 (.getfield 7) 3 7 := ⟨by decide +kernel, rfl⟩
theorem d_X12_brazier_7 : DD prog_14_method_35_code 7 (.sipush 207) 3 10 := ⟨by decide +kernel, rfl⟩
theorem d_X12_brazier_10 : DD prog_14_method_35_code 10 (.iaload) 1 11 := ⟨by decide +kernel, rfl⟩
theorem d_X12_brazier_11 : DD prog_14_method_35_code 11 (.iconst 1) 1 12 := ⟨by decide +kernel, rfl⟩
theorem d_X12_brazier_12 : DD prog_14_method_35_code 12 (.isub) 1 13 := ⟨by decide +kernel, rfl⟩
theorem d_X12_brazier_13 : DD prog_14_method_35_code 13 (.i2l) 1 14 := ⟨by decide +kernel, rfl⟩
theorem d_X12_brazier_14 : DD prog_14_method_35_code 14 (.invokestatic 75) 3 17 := ⟨by decide +kernel, rfl⟩
theorem d_X12_brazier_17 : DJ prog_14_method_35_code 17 (fun o => .ifCond .eq o) 49 3 20 := ⟨by decide +kernel, rfl⟩
theorem d_X12_brazier_20 : DD prog_14_method_35_code 20 (.iload_n 2) 1 21 := ⟨by decide +kernel, rfl⟩
theorem d_X12_brazier_21 : DD prog_14_method_35_code 21 (.i2l) 1 22 := ⟨by decide +kernel, rfl⟩
theorem d_X12_brazier_22 : DD prog_14_method_35_code 22 (.lconst 0) 1 23 := ⟨by decide +kernel, rfl⟩
theorem d_X12_brazier_23 : DD prog_14_method_35_code 23 (.ldc2_w 204) 3 26 := ⟨by decide +kernel, rfl⟩
theorem d_X12_brazier_26 : DD prog_14_method_35_code 26 (.invokestatic 75) 3 29 := ⟨by decide +kernel, rfl⟩
theorem d_X12_brazier_29 : DJ prog_14_method_35_code 29 (fun o => .ifCond .eq o) 49 3 32 := ⟨by decide +kernel, rfl⟩
theorem d_X12_brazier_32 : DD prog_14_method_35_code 32 (.aload_n 0) 1 33 := ⟨by decide +kernel, rfl⟩
theorem d_X12_brazier_33 : DD prog_14_method_35_code 33 (.getfield 7) 3 36 := ⟨by decide +kernel, rfl⟩
theorem d_X12_brazier_36 : DD prog_14_method_35_code 36 (.sipush 183) 3 39 := ⟨by decide +kernel, rfl⟩
theorem d_X12_brazier_39 : DD prog_14_method_35_code 39 (.iconst 4) 1 40 := ⟨by decide +kernel, rfl⟩
theorem d_X12_brazier_40 : DD prog_14_method_35_code 40 (.iload_n 1) 1 41 := ⟨by decide +kernel, rfl⟩
theorem d_X12_brazier_41 : DD prog_14_method_35_code 41 (.imul) 1 42 := ⟨by decide +kernel, rfl⟩
theorem d_X12_brazier_42 : DD prog_14_method_35_code 42 (.iadd) 1 43 := ⟨by decide +kernel, rfl⟩
theorem d_X12_brazier_43 : DD prog_14_method_35_code 43 (.iload_n 2) 1 44 := ⟨by decide +kernel, rfl⟩
theorem d_X12_brazier_44 : DD prog_14_method_35_code 44 (.iadd) 1 45 := ⟨by decide +kernel, rfl⟩
theorem d_X12_brazier_45 : DD prog_14_method_35_code 45 (.iaload) 1 46 := ⟨by decide +kernel, rfl⟩
theorem d_X12_brazier_46 : DJ prog_14_method_35_code 46 (fun o => .goto o) 50 3 49 := ⟨by decide +kernel, rfl⟩
theorem d_X12_brazier_49 : DD prog_14_method_35_code 49 (.iconst (-1)) 1 50 := ⟨by decide +kernel, rfl⟩
theorem d_X12_brazier_50 : DD prog_14_method_35_code 50 (.ireturn) 1 51 := ⟨by decide +kernel, rfl⟩
theorem d_X12_houseOf_0 : DD prog_14_method_36_code 0 (.aload_n 0) 1 1 := ⟨by decide +kernel, rfl⟩
theorem d_X12_houseOf_1 : DD prog_14_method_36_code 1 (.getfield 7) 3 4 := ⟨by decide +kernel, rfl⟩
theorem d_X12_houseOf_4 : DD prog_14_method_36_code 4 (.iload_n 1) 1 5 := ⟨by decide +kernel, rfl⟩
theorem d_X12_houseOf_5 : DD prog_14_method_36_code 5 (.sipush 160) 3 8 := ⟨by decide +kernel, rfl⟩
theorem d_X12_houseOf_8 : DD prog_14_method_36_code 8 (.iadd) 1 9 := ⟨by decide +kernel, rfl⟩
theorem d_X12_houseOf_9 : DD prog_14_method_36_code 9 (.aload_n 0) 1 10 := ⟨by decide +kernel, rfl⟩
theorem d_X12_houseOf_10 : DD prog_14_method_36_code 10 (.getfield 23) 3 13 := ⟨by decide +kernel, rfl⟩
theorem d_X12_houseOf_13 : DD prog_14_method_36_code 13 (.iconst 2) 1 14 := ⟨by decide +kernel, rfl⟩
theorem d_X12_houseOf_14 : DD prog_14_method_36_code 14 (.iload_n 2) 1 15 := ⟨by decide +kernel, rfl⟩
theorem d_X12_houseOf_15 : DD prog_14_method_36_code 15 (.imul) 1 16 := ⟨by decide +kernel, rfl⟩
theorem d_X12_houseOf_16 : DD prog_14_method_36_code 16 (.iaload) 1 17 := ⟨by decide +kernel, rfl⟩
theorem d_X12_houseOf_17 : DD prog_14_method_36_code 17 (.iadd) 1 18 := ⟨by decide +kernel, rfl⟩
theorem d_X12_houseOf_18 : DD prog_14_method_36_code 18 (.iaload) 1 19 := ⟨by decide +kernel, rfl⟩
theorem d_X12_houseOf_19 : DD prog_14_method_36_code 19 (.istore_n 3) 1 20 := ⟨by decide +kernel, rfl⟩
theorem d_X12_houseOf_20 : DD prog_14_method_36_code 20 (.aload_n 0) 1 21 := ⟨by decide +kernel, rfl⟩
theorem d_X12_houseOf_21 : DD prog_14_method_36_code 21 (.getfield 23) 3 24 := ⟨by decide +kernel, rfl⟩
theorem d_X12_houseOf_24 : DD prog_14_method_36_code 24 (.iconst 2) 1 25 := ⟨by decide +kernel, rfl⟩
theorem d_X12_houseOf_25 : DD prog_14_method_36_code 25 (.iload_n 2) 1 26 := ⟨by decide +kernel, rfl⟩
theorem d_X12_houseOf_26 : DD prog_14_method_36_code 26 (.imul) 1 27 := ⟨by decide +kernel, rfl⟩
theorem d_X12_houseOf_27 : DD prog_14_method_36_code 27 (.iconst 1) 1 28 := ⟨by decide +kernel, rfl⟩
theorem d_X12_houseOf_28 : DD prog_14_method_36_code 28 (.iadd) 1 29 := ⟨by decide +kernel, rfl⟩
theorem d_X12_houseOf_29 : DD prog_14_method_36_code 29 (.iaload) 1 30 := ⟨by decide +kernel, rfl⟩
theorem d_X12_houseOf_30 : DD prog_14_method_36_code 30 (.istore 4) 2 32 := ⟨by decide +kernel, rfl⟩
theorem d_X12_houseOf_32 : DD prog_14_method_36_code 32 (.iload 4) 2 34 := ⟨by decide +kernel, rfl⟩
theorem d_X12_houseOf_34 : DD prog_14_method_36_code 34 (.iload_n 3) 1 35 := ⟨by decide +kernel, rfl⟩
theorem d_X12_houseOf_35 : DJ prog_14_method_36_code 35 (fun o => .if_icmp .ge o) 42 3 38 := ⟨by decide +kernel, rfl⟩
theorem d_X12_houseOf_38 : DD prog_14_method_36_code 38 (.iconst 0) 1 39 := ⟨by decide +kernel, rfl⟩
theorem d_X12_houseOf_39 : DJ prog_14_method_36_code 39 (fun o => .goto o) 54 3 42 := ⟨by decide +kernel, rfl⟩
theorem d_X12_houseOf_42 : DD prog_14_method_36_code 42 (.iload 4) 2 44 := ⟨by decide +kernel, rfl⟩
theorem d_X12_houseOf_44 : DD prog_14_method_36_code 44 (.iload_n 3) 1 45 := ⟨by decide +kernel, rfl⟩
theorem d_X12_houseOf_45 : DJ prog_14_method_36_code 45 (fun o => .if_icmp .le o) 52 3 48 := ⟨by decide +kernel, rfl⟩
theorem d_X12_houseOf_48 : DD prog_14_method_36_code 48 (.iconst 1) 1 49 := ⟨by decide +kernel, rfl⟩
theorem d_X12_houseOf_49 : DJ prog_14_method_36_code 49 (fun o => .goto o) 54 3 52 := ⟨by decide +kernel, rfl⟩
theorem d_X12_houseOf_52 : DD prog_14_method_36_code 52 (.bipush (-4)) 2 54 := ⟨by decide +kernel, rfl⟩
theorem d_X12_houseOf_54 : DD prog_14_method_36_code 54 (.ireturn) 1 55 := ⟨by decide +kernel, rfl⟩
def f_X12_in_18 (s_0 : Int32) : Option Int32 :=
ck (isB s_0) <|
some s_0
def f_X12_in_17 : Option Int32 :=
f_X12_in_18 (0 : Int32)
def f_X12_in (j0 : Int64) (j2 : Int64) (j4 : Int64) : Option Int32 :=
if (lg_cmp j0 j2) < 0 then
(f_X12_in_17)
else
(if 0 < (lg_cmp j0 j4) then
(f_X12_in_17)
else
(f_X12_in_18 (1 : Int32)))
def b_X12_feed_19 (k19 : Mm → Int32 → Option (Int32 × Mm)) (j1 : Int64) (M : Mm) (x3 : Int32) : Option (Int32 × Mm) :=
if x3 < 0 then
(some ((M.1 0 17), M))
else
(ck (inn (M.1 0 17) 400) <|
wr (wI M 9 (M.1 0 17).toNatClampNeg ((j1 >>> ((x3).toInt64 &&& 63)).toInt32 &&& (255 : Int32))) fun M2 =>
wr (wI M2 0 17 ((M2.1 0 17) + (1 : Int32))) fun M5 =>
k19 M5 (x3 + (-8 : Int32)))
def f_X12_feed_19 (j1 : Int64) : Nat → Mm → Int32 → Option (Int32 × Mm)
  | 0, _, _ => none
  | n + 1, M, x3 => b_X12_feed_19 (fun M x3 => f_X12_feed_19 j1 n M x3) j1 M x3
def f_X12_feed (M : Mm) (j1 : Int64) : Option (Int32 × Mm) :=
if ((M.1 0 17) + (8 : Int32)) ≤ (400 : Int32) then
(f_X12_feed_19 j1 FU M (56 : Int32))
else
(some ((-3 : Int32), M))
def f_X12_end (M : Mm) (x1 : Int32) : Option (Int32 × Mm) :=
bd (f_X12_in x1.toInt64 (0 : Int64) ((M.1 0 17).toInt64)) fun p2 =>
if p2 = 0 then
(some ((-1 : Int32), M))
else
(nm ((M.1 0 17)) fun v4 =>
wr (wI M 0 17 x1) fun M6 =>
some (v4, M6))
def f_X12_byteAt_19 (M : Mm) (s_0 : Int32) : Option Int32 :=
some s_0
def f_X12_byteAt (M : Mm) (x1 : Int32) : Option Int32 :=
if (M.1 0 17) ≤ x1 then
(f_X12_byteAt_19 M (-4 : Int32))
else
(ck (inn x1 400) <|
f_X12_byteAt_19 M (M.1 9 x1.toNatClampNeg))
def f_X12_fails_20 (M : Mm) : Option Mm :=
some M
def f_X12_fails (M : Mm) (x1 : Int32) : Option Mm :=
if (M.1 0 19) = 0 then
(wr (wI M 0 19 x1) fun M2 =>
wr (wI M2 0 20 (M2.1 0 22)) fun M4 =>
f_X12_fails_20 M4)
else
(f_X12_fails_20 M)
def f_X12_nameHere_99 (k2 : Int32 → Option Int32) (k51 : Int32 → Int32 → Option Int32) (M : Mm) (x1 : Int32) (x3 : Int32) (s_0 : Int32) : Option Int32 :=
k51 s_0 (x3 + (1 : Int32))
def f_X12_nameHere_106 (k2 : Int32 → Option Int32) (M : Mm) (x1 : Int32) (x2 : Int32) : Option Int32 :=
if x2 = 0 then
(k2 (x1 + (1 : Int32)))
else
(some x1)
def b_X12_nameHere_51 (k2 : Int32 → Option Int32) (k51 : Int32 → Int32 → Option Int32) (M : Mm) (x1 : Int32) (x2 : Int32) (x3 : Int32) : Option Int32 :=
if x2 = 0 then
(f_X12_nameHere_106 k2 M x1 x2)
else
(if ((M.1 0 21) - (M.1 0 22)) ≤ x3 then
(f_X12_nameHere_106 k2 M x1 x2)
else
(bd (f_X12_byteAt M ((M.1 0 22) + x3)) fun p4 =>
ck (inn x1 17) <|
ck (inn ((M.1 10 x1.toNatClampNeg) + x3) 79) <|
if p4 = (M.1 11 ((M.1 10 x1.toNatClampNeg) + x3).toNatClampNeg) then
(f_X12_nameHere_99 k2 k51 M x1 x3 (1 : Int32))
else
(f_X12_nameHere_99 k2 k51 M x1 x3 (0 : Int32))))
def f_X12_nameHere_51 (k2 : Int32 → Option Int32) (M : Mm) (x1 : Int32) : Nat → Int32 → Int32 → Option Int32
  | 0, _, _ => none
  | n + 1, x2, x3 => b_X12_nameHere_51 k2 (fun x2 x3 => f_X12_nameHere_51 k2 M x1 n x2 x3) M x1 x2 x3
def f_X12_nameHere_48 (k2 : Int32 → Option Int32) (M : Mm) (x1 : Int32) (s_0 : Int32) : Option Int32 :=
f_X12_nameHere_51 k2 M x1 FU s_0 (0 : Int32)
def f_X12_nameHere_118 (M : Mm) : Option Int32 :=
some (-4 : Int32)
def b_X12_nameHere_2 (k2 : Int32 → Option Int32) (M : Mm) (x1 : Int32) : Option Int32 :=
if (16 : Int32) ≤ x1 then
(f_X12_nameHere_118 M)
else
(if (M.1 0 23) = (1 : Int32) then
(ck (inn (x1 + (1 : Int32)) 17) <|
ck (inn x1 17) <|
if ((M.1 0 21) - (M.1 0 22)) = ((M.1 10 (x1 + (1 : Int32)).toNatClampNeg) - (M.1 10 x1.toNatClampNeg)) then
(f_X12_nameHere_48 k2 M x1 (1 : Int32))
else
(f_X12_nameHere_48 k2 M x1 (0 : Int32)))
else
(f_X12_nameHere_118 M))
def f_X12_nameHere_2 (M : Mm) : Nat → Int32 → Option Int32
  | 0, _ => none
  | n + 1, x1 => b_X12_nameHere_2 (fun x1 => f_X12_nameHere_2 M n x1) M x1
def f_X12_nameHere (M : Mm) : Option Int32 :=
f_X12_nameHere_2 M FU (0 : Int32)
def f_X12_step_269 (M : Mm) : Option Mm :=
some M
def f_X12_step_118 (M : Mm) : Option Mm :=
wr (wI M 0 23 (1 : Int32)) fun M1 =>
f_X12_step_269 M1
def b_X12_step_84 (k84 : Mm → Option Mm) (M : Mm) : Option Mm :=
bd (f_X12_byteAt M (M.1 0 21)) fun p2 =>
bd (f_X12_in p2.toInt64 (97 : Int64) (122 : Int64)) fun p4 =>
if p4 = 0 then
(f_X12_step_118 M)
else
(wr (wI M 0 21 ((M.1 0 21) + (1 : Int32))) fun M6 =>
k84 M6)
def f_X12_step_84 : Nat → Mm → Option Mm
  | 0, _ => none
  | n + 1, M => b_X12_step_84 (fun M => f_X12_step_84 n M) M
def f_X12_step_201 (k140 : Mm → Option Mm) (M : Mm) (s_1 : Int32) : Option Mm :=
wr (wI M 0 24 s_1) fun M1 =>
wr (wI M1 0 21 ((M1.1 0 21) + (1 : Int32))) fun M3 =>
k140 M3
def f_X12_step_217 (M : Mm) : Option Mm :=
wr (wI M 0 23 (2 : Int32)) fun M1 =>
if ((M1.1 0 21) - (M1.1 0 22)) ≤ (3 : Int32) then
(f_X12_step_269 M1)
else
(bd (f_X12_fails M1 (1 : Int32)) fun p5 =>
f_X12_step_269 p5)
def b_X12_step_140 (k140 : Mm → Option Mm) (M : Mm) : Option Mm :=
bd (f_X12_byteAt M (M.1 0 21)) fun p2 =>
bd (f_X12_in p2.toInt64 (48 : Int64) (57 : Int64)) fun p4 =>
if p4 = 0 then
(f_X12_step_217 M)
else
(if (3 : Int32) ≤ ((M.1 0 21) - (M.1 0 22)) then
(f_X12_step_201 k140 M (M.1 0 24))
else
(bd (f_X12_byteAt M (M.1 0 21)) fun p8 =>
f_X12_step_201 k140 M ((((10 : Int32) * (M.1 0 24)) + p8) - (48 : Int32))))
def f_X12_step_140 : Nat → Mm → Option Mm
  | 0, _ => none
  | n + 1, M => b_X12_step_140 (fun M => f_X12_step_140 n M) M
def f_X12_step_34 (M : Mm) : Option Mm :=
wr (wI M 0 22 (M.1 0 21)) fun M1 =>
bd (f_X12_byteAt M1 (M1.1 0 21)) fun p4 =>
wr (wI M1 0 24 (0 : Int32)) fun M5 =>
if p4 = (-4 : Int32) then
(wr (wI M5 0 23 (0 : Int32)) fun M21 =>
f_X12_step_269 M21)
else
(bd (f_X12_in p4.toInt64 (97 : Int64) (122 : Int64)) fun p9 =>
if p9 = 0 then
(bd (f_X12_in p4.toInt64 (48 : Int64) (57 : Int64)) fun p12 =>
if p12 = 0 then
(wr (wI M5 0 23 (3 : Int32)) fun M14 =>
wr (wI M14 0 21 ((M14.1 0 21) + (1 : Int32))) fun M16 =>
if p4 = (59 : Int32) then
(f_X12_step_269 M16)
else
(bd (f_X12_fails M16 (1 : Int32)) fun p20 =>
f_X12_step_269 p20))
else
(f_X12_step_140 FU M5))
else
(f_X12_step_84 FU M5))
def b_X12_step_8 (k8 : Mm → Option Mm) (M : Mm) : Option Mm :=
bd (f_X12_byteAt M (M.1 0 21)) fun p2 =>
if p2 = (32 : Int32) then
(wr (wI M 0 21 ((M.1 0 21) + (1 : Int32))) fun M4 =>
k8 M4)
else
(f_X12_step_34 M)
def f_X12_step_8 : Nat → Mm → Option Mm
  | 0, _ => none
  | n + 1, M => b_X12_step_8 (fun M => f_X12_step_8 n M) M
def f_X12_step (M : Mm) : Option Mm :=
if (M.1 0 19) ≤ 0 then
(f_X12_step_8 FU M)
else
(some M)
def f_X12_looks_47 (M : Mm) : Option Mm :=
some M
def f_X12_looks_20 (M : Mm) (x1 : Int32) (x2 : Int32) : Option Mm :=
if (M.1 0 19) = 0 then
(bd (f_X12_in ((M.1 0 24).toInt64) x1.toInt64 x2.toInt64) fun p3 =>
if p3 = 0 then
(bd (f_X12_fails M (3 : Int32)) fun p6 =>
f_X12_looks_47 p6)
else
(f_X12_looks_47 M))
else
(f_X12_looks_47 M)
def f_X12_looks (M : Mm) (x1 : Int32) (x2 : Int32) : Option Mm :=
if (M.1 0 19) = 0 then
(if (M.1 0 23) = (2 : Int32) then
(f_X12_looks_20 M x1 x2)
else
(bd (f_X12_fails M (2 : Int32)) fun p4 =>
f_X12_looks_20 p4 x1 x2))
else
(f_X12_looks_20 M x1 x2)
def f_X12_number_21 (M : Mm) (s_0 : Int32) : Option (Int32 × Mm) :=
bd (f_X12_step M) fun p2 =>
some (s_0, p2)
def f_X12_number (M : Mm) (x1 : Int32) (x2 : Int32) : Option (Int32 × Mm) :=
bd (f_X12_looks M x1 x2) fun p2 =>
if (p2.1 0 19) = 0 then
(f_X12_number_21 p2 (p2.1 0 24))
else
(f_X12_number_21 p2 x1)
def f_X12_name_24 (M : Mm) (x1 : Int32) (x3 : Int32) : Option (Int32 × Mm) :=
bd (f_X12_step M) fun p2 =>
some ((x3 - x1), p2)
def f_X12_name (M : Mm) (x1 : Int32) (x2 : Int32) : Option (Int32 × Mm) :=
bd (f_X12_nameHere M) fun p2 =>
bd (f_X12_in p2.toInt64 x1.toInt64 x2.toInt64) fun p4 =>
if p4 = 0 then
(bd (f_X12_fails M (2 : Int32)) fun p7 =>
f_X12_name_24 p7 x1 x1)
else
(f_X12_name_24 M x1 p2)
def f_X12_furlongHere_40 (M : Mm) (x1 : Int32) (s_1 : Int32) : Option (Int32 × Mm) :=
wr (wI M 0 15 s_1) fun M1 =>
some (x1, M1)
def f_X12_furlongHere_22 (M : Mm) (s_0 : Int32) : Option (Int32 × Mm) :=
if s_0 ≤ (M.1 0 15) then
(f_X12_furlongHere_40 M s_0 (M.1 0 15))
else
(f_X12_furlongHere_40 M s_0 s_0)
def f_X12_furlongHere (M : Mm) : Option (Int32 × Mm) :=
bd (f_X12_looks M (0 : Int32) (9 : Int32)) fun p2 =>
if (p2.1 0 19) = 0 then
(f_X12_furlongHere_22 p2 (p2.1 0 24))
else
(f_X12_furlongHere_22 p2 (0 : Int32))
def f_X12_readHours_83 (k2 : Mm → Int32 → Option Mm) (M : Mm) (x1 : Int32) (x2 : Int32) : Option Mm :=
k2 M x2
def f_X12_readHours_80 (k2 : Mm → Int32 → Option Mm) (M : Mm) (x1 : Int32) (x2 : Int32) : Option Mm :=
f_X12_readHours_83 k2 M x1 (x2 + (1 : Int32))
def f_X12_readHours_40 (k2 : Mm → Int32 → Option Mm) (M : Mm) (x1 : Int32) (x2 : Int32) : Option Mm :=
bd (f_X12_number M (0 : Int32) (9 : Int32)) fun p2 =>
nm (p2.1) fun v3 =>
if (p2.2.1 0 19) = 0 then
(if x1 = 0 then
(ck (inn x2 12) <|
wr (wI p2.2 6 x2.toNatClampNeg v3) fun M7 =>
f_X12_readHours_80 k2 M7 x1 x2)
else
(ck (inn ((171 : Int32) + x2) 210) <|
wr (wI p2.2 5 ((171 : Int32) + x2).toNatClampNeg v3) fun M10 =>
f_X12_readHours_80 k2 M10 x1 x2))
else
(f_X12_readHours_83 k2 p2.2 x1 x2)
def f_X12_readHours_21 (k2 : Mm → Int32 → Option Mm) (M : Mm) (x1 : Int32) (x2 : Int32) : Option Mm :=
if (M.1 0 23) = (2 : Int32) then
(if x2 = (12 : Int32) then
(bd (f_X12_fails M (5 : Int32)) fun p4 =>
f_X12_readHours_40 k2 p4 x1 x2)
else
(f_X12_readHours_40 k2 M x1 x2))
else
(f_X12_readHours_40 k2 M x1 x2)
def f_X12_readHours_86 (M : Mm) : Option Mm :=
some M
def b_X12_readHours_2 (k2 : Mm → Int32 → Option Mm) (x1 : Int32) (M : Mm) (x2 : Int32) : Option Mm :=
if (M.1 0 19) = 0 then
(if x2 = 0 then
(f_X12_readHours_21 k2 M x1 x2)
else
(if (M.1 0 23) = (2 : Int32) then
(f_X12_readHours_21 k2 M x1 x2)
else
(f_X12_readHours_86 M)))
else
(f_X12_readHours_86 M)
def f_X12_readHours_2 (x1 : Int32) : Nat → Mm → Int32 → Option Mm
  | 0, _, _ => none
  | n + 1, M, x2 => b_X12_readHours_2 (fun M x2 => f_X12_readHours_2 x1 n M x2) x1 M x2
def f_X12_readHours (M : Mm) (x1 : Int32) : Option Mm :=
f_X12_readHours_2 x1 FU M (0 : Int32)
def f_X12_readOnce_110 (M : Mm) : Option Mm :=
some M
def f_X12_readOnce_107 (M : Mm) (s_1 : Int32) : Option Mm :=
bd (f_X12_readHours M s_1) fun p2 =>
f_X12_readOnce_110 p2
def f_X12_readOnce_17 (M : Mm) (x1 : Int32) : Option Mm :=
wr (wI M 0 13 ((M.1 0 13) ||| ((1 : Int32) <<< (x1 &&& 31)))) fun M1 =>
bd (f_X12_step M1) fun p4 =>
if x1 = 0 then
(bd (f_X12_number p4 (1 : Int32) (10 : Int32)) fun p21 =>
wr (wI p21.2 0 12 p21.1) fun M22 =>
f_X12_readOnce_110 M22)
else
(if x1 = (3 : Int32) then
(bd (f_X12_number p4 (1 : Int32) (99 : Int32)) fun p9 =>
wr (wI p9.2 7 (0 : Int32).toNatClampNeg p9.1) fun M10 =>
bd (f_X12_number M10 (0 : Int32) (3 : Int32)) fun p13 =>
wr (wI p13.2 7 (1 : Int32).toNatClampNeg p13.1) fun M14 =>
bd (f_X12_number M14 (0 : Int32) (1 : Int32)) fun p17 =>
wr (wI p17.2 7 (2 : Int32).toNatClampNeg p17.1) fun M18 =>
f_X12_readOnce_110 M18)
else
(if x1 = (1 : Int32) then
(f_X12_readOnce_107 p4 (1 : Int32))
else
(f_X12_readOnce_107 p4 (0 : Int32))))
def f_X12_readOnce (M : Mm) (x1 : Int32) : Option Mm :=
if (((M.1 0 13) >>> (x1 &&& 31)) &&& (1 : Int32)) = (1 : Int32) then
(bd (f_X12_fails M (4 : Int32)) fun p3 =>
f_X12_readOnce_17 p3 x1)
else
(f_X12_readOnce_17 M x1)
def f_X12_readSnow_29 (M : Mm) (x1 : Int32) : Option Mm :=
wr (wI M 0 14 ((M.1 0 14) ||| ((1 : Int32) <<< (x1 &&& 31)))) fun M1 =>
bd (f_X12_step M1) fun p4 =>
bd (f_X12_number p4 (0 : Int32) (200 : Int32)) fun p6 =>
ck (inn ((140 : Int32) + x1) 210) <|
wr (wI p6.2 5 ((140 : Int32) + x1).toNatClampNeg p6.1) fun M7 =>
some M7
def f_X12_readSnow (M : Mm) : Option Mm :=
bd (f_X12_furlongHere M) fun p2 =>
nm (p2.1) fun v3 =>
if (p2.2.1 0 19) = 0 then
(if (((p2.2.1 0 14) >>> (v3 &&& 31)) &&& (1 : Int32)) = (1 : Int32) then
(bd (f_X12_fails p2.2 (4 : Int32)) fun p8 =>
f_X12_readSnow_29 p8 v3)
else
(f_X12_readSnow_29 p2.2 v3))
else
(f_X12_readSnow_29 p2.2 v3)
def f_X12_readMan_166 (M : Mm) : Option Mm :=
some M
def f_X12_readMan_46 (M : Mm) (x3 : Int32) : Option Mm :=
bd (f_X12_step M) fun p2 =>
bd (f_X12_name p2 (10 : Int32) (14 : Int32)) fun p4 =>
ck (inn (x3 + (1 : Int32)) 210) <|
wr (wI p4.2 5 (x3 + (1 : Int32)).toNatClampNeg p4.1) fun M5 =>
bd (f_X12_number M5 (0 : Int32) (99 : Int32)) fun p9 =>
ck (inn (x3 + (2 : Int32)) 210) <|
wr (wI p9.2 5 (x3 + (2 : Int32)).toNatClampNeg p9.1) fun M10 =>
bd (f_X12_number M10 (0 : Int32) (99 : Int32)) fun p14 =>
ck (inn (x3 + (3 : Int32)) 210) <|
wr (wI p14.2 5 (x3 + (3 : Int32)).toNatClampNeg p14.1) fun M15 =>
bd (f_X12_number M15 (0 : Int32) (99 : Int32)) fun p19 =>
ck (inn (x3 + (4 : Int32)) 210) <|
wr (wI p19.2 5 (x3 + (4 : Int32)).toNatClampNeg p19.1) fun M20 =>
bd (f_X12_number M20 (0 : Int32) (3 : Int32)) fun p24 =>
ck (inn (x3 + (5 : Int32)) 210) <|
wr (wI p24.2 5 (x3 + (5 : Int32)).toNatClampNeg p24.1) fun M25 =>
ck (inn x3 210) <|
wr (wI M25 5 x3.toNatClampNeg (1 : Int32)) fun M28 =>
if (M28.1 0 19) = 0 then
(if (M28.1 0 23) = (1 : Int32) then
(bd (f_X12_name M28 (15 : Int32) (15 : Int32)) fun p34 =>
ck (inn (x3 + (6 : Int32)) 210) <|
wr (wI p34.2 5 (x3 + (6 : Int32)).toNatClampNeg (1 : Int32)) fun M35 =>
f_X12_readMan_166 M35)
else
(f_X12_readMan_166 M28))
else
(f_X12_readMan_166 M28)
def f_X12_readMan (M : Mm) : Option Mm :=
bd (f_X12_name M (8 : Int32) (9 : Int32)) fun p2 =>
nm (p2.1) fun v3 =>
bd (f_X12_furlongHere p2.2) fun p6 =>
nm (p6.1) fun v7 =>
nm (((7 : Int32) * (((10 : Int32) * v3) + v7))) fun v9 =>
if (p6.2.1 0 19) = 0 then
(ck (inn v9 210) <|
if (p6.2.1 5 v9.toNatClampNeg) = (1 : Int32) then
(bd (f_X12_fails p6.2 (4 : Int32)) fun p15 =>
f_X12_readMan_46 p15 v9)
else
(f_X12_readMan_46 p6.2 v9))
else
(f_X12_readMan_46 p6.2 v9)
def f_X12_readBrazier (M : Mm) : Option Mm :=
nm ((M.1 5 (207 : Int32).toNatClampNeg)) fun v1 =>
if v1 = (6 : Int32) then
(bd (f_X12_fails M (5 : Int32)) fun p33 =>
some p33)
else
(bd (f_X12_step M) fun p5 =>
nm (((183 : Int32) + ((4 : Int32) * v1))) fun v6 =>
bd (f_X12_furlongHere p5) fun p9 =>
ck (inn v6 210) <|
wr (wI p9.2 5 v6.toNatClampNeg p9.1) fun M10 =>
bd (f_X12_step M10) fun p14 =>
bd (f_X12_number p14 (1 : Int32) (20 : Int32)) fun p16 =>
ck (inn (v6 + (1 : Int32)) 210) <|
wr (wI p16.2 5 (v6 + (1 : Int32)).toNatClampNeg p16.1) fun M17 =>
bd (f_X12_number M17 (0 : Int32) (11 : Int32)) fun p21 =>
ck (inn (v6 + (2 : Int32)) 210) <|
wr (wI p21.2 5 (v6 + (2 : Int32)).toNatClampNeg p21.1) fun M22 =>
bd (f_X12_number M22 (M22.1 5 (v6 + (2 : Int32)).toNatClampNeg) (11 : Int32)) fun p26 =>
ck (inn (v6 + (3 : Int32)) 210) <|
wr (wI p26.2 5 (v6 + (3 : Int32)).toNatClampNeg p26.1) fun M27 =>
wr (wI M27 5 (207 : Int32).toNatClampNeg ((M27.1 5 (207 : Int32).toNatClampNeg) + (1 : Int32))) fun M30 =>
some M30)
def f_X12_readHouse_75 (M : Mm) (s_1 : Int32) (s_2 : Int32) : Option Mm :=
ck (inn s_1 16) <|
wr (wI M 8 s_1.toNatClampNeg s_2) fun M1 =>
wr (wI M1 0 11 ((M1.1 0 11) + (1 : Int32))) fun M4 =>
some M4
def f_X12_readHouse (M : Mm) : Option Mm :=
if (M.1 0 11) = (8 : Int32) then
(bd (f_X12_fails M (5 : Int32)) fun p19 =>
some p19)
else
(bd (f_X12_step M) fun p3 =>
bd (f_X12_furlongHere p3) fun p5 =>
ck (inn ((2 : Int32) * (p3.1 0 11)) 16) <|
wr (wI p5.2 8 ((2 : Int32) * (p3.1 0 11)).toNatClampNeg p5.1) fun M6 =>
bd (f_X12_step M6) fun p10 =>
bd (f_X12_number p10 (0 : Int32) (9 : Int32)) fun p12 =>
nm (p12.1) fun v13 =>
bd (f_X12_name p12.2 (8 : Int32) (9 : Int32)) fun p16 =>
if p16.1 = 0 then
(f_X12_readHouse_75 p16.2 (((2 : Int32) * (p12.2.1 0 11)) + (1 : Int32)) (0 - v13))
else
(f_X12_readHouse_75 p16.2 (((2 : Int32) * (p12.2.1 0 11)) + (1 : Int32)) v13))
def f_X12_readLine_102 (M : Mm) : Option Mm :=
bd (f_X12_step M) fun p2 =>
some p2
def f_X12_readLine_82 (M : Mm) : Option Mm :=
if (M.1 0 19) = 0 then
(if (M.1 0 23) = (3 : Int32) then
(f_X12_readLine_102 M)
else
(bd (f_X12_fails M (2 : Int32)) fun p4 =>
f_X12_readLine_102 p4))
else
(f_X12_readLine_102 M)
def f_X12_readLine (M : Mm) : Option Mm :=
bd (f_X12_nameHere M) fun p2 =>
bd (f_X12_in p2.toInt64 (0 : Int64) (7 : Int64)) fun p4 =>
if p4 = 0 then
(bd (f_X12_fails M (2 : Int32)) fun p23 =>
some p23)
else
(if (3 : Int32) < p2 then
(if p2 = (6 : Int32) then
(bd (f_X12_readBrazier M) fun p19 =>
f_X12_readLine_82 p19)
else
(if p2 = (7 : Int32) then
(bd (f_X12_readHouse M) fun p17 =>
f_X12_readLine_82 p17)
else
(bd (f_X12_step M) fun p10 =>
if p2 = (4 : Int32) then
(bd (f_X12_readSnow p10) fun p15 =>
f_X12_readLine_82 p15)
else
(bd (f_X12_readMan p10) fun p13 =>
f_X12_readLine_82 p13))))
else
(bd (f_X12_readOnce M p2) fun p21 =>
f_X12_readLine_82 p21))
def f_X12_takes_87 (M : Mm) : Option Mm :=
wr (wI M 0 1 (M.1 0 12)) fun M1 =>
wr (wI M1 0 5 (M1.1 0 11)) fun M3 =>
wr (wI M3 0 30 (0 : Int32)) fun M5 =>
wr (wI M5 15 (0 : Int32).toNatClampNeg (vp_nar .boolean (0 : Int32))) fun M7 =>
wr (wI M7 15 (1 : Int32).toNatClampNeg (vp_nar .boolean (0 : Int32))) fun M9 =>
some M9
def b_X12_takes_29 (k29 : Mm → Int32 → Option Mm) (M : Mm) (x1 : Int32) : Option Mm :=
if (16 : Int32) ≤ x1 then
(f_X12_takes_87 M)
else
(ck (inn x1 16) <|
wr (wI M 4 x1.toNatClampNeg (M.1 8 x1.toNatClampNeg)) fun M3 =>
ck (inn (x1 - x1 / (12 : Int32) * (12 : Int32)) 12) <|
wr (wI M3 2 (x1 - x1 / (12 : Int32) * (12 : Int32)).toNatClampNeg (M3.1 6 (x1 - x1 / (12 : Int32) * (12 : Int32)).toNatClampNeg)) fun M6 =>
ck (inn (x1 - x1 / (3 : Int32) * (3 : Int32)) 3) <|
wr (wI M6 3 (x1 - x1 / (3 : Int32) * (3 : Int32)).toNatClampNeg (M6.1 7 (x1 - x1 / (3 : Int32) * (3 : Int32)).toNatClampNeg)) fun M9 =>
k29 M9 (x1 + (1 : Int32)))
def f_X12_takes_29 : Nat → Mm → Int32 → Option Mm
  | 0, _, _ => none
  | n + 1, M, x1 => b_X12_takes_29 (fun M x1 => f_X12_takes_29 n M x1) M x1
def f_X12_takes_27 (M : Mm) : Option Mm :=
f_X12_takes_29 FU M (0 : Int32)
def b_X12_takes_2 (k2 : Mm → Int32 → Option Mm) (M : Mm) (x1 : Int32) : Option Mm :=
if (210 : Int32) ≤ x1 then
(f_X12_takes_27 M)
else
(ck (inn x1 210) <|
ck (inn x1 840) <|
wr (wI M 1 x1.toNatClampNeg (M.1 5 x1.toNatClampNeg)) fun M3 =>
k2 M3 (x1 + (1 : Int32)))
def f_X12_takes_2 : Nat → Mm → Int32 → Option Mm
  | 0, _, _ => none
  | n + 1, M, x1 => b_X12_takes_2 (fun M x1 => f_X12_takes_2 n M x1) M x1
def f_X12_takes (M : Mm) : Option Mm :=
f_X12_takes_2 FU M (0 : Int32)
def f_X12_land_81 (k39 : Mm → Int32 → Option (Int32 × Mm)) (M : Mm) (x1 : Int32) (x2 : Int32) (s_1 : Int32) (s_2 : Int32) : Option (Int32 × Mm) :=
ck (inn s_1 3) <|
wr (wI M 7 s_1.toNatClampNeg s_2) fun M1 =>
k39 M1 (x2 + (1 : Int32))
def f_X12_land_140 (M : Mm) (x1 : Int32) : Option (Int32 × Mm) :=
wr (wI M 0 17 (0 : Int32)) fun M1 =>
wr (wI M1 0 18 (M1.1 0 19)) fun M3 =>
if (M3.1 0 19) ≤ 0 then
(bd (f_X12_takes M3) fun p7 =>
wr (wI p7 0 6 (3 : Int32)) fun M8 =>
some (x1, M8))
else
(some (((-10 : Int32) - (M3.1 0 20)), M3))
def f_X12_land_116 (M : Mm) (x1 : Int32) : Option (Int32 × Mm) :=
if (M.1 0 19) = 0 then
(if (M.1 0 15) < (M.1 0 12) then
(f_X12_land_140 M x1)
else
(bd (f_X12_fails M (6 : Int32)) fun p4 =>
f_X12_land_140 p4 x1))
else
(f_X12_land_140 M x1)
def b_X12_land_92 (k92 : Mm → Int32 → Option (Int32 × Mm)) (M : Mm) (x1 : Int32) : Option (Int32 × Mm) :=
if (M.1 0 19) = 0 then
(if (M.1 0 23) = 0 then
(f_X12_land_116 M x1)
else
(bd (f_X12_readLine M) fun p4 =>
k92 p4 (x1 + (1 : Int32))))
else
(f_X12_land_116 M x1)
def f_X12_land_92 : Nat → Mm → Int32 → Option (Int32 × Mm)
  | 0, _, _ => none
  | n + 1, M, x1 => b_X12_land_92 (fun M x1 => f_X12_land_92 n M x1) M x1
def f_X12_land_88 (M : Mm) (x1 : Int32) : Option (Int32 × Mm) :=
bd (f_X12_step M) fun p2 =>
f_X12_land_92 FU p2 x1
def b_X12_land_39 (k39 : Mm → Int32 → Option (Int32 × Mm)) (x1 : Int32) (M : Mm) (x2 : Int32) : Option (Int32 × Mm) :=
if (210 : Int32) ≤ x2 then
(f_X12_land_88 M x1)
else
(ck (inn x2 210) <|
wr (wI M 5 x2.toNatClampNeg (0 : Int32)) fun M2 =>
ck (inn (x2 - x2 / (12 : Int32) * (12 : Int32)) 12) <|
wr (wI M2 6 (x2 - x2 / (12 : Int32) * (12 : Int32)).toNatClampNeg (0 : Int32)) fun M5 =>
if (x2 - x2 / (3 : Int32) * (3 : Int32)) = 0 then
(f_X12_land_81 k39 M5 x1 x2 (x2 - x2 / (3 : Int32) * (3 : Int32)) (1 : Int32))
else
(f_X12_land_81 k39 M5 x1 x2 (x2 - x2 / (3 : Int32) * (3 : Int32)) (0 : Int32)))
def f_X12_land_39 (x1 : Int32) : Nat → Mm → Int32 → Option (Int32 × Mm)
  | 0, _, _ => none
  | n + 1, M, x2 => b_X12_land_39 (fun M x2 => f_X12_land_39 x1 n M x2) x1 M x2
def f_X12_land (M : Mm) : Option (Int32 × Mm) :=
wr (wI M 0 19 (0 : Int32)) fun M1 =>
wr (wI M1 0 21 (0 : Int32)) fun M3 =>
wr (wI M3 0 13 (0 : Int32)) fun M5 =>
wr (wI M5 0 14 (0 : Int32)) fun M7 =>
wr (wI M7 0 15 (0 : Int32)) fun M9 =>
wr (wI M9 0 12 (5 : Int32)) fun M11 =>
wr (wI M11 0 11 (0 : Int32)) fun M13 =>
f_X12_land_39 (0 : Int32) FU M13 (0 : Int32)
def f_X12_fault (M : Mm) : Option Int32 :=
some (M.1 0 18)
def f_X12_hourNow (M : Mm) : Option Int32 :=
some (M.1 1 (170 : Int32).toNatClampNeg)
def f_X12_rule_61 (M : Mm) (s_0 : Int32) : Option Int32 :=
some s_0
def f_X12_rule (M : Mm) (x1 : Int32) : Option Int32 :=
if x1 = 0 then
(f_X12_rule_61 M (M.1 0 1))
else
(if x1 = (1 : Int32) then
(bd (f_X12_hourNow M) fun p9 =>
f_X12_rule_61 M p9)
else
(bd (f_X12_in x1.toInt64 (2 : Int64) (4 : Int64)) fun p4 =>
if p4 = 0 then
(if x1 = (5 : Int32) then
(f_X12_rule_61 M (M.1 0 6))
else
(f_X12_rule_61 M (-1 : Int32)))
else
(ck (inn (x1 - (2 : Int32)) 3) <|
f_X12_rule_61 M (M.1 3 (x1 - (2 : Int32)).toNatClampNeg))))
def f_X12_isHour (x0 : Int32) : Option Int32 :=
bd (f_X12_in x0.toInt64 (0 : Int64) (11 : Int64)) fun p2 =>
ck (isB p2) <|
some p2
def f_X12_isFurlong (M : Mm) (x1 : Int32) : Option Int32 :=
bd (f_X12_in x1.toInt64 (0 : Int64) (((M.1 0 1) - (1 : Int32)).toInt64)) fun p2 =>
ck (isB p2) <|
some p2
def f_X12_isSide (x0 : Int32) : Option Int32 :=
bd (f_X12_in x0.toInt64 (0 : Int64) (1 : Int64)) fun p2 =>
ck (isB p2) <|
some p2
def f_X12_hour_44 (M : Mm) (s_0 : Int32) : Option Int32 :=
some s_0
def f_X12_hour_43 (M : Mm) : Option Int32 :=
f_X12_hour_44 M (-1 : Int32)
def f_X12_hour (M : Mm) (x1 : Int32) (x2 : Int32) : Option Int32 :=
bd (f_X12_isHour x1) fun p2 =>
if p2 = 0 then
(f_X12_hour_43 M)
else
(bd (f_X12_in x2.toInt64 (0 : Int64) (1 : Int64)) fun p5 =>
if p5 = 0 then
(f_X12_hour_43 M)
else
(if x2 = 0 then
(ck (inn ((171 : Int32) + x1) 840) <|
f_X12_hour_44 M (M.1 1 ((171 : Int32) + x1).toNatClampNeg))
else
(ck (inn x1 12) <|
f_X12_hour_44 M (M.1 2 x1.toNatClampNeg))))
def f_X12_manAt (x0 : Int32) (x1 : Int32) : Option Int32 :=
some ((7 : Int32) * (((10 : Int32) * x0) + x1))
def f_X12_isThere_21 (M : Mm) (s_0 : Int32) : Option Int32 :=
ck (isB s_0) <|
some s_0
def f_X12_isThere (M : Mm) (x1 : Int32) (x2 : Int32) (x3 : Int32) : Option Int32 :=
bd (f_X12_manAt x2 x3) fun p2 =>
ck (inn (x1 + p2) 840) <|
if (M.1 1 (x1 + p2).toNatClampNeg) = (1 : Int32) then
(f_X12_isThere_21 M (1 : Int32))
else
(f_X12_isThere_21 M (0 : Int32))
def f_X12_counts_83 (M : Mm) (s_0 : Int32) : Option Int32 :=
ck (isB s_0) <|
some s_0
def f_X12_counts_78 (M : Mm) : Option Int32 :=
f_X12_counts_83 M (1 : Int32)
def f_X12_counts_82 (M : Mm) : Option Int32 :=
f_X12_counts_83 M (0 : Int32)
def f_X12_counts (M : Mm) (x1 : Int32) (x2 : Int32) (x3 : Int32) : Option Int32 :=
bd (f_X12_manAt x2 x3) fun p2 =>
nm ((x1 + p2)) fun v3 =>
ck (inn v3 840) <|
if (M.1 1 v3.toNatClampNeg) = (1 : Int32) then
(ck (inn (v3 + (4 : Int32)) 840) <|
if (M.1 1 (v3 + (4 : Int32)).toNatClampNeg) < (M.1 3 (0 : Int32).toNatClampNeg) then
(f_X12_counts_82 M)
else
(ck (inn (v3 + (5 : Int32)) 840) <|
if (M.1 1 (v3 + (5 : Int32)).toNatClampNeg) < (M.1 3 (1 : Int32).toNatClampNeg) then
(f_X12_counts_82 M)
else
(if (M.1 3 (2 : Int32).toNatClampNeg) = 0 then
(f_X12_counts_78 M)
else
(ck (inn (v3 + (6 : Int32)) 840) <|
if (M.1 1 (v3 + (6 : Int32)).toNatClampNeg) = 0 then
(f_X12_counts_78 M)
else
(f_X12_counts_82 M)))))
else
(f_X12_counts_82 M)
def f_X12_furlong_20 (M : Mm) : Option Int32 :=
some (-1 : Int32)
def f_X12_furlong_111 (M : Mm) (s_0 : Int32) : Option Int32 :=
some s_0
def f_X12_furlong_52 (M : Mm) (x1 : Int32) (x2 : Int32) (s_0 : Int32) (s_1 : Int32) : Option Int32 :=
nm ((s_0 + s_1)) fun v1 =>
if x2 = 0 then
(ck (inn ((140 : Int32) + x1) 840) <|
f_X12_furlong_111 M (M.1 1 ((140 : Int32) + x1).toNatClampNeg))
else
(if x2 = (1 : Int32) then
(ck (inn ((150 : Int32) + x1) 840) <|
f_X12_furlong_111 M (M.1 1 ((150 : Int32) + x1).toNatClampNeg))
else
(if x2 = (2 : Int32) then
(ck (inn ((160 : Int32) + x1) 840) <|
f_X12_furlong_111 M ((100 : Int32) + (M.1 1 ((160 : Int32) + x1).toNatClampNeg)))
else
(f_X12_furlong_111 M v1)))
def f_X12_furlong_37 (M : Mm) (x1 : Int32) (x2 : Int32) (s_0 : Int32) : Option Int32 :=
bd (f_X12_counts M (0 : Int32) (1 : Int32) x1) fun p2 =>
if p2 = 0 then
(f_X12_furlong_52 M x1 x2 s_0 (0 : Int32))
else
(f_X12_furlong_52 M x1 x2 s_0 (2 : Int32))
def f_X12_furlong (M : Mm) (x1 : Int32) (x2 : Int32) : Option Int32 :=
bd (f_X12_isFurlong M x1) fun p2 =>
if p2 = 0 then
(f_X12_furlong_20 M)
else
(bd (f_X12_in x2.toInt64 (0 : Int64) (3 : Int64)) fun p5 =>
if p5 = 0 then
(f_X12_furlong_20 M)
else
(bd (f_X12_counts M (0 : Int32) (0 : Int32) x1) fun p8 =>
if p8 = 0 then
(f_X12_furlong_37 M x1 x2 (0 : Int32))
else
(f_X12_furlong_37 M x1 x2 (1 : Int32))))
def f_X12_man_27 (M : Mm) : Option Int32 :=
some (-1 : Int32)
def f_X12_man_72 (M : Mm) (s_0 : Int32) : Option Int32 :=
some s_0
def f_X12_man (M : Mm) (x1 : Int32) (x2 : Int32) (x3 : Int32) : Option Int32 :=
bd (f_X12_isSide x1) fun p2 =>
if p2 = 0 then
(f_X12_man_27 M)
else
(bd (f_X12_isFurlong M x2) fun p5 =>
if p5 = 0 then
(f_X12_man_27 M)
else
(bd (f_X12_in x3.toInt64 (0 : Int64) (5 : Int64)) fun p8 =>
if p8 = 0 then
(f_X12_man_27 M)
else
(bd (f_X12_isThere M (0 : Int32) x1 x2) fun p11 =>
if p11 = 0 then
(some (-4 : Int32))
else
(bd (f_X12_manAt x1 x2) fun p14 =>
ck (inn ((p14 + (1 : Int32)) + x3) 840) <|
nm ((M.1 1 ((p14 + (1 : Int32)) + x3).toNatClampNeg)) fun v16 =>
if x3 = (5 : Int32) then
(f_X12_man_72 M ((1 : Int32) - v16))
else
(f_X12_man_72 M v16)))))
def f_X12_brazier_50 (M : Mm) (s_0 : Int32) : Option Int32 :=
some s_0
def f_X12_brazier_49 (M : Mm) : Option Int32 :=
f_X12_brazier_50 M (-1 : Int32)
def f_X12_brazier (M : Mm) (x1 : Int32) (x2 : Int32) : Option Int32 :=
bd (f_X12_in x1.toInt64 (0 : Int64) (((M.1 1 (207 : Int32).toNatClampNeg) - (1 : Int32)).toInt64)) fun p2 =>
if p2 = 0 then
(f_X12_brazier_49 M)
else
(bd (f_X12_in x2.toInt64 (0 : Int64) (3 : Int64)) fun p5 =>
if p5 = 0 then
(f_X12_brazier_49 M)
else
(ck (inn (((183 : Int32) + ((4 : Int32) * x1)) + x2) 840) <|
f_X12_brazier_50 M (M.1 1 (((183 : Int32) + ((4 : Int32) * x1)) + x2).toNatClampNeg)))
def f_X12_houseOf_54 (M : Mm) (s_0 : Int32) : Option Int32 :=
some s_0
def f_X12_houseOf (M : Mm) (x1 : Int32) (x2 : Int32) : Option Int32 :=
ck (inn ((2 : Int32) * x2) 16) <|
ck (inn ((x1 + (160 : Int32)) + (M.1 4 ((2 : Int32) * x2).toNatClampNeg)) 840) <|
nm ((M.1 1 ((x1 + (160 : Int32)) + (M.1 4 ((2 : Int32) * x2).toNatClampNeg)).toNatClampNeg)) fun v3 =>
ck (inn (((2 : Int32) * x2) + (1 : Int32)) 16) <|
nm ((M.1 4 (((2 : Int32) * x2) + (1 : Int32)).toNatClampNeg)) fun v6 =>
if v3 ≤ v6 then
(if v6 ≤ v3 then
(f_X12_houseOf_54 M (-4 : Int32))
else
(f_X12_houseOf_54 M (1 : Int32)))
else
(f_X12_houseOf_54 M (0 : Int32))
-- SnowSentriesModel.in(JJJ)Z
set_option maxRecDepth 4000 in
theorem k_X12_in_18 {p : Program} {l : Launch} {e : Env} {s : State} {m : MethodId} {args : Array Value} {below : List Frame} {meth : Method} {c : Code} {G : GG} {s_0 : Int32} {M : Mm}  {r : Int32} (C : CX p s m args c prog_14_method_3_code 6 "SnowSentriesModel" 1 G) (hlk : meth.locks = false) (hr : meth.sig.returnType = (some .boolean)) : f_X12_in_18 s_0 = some r → Z p l e { frames := 0, cells := 0, slots := 0, locals := 0 } s m args below meth c 1 G 6 (MQ below (QC 1 G (some (.int r)) M) args s 0 0 (AU 1 G)) 18 [] [.int s_0] M := by
  intro h
  unfold f_X12_in_18 at h
  obtain ⟨q1, h⟩ := o_ck h
  obtain rfl := o_some h
  exact z_zret C hlk hr (isB_nar q1) d_X12_in_18
set_option maxRecDepth 4000 in
theorem k_X12_in_17 {p : Program} {l : Launch} {e : Env} {s : State} {m : MethodId} {args : Array Value} {below : List Frame} {meth : Method} {c : Code} {G : GG} {M : Mm}  {r : Int32} (C : CX p s m args c prog_14_method_3_code 6 "SnowSentriesModel" 1 G) (hlk : meth.locks = false) (hr : meth.sig.returnType = (some .boolean)) : f_X12_in_17 = some r → Z p l e { frames := 0, cells := 0, slots := 0, locals := 0 } s m args below meth c 1 G 6 (MQ below (QC 1 G (some (.int r)) M) args s 0 0 (AU 1 G)) 17 [] [] M := by
  intro h
  unfold f_X12_in_17 at h
  refine z_iconst (v := (0 : Int32)) C d_X12_in_17 (by decide) ?_
  exact z_sub [] rfl (k_X12_in_18 C hlk hr h)
set_option maxRecDepth 4000 in
theorem k_X12_in_0 {p : Program} {l : Launch} {e : Env} {s : State} {m : MethodId} {args : Array Value} {below : List Frame} {meth : Method} {c : Code} {G : GG} {j0 : Int64} {j2 : Int64} {j4 : Int64} {M : Mm}  {r : Int32} (C : CX p s m args c prog_14_method_3_code 6 "SnowSentriesModel" 1 G) (hlk : meth.locks = false) (hr : meth.sig.returnType = (some .boolean)) : f_X12_in j0 j2 j4 = some r → Z p l e { frames := 0, cells := 0, slots := 0, locals := 0 } s m args below meth c 1 G 6 (MQ below (QC 1 G (some (.int r)) M) args s 0 0 (AU 1 G)) 0 [(0, .long j0), (2, .long j2), (4, .long j4)] [] M := by
  intro h
  unfold f_X12_in at h
  refine z_lload_n 0 C d_X12_in_0 rfl rfl ?_
  refine z_lload_n 1 C d_X12_in_1 rfl rfl ?_
  refine z_lcmp C d_X12_in_2 ?_
  refine z_if_lt C d_X12_in_3 (fun q1 => ?_) (fun q1 => ?_)
  · have h := o_t q1 h
    exact z_sub [] rfl (k_X12_in_17 C hlk hr h)
  · have h := o_f q1 h
    refine z_lload_n 0 C d_X12_in_6 rfl rfl ?_
    refine z_lload 2 C d_X12_in_7 rfl ?_
    refine z_lcmp C d_X12_in_9 ?_
    refine z_if_gt C d_X12_in_10 (fun q2 => ?_) (fun q2 => ?_)
    · have h := o_t q2 h
      exact z_sub [] rfl (k_X12_in_17 C hlk hr h)
    · have h := o_f q2 h
      refine z_iconst (v := (1 : Int32)) C d_X12_in_13 (by decide) ?_
      refine z_goto C d_X12_in_14 ?_
      exact z_sub [] rfl (k_X12_in_18 C hlk hr h)
theorem c_X12_in (l : Launch) (G : GG) {j0 : Int64} {j2 : Int64} {j4 : Int64} {M : Mm} {r : Int32} (h : f_X12_in j0 j2 j4 = some r) : CT l 1 G y_X12_in prog_14_method_3_code 6 (some .boolean) 0 0 [.long j0, .long j2, .long j4] M (some (.int r)) M :=
  CT.of (by decide +kernel) (Nat.le_of_ble_eq_true rfl) rfl (fun p e s m args below meth c C hlk hr => k_X12_in_0 C hlk hr h)
-- SnowSentriesModel.feed(J)I
set_option maxRecDepth 4000 in
theorem kb_X12_feed_19 {p : Program} {l : Launch} {e : Env} {s : State} {m : MethodId} {args : Array Value} {below : List Frame} {meth : Method} {c : Code} {G : GG} {k19 : Mm → Int32 → Option (Int32 × Mm)} {j1 : Int64} {M : Mm} {x3 : Int32} {r : Int32} {M2 : Mm} (C : CX p s m args c prog_14_method_4_code 4 "SnowSentriesModel" 1 G) (hlk : meth.locks = false) (hr : meth.sig.returnType = (some .int)) (hk19 : ∀ (M : Mm) (x3 : Int32), k19 M x3 = some (r, M2) → Z p l e { frames := 0, cells := 0, slots := 0, locals := 0 } s m args below meth c 1 G 4 (MQ below (QC 1 G (some (.int r)) M2) args s 0 0 (AU 1 G)) 19 [(0, .ref (gB G + 0)), (1, .long j1), (3, .int x3)] [] M) : b_X12_feed_19 k19 j1 M x3 = some (r, M2) → Z p l e { frames := 0, cells := 0, slots := 0, locals := 0 } s m args below meth c 1 G 4 (MQ below (QC 1 G (some (.int r)) M2) args s 0 0 (AU 1 G)) 19 [(0, .ref (gB G + 0)), (1, .long j1), (3, .int x3)] [] M := by
  intro h
  unfold b_X12_feed_19 at h
  refine z_iload_n 2 C d_X12_feed_19 rfl rfl ?_
  refine z_if_lt C d_X12_feed_20 (fun q1 => ?_) (fun q1 => ?_)
  · have h := o_t q1 h
    refine z_aload_n 0 C d_X12_feed_56 rfl rfl ?_
    refine z_get (k := 17) (v := .int (M.1 0 17)) C (eY_0 _ _) (by decide) rfl inX12 (by decide) wf_X12_72 rfl d_X12_feed_57 ?_
    obtain ⟨rfl, rfl⟩ := o_pair h
    exact z_iret C hlk hr d_X12_feed_60
  · have h := o_f q1 h
    refine z_aload_n 0 C d_X12_feed_23 rfl rfl ?_
    refine z_get (k := 16) (v := .ref (gB G + 9)) C (eY_0 _ _) (by decide) rfl inX12 (by decide) wf_X12_41 rfl d_X12_feed_24 ?_
    refine z_aload_n 0 C d_X12_feed_27 rfl rfl ?_
    refine z_get (k := 17) (v := .int (M.1 0 17)) C (eY_0 _ _) (by decide) rfl inX12 (by decide) wf_X12_72 rfl d_X12_feed_28 ?_
    refine z_lload_n 1 C d_X12_feed_31 rfl rfl ?_
    refine z_iload_n 2 C d_X12_feed_32 rfl rfl ?_
    refine z_lshr C d_X12_feed_33 ?_
    refine z_l2i C d_X12_feed_34 ?_
    refine z_sipush (v := (255 : Int32)) C d_X12_feed_35 (by decide) ?_
    refine z_iand C d_X12_feed_38 ?_
    obtain ⟨q4, h⟩ := o_ck h
    obtain ⟨M2, e3, h⟩ := o_wr h
    refine z_ast (fun r q => eY_9 r q) C (by decide) q4 d_X12_feed_39 ?_
    refine z_nM e3 ?_
    refine z_aload_n 0 C d_X12_feed_40 rfl rfl ?_
    refine z_dup C d_X12_feed_41 rfl ?_
    refine z_get (k := 17) (v := .int (M2.1 0 17)) C (eY_0 _ _) (by decide) rfl inX12 (by decide) wf_X12_72 rfl d_X12_feed_42 ?_
    refine z_iconst (v := (1 : Int32)) C d_X12_feed_45 (by decide) ?_
    refine z_iadd C d_X12_feed_46 ?_
    obtain ⟨M5, e6, h⟩ := o_wr h
    refine z_pI (k := 17) (ty := .int) C (fun r q => eY_0 r q) (fun _ _ => rfl) (by decide) rfl inX12 tyX12 tyX12_ok nmX12 (by decide) wf_X12_72 rfl (by decide +kernel) rfl rfl (Nat.le_of_ble_eq_true rfl) d_X12_feed_47 ?_
    refine z_nM e6 ?_
    refine z_iinc (v := (-8 : Int32)) (L' := [(3, .int (x3 + (-8 : Int32))), (0, .ref (gB G + 0)), (1, .long j1)]) 2 C d_X12_feed_50 rfl (by decide) (by decide) rfl ?_
    refine z_goto C d_X12_feed_53 ?_
    exact z_sub [1, 2, 0] rfl (hk19 _ _  h)
theorem k_X12_feed_19 {p : Program} {l : Launch} {e : Env} {s : State} {m : MethodId} {args : Array Value} {below : List Frame} {meth : Method} {c : Code} {G : GG} {j1 : Int64} {r : Int32} {M2 : Mm} (C : CX p s m args c prog_14_method_4_code 4 "SnowSentriesModel" 1 G) (hlk : meth.locks = false) (hr : meth.sig.returnType = (some .int)) : ∀ (n : Nat) (M : Mm) (x3 : Int32), f_X12_feed_19 j1 n M x3 = some (r, M2) → Z p l e { frames := 0, cells := 0, slots := 0, locals := 0 } s m args below meth c 1 G 4 (MQ below (QC 1 G (some (.int r)) M2) args s 0 0 (AU 1 G)) 19 [(0, .ref (gB G + 0)), (1, .long j1), (3, .int x3)] [] M := by
  intro n
  induction n with
  | zero =>
    intro M x3  h
    exact absurd h (fun z => by cases z)
  | succ n ih =>
    intro M x3  h
    exact kb_X12_feed_19 C hlk hr  (fun M x3 h => ih M x3 h) h
set_option maxRecDepth 4000 in
theorem k_X12_feed_0 {p : Program} {l : Launch} {e : Env} {s : State} {m : MethodId} {args : Array Value} {below : List Frame} {meth : Method} {c : Code} {G : GG} {M : Mm} {j1 : Int64} {r : Int32} {M2 : Mm} (C : CX p s m args c prog_14_method_4_code 4 "SnowSentriesModel" 1 G) (hlk : meth.locks = false) (hr : meth.sig.returnType = (some .int)) : f_X12_feed M j1 = some (r, M2) → Z p l e { frames := 0, cells := 0, slots := 0, locals := 0 } s m args below meth c 1 G 4 (MQ below (QC 1 G (some (.int r)) M2) args s 0 0 (AU 1 G)) 0 [(0, .ref (gB G + 0)), (1, .long j1)] [] M := by
  intro h
  unfold f_X12_feed at h
  refine z_aload_n 0 C d_X12_feed_0 rfl rfl ?_
  refine z_get (k := 17) (v := .int (M.1 0 17)) C (eY_0 _ _) (by decide) rfl inX12 (by decide) wf_X12_72 rfl d_X12_feed_1 ?_
  refine z_bipush (v := (8 : Int32)) C d_X12_feed_4 (by decide) ?_
  refine z_iadd C d_X12_feed_6 ?_
  refine z_sipush (v := (400 : Int32)) C d_X12_feed_7 (by decide) ?_
  refine z_icmp_le C d_X12_feed_10 (fun q1 => ?_) (fun q1 => ?_)
  · have h := o_t q1 h
    refine z_bipush (v := (56 : Int32)) C d_X12_feed_16 (by decide) ?_
    refine z_istore_n (L' := [(3, .int (56 : Int32)), (0, .ref (gB G + 0)), (1, .long j1)]) C d_X12_feed_18 rfl (by decide) rfl ?_
    exact z_sub [1, 2, 0] rfl (k_X12_feed_19 C hlk hr _ _ _ h)
  · have h := o_f q1 h
    refine z_bipush (v := (-3 : Int32)) C d_X12_feed_13 (by decide) ?_
    obtain ⟨rfl, rfl⟩ := o_pair h
    exact z_iret C hlk hr d_X12_feed_15
theorem c_X12_feed (l : Launch) (G : GG) {M : Mm} {j1 : Int64} {r : Int32} {M2 : Mm} (h : f_X12_feed M j1 = some (r, M2)) : CT l 1 G y_X12_feed prog_14_method_4_code 4 (some .int) 0 0 [.ref (gB G + 0), .long j1] M (some (.int r)) M2 :=
  CT.of (by decide +kernel) (Nat.le_of_ble_eq_true rfl) rfl (fun p e s m args below meth c C hlk hr => k_X12_feed_0 C hlk hr h)
-- SnowSentriesModel.end(I)I
set_option maxRecDepth 4000 in
theorem k_X12_end_0 {p : Program} {l : Launch} {e : Env} {s : State} {m : MethodId} {args : Array Value} {below : List Frame} {meth : Method} {c : Code} {G : GG} {M : Mm} {x1 : Int32} {r : Int32} {M2 : Mm} (C : CX p s m args c prog_14_method_5_code 3 "SnowSentriesModel" 1 G) (hlk : meth.locks = false) (hr : meth.sig.returnType = (some .int)) : f_X12_end M x1 = some (r, M2) → Z p l e { frames := 1, cells := 0, slots := 0, locals := 25 } s m args below meth c 1 G 3 (MQ below (QC 1 G (some (.int r)) M2) args s 0 0 (AU 1 G)) 0 [(0, .ref (gB G + 0)), (1, .int x1)] [] M := by
  intro h
  unfold f_X12_end at h
  refine z_iload_n 1 C d_X12_end_0 rfl rfl ?_
  refine z_i2l C d_X12_end_1 ?_
  refine z_lconst (v := (0 : Int64)) C d_X12_end_2 (by decide) ?_
  refine z_aload_n 0 C d_X12_end_3 rfl rfl ?_
  refine z_get (k := 17) (v := .int (M.1 0 17)) C (eY_0 _ _) (by decide) rfl inX12 (by decide) wf_X12_72 rfl d_X12_end_4 ?_
  refine z_i2l C d_X12_end_7 ?_
  obtain ⟨p2, e1, h⟩ := o_bd h
  refine z_S (S := []) (As := [.long x1.toInt64, .long (0 : Int64), .long ((M.1 0 17).toInt64)]) C (c_X12_in l G (M := M) e1) wc_X12_in wm_X12_75 ws_X12_in wi_X12 hy_X12_in ⟨Nat.le_of_ble_eq_true rfl, Nat.le_of_ble_eq_true rfl⟩ rfl rfl (Nat.le_of_ble_eq_true rfl) d_X12_end_8 ?_
  refine z_if_ne C d_X12_end_11 (fun q3 => ?_) (fun q3 => ?_)
  · have h := o_f q3 h
    refine z_aload_n 0 C d_X12_end_16 rfl rfl ?_
    refine z_get (k := 17) (v := .int (M.1 0 17)) C (eY_0 _ _) (by decide) rfl inX12 (by decide) wf_X12_72 rfl d_X12_end_17 ?_
    obtain ⟨v4, e5, h⟩ := o_nm h
    refine z_nI e5 ?_
    refine z_istore_n (L' := [(2, .int v4), (0, .ref (gB G + 0)), (1, .int x1)]) C d_X12_end_20 rfl (by decide) rfl ?_
    refine z_aload_n 1 C d_X12_end_21 rfl rfl ?_
    refine z_iload_n 2 C d_X12_end_22 rfl rfl ?_
    obtain ⟨M6, e7, h⟩ := o_wr h
    refine z_pI (k := 17) (ty := .int) C (fun r q => eY_0 r q) (fun _ _ => rfl) (by decide) rfl inX12 tyX12 tyX12_ok nmX12 (by decide) wf_X12_72 rfl (by decide +kernel) rfl rfl (Nat.le_of_ble_eq_true rfl) d_X12_end_23 ?_
    refine z_nM e7 ?_
    refine z_iload_n 0 C d_X12_end_26 rfl rfl ?_
    obtain ⟨rfl, rfl⟩ := o_pair h
    exact z_iret C hlk hr d_X12_end_27
  · have h := o_t q3 h
    refine z_iconst (v := (-1 : Int32)) C d_X12_end_14 (by decide) ?_
    obtain ⟨rfl, rfl⟩ := o_pair h
    exact z_iret C hlk hr d_X12_end_15
theorem c_X12_end (l : Launch) (G : GG) {M : Mm} {x1 : Int32} {r : Int32} {M2 : Mm} (h : f_X12_end M x1 = some (r, M2)) : CT l 1 G y_X12_end prog_14_method_5_code 3 (some .int) 1 25 [.ref (gB G + 0), .int x1] M (some (.int r)) M2 :=
  CT.of (by decide +kernel) (Nat.le_of_ble_eq_true rfl) rfl (fun p e s m args below meth c C hlk hr => k_X12_end_0 C hlk hr h)
-- SnowSentriesModel.byteAt(I)I
set_option maxRecDepth 4000 in
theorem k_X12_byteAt_19 {p : Program} {l : Launch} {e : Env} {s : State} {m : MethodId} {args : Array Value} {below : List Frame} {meth : Method} {c : Code} {G : GG} {M : Mm} {s_0 : Int32} {r : Int32} (C : CX p s m args c prog_14_method_6_code 2 "SnowSentriesModel" 1 G) (hlk : meth.locks = false) (hr : meth.sig.returnType = (some .int)) : f_X12_byteAt_19 M s_0 = some r → Z p l e { frames := 0, cells := 0, slots := 0, locals := 0 } s m args below meth c 1 G 2 (MQ below (QC 1 G (some (.int r)) M) args s 0 0 (AU 1 G)) 19 [] [.int s_0] M := by
  intro h
  unfold f_X12_byteAt_19 at h
  obtain rfl := o_some h
  exact z_iret C hlk hr d_X12_byteAt_19
set_option maxRecDepth 4000 in
theorem k_X12_byteAt_0 {p : Program} {l : Launch} {e : Env} {s : State} {m : MethodId} {args : Array Value} {below : List Frame} {meth : Method} {c : Code} {G : GG} {M : Mm} {x1 : Int32} {r : Int32} (C : CX p s m args c prog_14_method_6_code 2 "SnowSentriesModel" 1 G) (hlk : meth.locks = false) (hr : meth.sig.returnType = (some .int)) : f_X12_byteAt M x1 = some r → Z p l e { frames := 0, cells := 0, slots := 0, locals := 0 } s m args below meth c 1 G 2 (MQ below (QC 1 G (some (.int r)) M) args s 0 0 (AU 1 G)) 0 [(0, .ref (gB G + 0)), (1, .int x1)] [] M := by
  intro h
  unfold f_X12_byteAt at h
  refine z_iload_n 1 C d_X12_byteAt_0 rfl rfl ?_
  refine z_aload_n 0 C d_X12_byteAt_1 rfl rfl ?_
  refine z_get (k := 17) (v := .int (M.1 0 17)) C (eY_0 _ _) (by decide) rfl inX12 (by decide) wf_X12_72 rfl d_X12_byteAt_2 ?_
  refine z_icmp_ge C d_X12_byteAt_5 (fun q1 => ?_) (fun q1 => ?_)
  · have h := o_t q1 h
    refine z_bipush (v := (-4 : Int32)) C d_X12_byteAt_17 (by decide) ?_
    exact z_sub [] rfl (k_X12_byteAt_19 C hlk hr h)
  · have h := o_f q1 h
    refine z_aload_n 0 C d_X12_byteAt_8 rfl rfl ?_
    refine z_get (k := 16) (v := .ref (gB G + 9)) C (eY_0 _ _) (by decide) rfl inX12 (by decide) wf_X12_41 rfl d_X12_byteAt_9 ?_
    refine z_iload_n 1 C d_X12_byteAt_12 rfl rfl ?_
    obtain ⟨q2, h⟩ := o_ck h
    refine z_ald (eY_9 _ _) C (by decide) q2 d_X12_byteAt_13 ?_
    refine z_goto C d_X12_byteAt_14 ?_
    exact z_sub [] rfl (k_X12_byteAt_19 C hlk hr h)
theorem c_X12_byteAt (l : Launch) (G : GG) {M : Mm} {x1 : Int32} {r : Int32} (h : f_X12_byteAt M x1 = some r) : CT l 1 G y_X12_byteAt prog_14_method_6_code 2 (some .int) 0 0 [.ref (gB G + 0), .int x1] M (some (.int r)) M :=
  CT.of (by decide +kernel) (Nat.le_of_ble_eq_true rfl) rfl (fun p e s m args below meth c C hlk hr => k_X12_byteAt_0 C hlk hr h)
-- SnowSentriesModel.fails(I)V
set_option maxRecDepth 4000 in
theorem k_X12_fails_20 {p : Program} {l : Launch} {e : Env} {s : State} {m : MethodId} {args : Array Value} {below : List Frame} {meth : Method} {c : Code} {G : GG} {M : Mm} {M2 : Mm} (C : CX p s m args c prog_14_method_7_code 2 "SnowSentriesModel" 1 G) (hlk : meth.locks = false) (hr : meth.sig.returnType = none) : f_X12_fails_20 M = some M2 → Z p l e { frames := 0, cells := 0, slots := 0, locals := 0 } s m args below meth c 1 G 2 (MQ below (QC 1 G none M2) args s 0 0 (AU 1 G)) 20 [] [] M := by
  intro h
  unfold f_X12_fails_20 at h
  obtain rfl := o_some h
  exact z_vret C hlk hr d_X12_fails_20
set_option maxRecDepth 4000 in
theorem k_X12_fails_0 {p : Program} {l : Launch} {e : Env} {s : State} {m : MethodId} {args : Array Value} {below : List Frame} {meth : Method} {c : Code} {G : GG} {M : Mm} {x1 : Int32} {M2 : Mm} (C : CX p s m args c prog_14_method_7_code 2 "SnowSentriesModel" 1 G) (hlk : meth.locks = false) (hr : meth.sig.returnType = none) : f_X12_fails M x1 = some M2 → Z p l e { frames := 0, cells := 0, slots := 0, locals := 0 } s m args below meth c 1 G 2 (MQ below (QC 1 G none M2) args s 0 0 (AU 1 G)) 0 [(0, .ref (gB G + 0)), (1, .int x1)] [] M := by
  intro h
  unfold f_X12_fails at h
  refine z_aload_n 0 C d_X12_fails_0 rfl rfl ?_
  refine z_get (k := 19) (v := .int (M.1 0 19)) C (eY_0 _ _) (by decide) rfl inX12 (by decide) wf_X12_79 rfl d_X12_fails_1 ?_
  refine z_if_ne C d_X12_fails_4 (fun q1 => ?_) (fun q1 => ?_)
  · have h := o_f q1 h
    exact z_sub [] rfl (k_X12_fails_20 C hlk hr h)
  · have h := o_t q1 h
    refine z_aload_n 0 C d_X12_fails_7 rfl rfl ?_
    refine z_iload_n 1 C d_X12_fails_8 rfl rfl ?_
    obtain ⟨M2, e3, h⟩ := o_wr h
    refine z_pI (k := 19) (ty := .int) C (fun r q => eY_0 r q) (fun _ _ => rfl) (by decide) rfl inX12 tyX12 tyX12_ok nmX12 (by decide) wf_X12_79 rfl (by decide +kernel) rfl rfl (Nat.le_of_ble_eq_true rfl) d_X12_fails_9 ?_
    refine z_nM e3 ?_
    refine z_aload_n 0 C d_X12_fails_12 rfl rfl ?_
    refine z_aload_n 0 C d_X12_fails_13 rfl rfl ?_
    refine z_get (k := 22) (v := .int (M2.1 0 22)) C (eY_0 _ _) (by decide) rfl inX12 (by decide) wf_X12_82 rfl d_X12_fails_14 ?_
    obtain ⟨M4, e5, h⟩ := o_wr h
    refine z_pI (k := 20) (ty := .int) C (fun r q => eY_0 r q) (fun _ _ => rfl) (by decide) rfl inX12 tyX12 tyX12_ok nmX12 (by decide) wf_X12_85 rfl (by decide +kernel) rfl rfl (Nat.le_of_ble_eq_true rfl) d_X12_fails_17 ?_
    refine z_nM e5 ?_
    exact z_sub [] rfl (k_X12_fails_20 C hlk hr h)
theorem c_X12_fails (l : Launch) (G : GG) {M : Mm} {x1 : Int32} {M2 : Mm} (h : f_X12_fails M x1 = some M2) : CT l 1 G y_X12_fails prog_14_method_7_code 2 none 0 0 [.ref (gB G + 0), .int x1] M none M2 :=
  CT.of (by decide +kernel) (Nat.le_of_ble_eq_true rfl) rfl (fun p e s m args below meth c C hlk hr => k_X12_fails_0 C hlk hr h)
-- SnowSentriesModel.nameHere()I
set_option maxRecDepth 4000 in
theorem k_X12_nameHere_99 {p : Program} {l : Launch} {e : Env} {s : State} {m : MethodId} {args : Array Value} {below : List Frame} {meth : Method} {c : Code} {G : GG} {k2 : Int32 → Option Int32} {k51 : Int32 → Int32 → Option Int32} {M : Mm} {x1 : Int32} {x3 : Int32} {s_0 : Int32} {r : Int32} (C : CX p s m args c prog_14_method_8_code 4 "SnowSentriesModel" 1 G) (hlk : meth.locks = false) (hr : meth.sig.returnType = (some .int)) (hk2 : ∀ (x1 : Int32), k2 x1 = some r → Z p l e { frames := 1, cells := 0, slots := 0, locals := 21 } s m args below meth c 1 G 4 (MQ below (QC 1 G (some (.int r)) M) args s 0 0 (AU 1 G)) 2 [(0, .ref (gB G + 0)), (1, .int x1)] [] M) (hk51 : ∀ (x2 : Int32) (x3 : Int32), k51 x2 x3 = some r → Z p l e { frames := 1, cells := 0, slots := 0, locals := 21 } s m args below meth c 1 G 4 (MQ below (QC 1 G (some (.int r)) M) args s 0 0 (AU 1 G)) 51 [(0, .ref (gB G + 0)), (1, .int x1), (2, .int x2), (3, .int x3)] [] M) : f_X12_nameHere_99 k2 k51 M x1 x3 s_0 = some r → Z p l e { frames := 1, cells := 0, slots := 0, locals := 21 } s m args below meth c 1 G 4 (MQ below (QC 1 G (some (.int r)) M) args s 0 0 (AU 1 G)) 99 [(0, .ref (gB G + 0)), (1, .int x1), (3, .int x3)] [.int s_0] M := by
  intro h
  unfold f_X12_nameHere_99 at h
  refine z_istore_n (L' := [(2, .int s_0), (0, .ref (gB G + 0)), (1, .int x1), (3, .int x3)]) C d_X12_nameHere_99 rfl (by decide) rfl ?_
  refine z_iinc (v := (1 : Int32)) (L' := [(3, .int (x3 + (1 : Int32))), (2, .int s_0), (0, .ref (gB G + 0)), (1, .int x1)]) 3 C d_X12_nameHere_100 rfl (by decide) (by decide) rfl ?_
  refine z_goto C d_X12_nameHere_103 ?_
  exact z_sub [2, 3, 1, 0] rfl (hk51 _ _  h)
set_option maxRecDepth 4000 in
theorem k_X12_nameHere_106 {p : Program} {l : Launch} {e : Env} {s : State} {m : MethodId} {args : Array Value} {below : List Frame} {meth : Method} {c : Code} {G : GG} {k2 : Int32 → Option Int32} {M : Mm} {x1 : Int32} {x2 : Int32} {r : Int32} (C : CX p s m args c prog_14_method_8_code 4 "SnowSentriesModel" 1 G) (hlk : meth.locks = false) (hr : meth.sig.returnType = (some .int)) (hk2 : ∀ (x1 : Int32), k2 x1 = some r → Z p l e { frames := 1, cells := 0, slots := 0, locals := 21 } s m args below meth c 1 G 4 (MQ below (QC 1 G (some (.int r)) M) args s 0 0 (AU 1 G)) 2 [(0, .ref (gB G + 0)), (1, .int x1)] [] M) : f_X12_nameHere_106 k2 M x1 x2 = some r → Z p l e { frames := 1, cells := 0, slots := 0, locals := 21 } s m args below meth c 1 G 4 (MQ below (QC 1 G (some (.int r)) M) args s 0 0 (AU 1 G)) 106 [(0, .ref (gB G + 0)), (1, .int x1), (2, .int x2)] [] M := by
  intro h
  unfold f_X12_nameHere_106 at h
  refine z_iload_n 2 C d_X12_nameHere_106 rfl rfl ?_
  refine z_if_eq C d_X12_nameHere_107 (fun q1 => ?_) (fun q1 => ?_)
  · have h := o_t q1 h
    refine z_iinc (v := (1 : Int32)) (L' := [(1, .int (x1 + (1 : Int32))), (0, .ref (gB G + 0)), (2, .int x2)]) 1 C d_X12_nameHere_112 rfl (by decide) (by decide) rfl ?_
    refine z_goto C d_X12_nameHere_115 ?_
    exact z_sub [1, 0] rfl (hk2 _  h)
  · have h := o_f q1 h
    refine z_iload_n 1 C d_X12_nameHere_110 rfl rfl ?_
    obtain rfl := o_some h
    exact z_iret C hlk hr d_X12_nameHere_111
set_option maxRecDepth 4000 in
theorem kb_X12_nameHere_51 {p : Program} {l : Launch} {e : Env} {s : State} {m : MethodId} {args : Array Value} {below : List Frame} {meth : Method} {c : Code} {G : GG} {k2 : Int32 → Option Int32} {k51 : Int32 → Int32 → Option Int32} {M : Mm} {x1 : Int32} {x2 : Int32} {x3 : Int32} {r : Int32} (C : CX p s m args c prog_14_method_8_code 4 "SnowSentriesModel" 1 G) (hlk : meth.locks = false) (hr : meth.sig.returnType = (some .int)) (hk2 : ∀ (x1 : Int32), k2 x1 = some r → Z p l e { frames := 1, cells := 0, slots := 0, locals := 21 } s m args below meth c 1 G 4 (MQ below (QC 1 G (some (.int r)) M) args s 0 0 (AU 1 G)) 2 [(0, .ref (gB G + 0)), (1, .int x1)] [] M) (hk51 : ∀ (x2 : Int32) (x3 : Int32), k51 x2 x3 = some r → Z p l e { frames := 1, cells := 0, slots := 0, locals := 21 } s m args below meth c 1 G 4 (MQ below (QC 1 G (some (.int r)) M) args s 0 0 (AU 1 G)) 51 [(0, .ref (gB G + 0)), (1, .int x1), (2, .int x2), (3, .int x3)] [] M) : b_X12_nameHere_51 k2 k51 M x1 x2 x3 = some r → Z p l e { frames := 1, cells := 0, slots := 0, locals := 21 } s m args below meth c 1 G 4 (MQ below (QC 1 G (some (.int r)) M) args s 0 0 (AU 1 G)) 51 [(0, .ref (gB G + 0)), (1, .int x1), (2, .int x2), (3, .int x3)] [] M := by
  intro h
  unfold b_X12_nameHere_51 at h
  refine z_iload_n 2 C d_X12_nameHere_51 rfl rfl ?_
  refine z_if_eq C d_X12_nameHere_52 (fun q1 => ?_) (fun q1 => ?_)
  · have h := o_t q1 h
    exact z_sub [0, 1, 2] rfl (k_X12_nameHere_106 C hlk hr hk2 h)
  · have h := o_f q1 h
    refine z_iload_n 3 C d_X12_nameHere_55 rfl rfl ?_
    refine z_aload_n 0 C d_X12_nameHere_56 rfl rfl ?_
    refine z_get (k := 21) (v := .int (M.1 0 21)) C (eY_0 _ _) (by decide) rfl inX12 (by decide) wf_X12_91 rfl d_X12_nameHere_57 ?_
    refine z_aload_n 0 C d_X12_nameHere_60 rfl rfl ?_
    refine z_get (k := 22) (v := .int (M.1 0 22)) C (eY_0 _ _) (by decide) rfl inX12 (by decide) wf_X12_82 rfl d_X12_nameHere_61 ?_
    refine z_isub C d_X12_nameHere_64 ?_
    refine z_icmp_ge C d_X12_nameHere_65 (fun q2 => ?_) (fun q2 => ?_)
    · have h := o_t q2 h
      exact z_sub [0, 1, 2] rfl (k_X12_nameHere_106 C hlk hr hk2 h)
    · have h := o_f q2 h
      refine z_aload_n 0 C d_X12_nameHere_68 rfl rfl ?_
      refine z_aload_n 0 C d_X12_nameHere_69 rfl rfl ?_
      refine z_get (k := 22) (v := .int (M.1 0 22)) C (eY_0 _ _) (by decide) rfl inX12 (by decide) wf_X12_82 rfl d_X12_nameHere_70 ?_
      refine z_iload_n 3 C d_X12_nameHere_73 rfl rfl ?_
      refine z_iadd C d_X12_nameHere_74 ?_
      obtain ⟨p4, e3, h⟩ := o_bd h
      refine z_V (S := []) (As := [.int ((M.1 0 22) + x3)]) C (c_X12_byteAt l G e3) (eY_0 _ _) (by decide) rfl wc_X12_byteAt wm_X12_94 ws_X12_byteAt wl_X12_byteAt wi_X12 hy_X12_byteAt ⟨Nat.le_of_ble_eq_true rfl, Nat.le_of_ble_eq_true rfl⟩ rfl rfl (Nat.le_of_ble_eq_true rfl) d_X12_nameHere_75 ?_
      refine z_aload_n 0 C d_X12_nameHere_78 rfl rfl ?_
      refine z_get (k := 26) (v := .ref (gB G + 11)) C (eY_0 _ _) (by decide) rfl inX12 (by decide) wf_X12_47 rfl d_X12_nameHere_79 ?_
      refine z_aload_n 0 C d_X12_nameHere_82 rfl rfl ?_
      refine z_get (k := 25) (v := .ref (gB G + 10)) C (eY_0 _ _) (by decide) rfl inX12 (by decide) wf_X12_44 rfl d_X12_nameHere_83 ?_
      refine z_iload_n 1 C d_X12_nameHere_86 rfl rfl ?_
      obtain ⟨q5, h⟩ := o_ck h
      refine z_ald (eY_10 _ _) C (by decide) q5 d_X12_nameHere_87 ?_
      refine z_iload_n 3 C d_X12_nameHere_88 rfl rfl ?_
      refine z_iadd C d_X12_nameHere_89 ?_
      obtain ⟨q6, h⟩ := o_ck h
      refine z_ald (eY_11 _ _) C (by decide) q6 d_X12_nameHere_90 ?_
      refine z_icmp_ne C d_X12_nameHere_91 (fun q7 => ?_) (fun q7 => ?_)
      · have h := o_f q7 h
        refine z_iconst (v := (0 : Int32)) C d_X12_nameHere_98 (by decide) ?_
        exact z_sub [0, 1, 3] rfl (k_X12_nameHere_99 C hlk hr hk2 hk51 h)
      · have h := o_t q7 h
        refine z_iconst (v := (1 : Int32)) C d_X12_nameHere_94 (by decide) ?_
        refine z_goto C d_X12_nameHere_95 ?_
        exact z_sub [0, 1, 3] rfl (k_X12_nameHere_99 C hlk hr hk2 hk51 h)
theorem k_X12_nameHere_51 {p : Program} {l : Launch} {e : Env} {s : State} {m : MethodId} {args : Array Value} {below : List Frame} {meth : Method} {c : Code} {G : GG} {k2 : Int32 → Option Int32} {M : Mm} {x1 : Int32} {r : Int32} (C : CX p s m args c prog_14_method_8_code 4 "SnowSentriesModel" 1 G) (hlk : meth.locks = false) (hr : meth.sig.returnType = (some .int)) (hk2 : ∀ (x1 : Int32), k2 x1 = some r → Z p l e { frames := 1, cells := 0, slots := 0, locals := 21 } s m args below meth c 1 G 4 (MQ below (QC 1 G (some (.int r)) M) args s 0 0 (AU 1 G)) 2 [(0, .ref (gB G + 0)), (1, .int x1)] [] M) : ∀ (n : Nat) (x2 : Int32) (x3 : Int32), f_X12_nameHere_51 k2 M x1 n x2 x3 = some r → Z p l e { frames := 1, cells := 0, slots := 0, locals := 21 } s m args below meth c 1 G 4 (MQ below (QC 1 G (some (.int r)) M) args s 0 0 (AU 1 G)) 51 [(0, .ref (gB G + 0)), (1, .int x1), (2, .int x2), (3, .int x3)] [] M := by
  intro n
  induction n with
  | zero =>
    intro x2 x3  h
    exact absurd h (fun z => by cases z)
  | succ n ih =>
    intro x2 x3  h
    exact kb_X12_nameHere_51 C hlk hr hk2 (fun x2 x3 h => ih x2 x3 h) h
set_option maxRecDepth 4000 in
theorem k_X12_nameHere_48 {p : Program} {l : Launch} {e : Env} {s : State} {m : MethodId} {args : Array Value} {below : List Frame} {meth : Method} {c : Code} {G : GG} {k2 : Int32 → Option Int32} {M : Mm} {x1 : Int32} {s_0 : Int32} {r : Int32} (C : CX p s m args c prog_14_method_8_code 4 "SnowSentriesModel" 1 G) (hlk : meth.locks = false) (hr : meth.sig.returnType = (some .int)) (hk2 : ∀ (x1 : Int32), k2 x1 = some r → Z p l e { frames := 1, cells := 0, slots := 0, locals := 21 } s m args below meth c 1 G 4 (MQ below (QC 1 G (some (.int r)) M) args s 0 0 (AU 1 G)) 2 [(0, .ref (gB G + 0)), (1, .int x1)] [] M) : f_X12_nameHere_48 k2 M x1 s_0 = some r → Z p l e { frames := 1, cells := 0, slots := 0, locals := 21 } s m args below meth c 1 G 4 (MQ below (QC 1 G (some (.int r)) M) args s 0 0 (AU 1 G)) 48 [(0, .ref (gB G + 0)), (1, .int x1)] [.int s_0] M := by
  intro h
  unfold f_X12_nameHere_48 at h
  refine z_istore_n (L' := [(2, .int s_0), (0, .ref (gB G + 0)), (1, .int x1)]) C d_X12_nameHere_48 rfl (by decide) rfl ?_
  refine z_iconst (v := (0 : Int32)) C d_X12_nameHere_49 (by decide) ?_
  refine z_istore_n (L' := [(3, .int (0 : Int32)), (2, .int s_0), (0, .ref (gB G + 0)), (1, .int x1)]) C d_X12_nameHere_50 rfl (by decide) rfl ?_
  exact z_sub [2, 3, 1, 0] rfl (k_X12_nameHere_51 C hlk hr hk2 _ _ _ h)
set_option maxRecDepth 4000 in
theorem k_X12_nameHere_118 {p : Program} {l : Launch} {e : Env} {s : State} {m : MethodId} {args : Array Value} {below : List Frame} {meth : Method} {c : Code} {G : GG} {M : Mm} {r : Int32} (C : CX p s m args c prog_14_method_8_code 4 "SnowSentriesModel" 1 G) (hlk : meth.locks = false) (hr : meth.sig.returnType = (some .int)) : f_X12_nameHere_118 M = some r → Z p l e { frames := 1, cells := 0, slots := 0, locals := 21 } s m args below meth c 1 G 4 (MQ below (QC 1 G (some (.int r)) M) args s 0 0 (AU 1 G)) 118 [] [] M := by
  intro h
  unfold f_X12_nameHere_118 at h
  refine z_bipush (v := (-4 : Int32)) C d_X12_nameHere_118 (by decide) ?_
  obtain rfl := o_some h
  exact z_iret C hlk hr d_X12_nameHere_120
set_option maxRecDepth 4000 in
theorem kb_X12_nameHere_2 {p : Program} {l : Launch} {e : Env} {s : State} {m : MethodId} {args : Array Value} {below : List Frame} {meth : Method} {c : Code} {G : GG} {k2 : Int32 → Option Int32} {M : Mm} {x1 : Int32} {r : Int32} (C : CX p s m args c prog_14_method_8_code 4 "SnowSentriesModel" 1 G) (hlk : meth.locks = false) (hr : meth.sig.returnType = (some .int)) (hk2 : ∀ (x1 : Int32), k2 x1 = some r → Z p l e { frames := 1, cells := 0, slots := 0, locals := 21 } s m args below meth c 1 G 4 (MQ below (QC 1 G (some (.int r)) M) args s 0 0 (AU 1 G)) 2 [(0, .ref (gB G + 0)), (1, .int x1)] [] M) : b_X12_nameHere_2 k2 M x1 = some r → Z p l e { frames := 1, cells := 0, slots := 0, locals := 21 } s m args below meth c 1 G 4 (MQ below (QC 1 G (some (.int r)) M) args s 0 0 (AU 1 G)) 2 [(0, .ref (gB G + 0)), (1, .int x1)] [] M := by
  intro h
  unfold b_X12_nameHere_2 at h
  refine z_iload_n 1 C d_X12_nameHere_2 rfl rfl ?_
  refine z_bipush (v := (16 : Int32)) C d_X12_nameHere_3 (by decide) ?_
  refine z_icmp_ge C d_X12_nameHere_5 (fun q1 => ?_) (fun q1 => ?_)
  · have h := o_t q1 h
    exact z_sub [] rfl (k_X12_nameHere_118 C hlk hr h)
  · have h := o_f q1 h
    refine z_aload_n 0 C d_X12_nameHere_8 rfl rfl ?_
    refine z_get (k := 23) (v := .int (M.1 0 23)) C (eY_0 _ _) (by decide) rfl inX12 (by decide) wf_X12_88 rfl d_X12_nameHere_9 ?_
    refine z_iconst (v := (1 : Int32)) C d_X12_nameHere_12 (by decide) ?_
    refine z_icmp_ne C d_X12_nameHere_13 (fun q2 => ?_) (fun q2 => ?_)
    · have h := o_f q2 h
      exact z_sub [] rfl (k_X12_nameHere_118 C hlk hr h)
    · have h := o_t q2 h
      refine z_aload_n 0 C d_X12_nameHere_16 rfl rfl ?_
      refine z_get (k := 21) (v := .int (M.1 0 21)) C (eY_0 _ _) (by decide) rfl inX12 (by decide) wf_X12_91 rfl d_X12_nameHere_17 ?_
      refine z_aload_n 0 C d_X12_nameHere_20 rfl rfl ?_
      refine z_get (k := 22) (v := .int (M.1 0 22)) C (eY_0 _ _) (by decide) rfl inX12 (by decide) wf_X12_82 rfl d_X12_nameHere_21 ?_
      refine z_isub C d_X12_nameHere_24 ?_
      refine z_aload_n 0 C d_X12_nameHere_25 rfl rfl ?_
      refine z_get (k := 25) (v := .ref (gB G + 10)) C (eY_0 _ _) (by decide) rfl inX12 (by decide) wf_X12_44 rfl d_X12_nameHere_26 ?_
      refine z_iload_n 1 C d_X12_nameHere_29 rfl rfl ?_
      refine z_iconst (v := (1 : Int32)) C d_X12_nameHere_30 (by decide) ?_
      refine z_iadd C d_X12_nameHere_31 ?_
      obtain ⟨q3, h⟩ := o_ck h
      refine z_ald (eY_10 _ _) C (by decide) q3 d_X12_nameHere_32 ?_
      refine z_aload_n 0 C d_X12_nameHere_33 rfl rfl ?_
      refine z_get (k := 25) (v := .ref (gB G + 10)) C (eY_0 _ _) (by decide) rfl inX12 (by decide) wf_X12_44 rfl d_X12_nameHere_34 ?_
      refine z_iload_n 1 C d_X12_nameHere_37 rfl rfl ?_
      obtain ⟨q4, h⟩ := o_ck h
      refine z_ald (eY_10 _ _) C (by decide) q4 d_X12_nameHere_38 ?_
      refine z_isub C d_X12_nameHere_39 ?_
      refine z_icmp_ne C d_X12_nameHere_40 (fun q5 => ?_) (fun q5 => ?_)
      · have h := o_f q5 h
        refine z_iconst (v := (0 : Int32)) C d_X12_nameHere_47 (by decide) ?_
        exact z_sub [0, 1] rfl (k_X12_nameHere_48 C hlk hr hk2 h)
      · have h := o_t q5 h
        refine z_iconst (v := (1 : Int32)) C d_X12_nameHere_43 (by decide) ?_
        refine z_goto C d_X12_nameHere_44 ?_
        exact z_sub [0, 1] rfl (k_X12_nameHere_48 C hlk hr hk2 h)
theorem k_X12_nameHere_2 {p : Program} {l : Launch} {e : Env} {s : State} {m : MethodId} {args : Array Value} {below : List Frame} {meth : Method} {c : Code} {G : GG} {M : Mm} {r : Int32} (C : CX p s m args c prog_14_method_8_code 4 "SnowSentriesModel" 1 G) (hlk : meth.locks = false) (hr : meth.sig.returnType = (some .int)) : ∀ (n : Nat) (x1 : Int32), f_X12_nameHere_2 M n x1 = some r → Z p l e { frames := 1, cells := 0, slots := 0, locals := 21 } s m args below meth c 1 G 4 (MQ below (QC 1 G (some (.int r)) M) args s 0 0 (AU 1 G)) 2 [(0, .ref (gB G + 0)), (1, .int x1)] [] M := by
  intro n
  induction n with
  | zero =>
    intro x1  h
    exact absurd h (fun z => by cases z)
  | succ n ih =>
    intro x1  h
    exact kb_X12_nameHere_2 C hlk hr  (fun x1 h => ih x1 h) h
set_option maxRecDepth 4000 in
theorem k_X12_nameHere_0 {p : Program} {l : Launch} {e : Env} {s : State} {m : MethodId} {args : Array Value} {below : List Frame} {meth : Method} {c : Code} {G : GG} {M : Mm} {r : Int32} (C : CX p s m args c prog_14_method_8_code 4 "SnowSentriesModel" 1 G) (hlk : meth.locks = false) (hr : meth.sig.returnType = (some .int)) : f_X12_nameHere M = some r → Z p l e { frames := 1, cells := 0, slots := 0, locals := 21 } s m args below meth c 1 G 4 (MQ below (QC 1 G (some (.int r)) M) args s 0 0 (AU 1 G)) 0 [(0, .ref (gB G + 0))] [] M := by
  intro h
  unfold f_X12_nameHere at h
  refine z_iconst (v := (0 : Int32)) C d_X12_nameHere_0 (by decide) ?_
  refine z_istore_n (L' := [(1, .int (0 : Int32)), (0, .ref (gB G + 0))]) C d_X12_nameHere_1 rfl (by decide) rfl ?_
  exact z_sub [1, 0] rfl (k_X12_nameHere_2 C hlk hr _ _ h)
theorem c_X12_nameHere (l : Launch) (G : GG) {M : Mm} {r : Int32} (h : f_X12_nameHere M = some r) : CT l 1 G y_X12_nameHere prog_14_method_8_code 4 (some .int) 1 21 [.ref (gB G + 0)] M (some (.int r)) M :=
  CT.of (by decide +kernel) (Nat.le_of_ble_eq_true rfl) rfl (fun p e s m args below meth c C hlk hr => k_X12_nameHere_0 C hlk hr h)
-- SnowSentriesModel.step()V
set_option maxRecDepth 4000 in
theorem k_X12_step_269 {p : Program} {l : Launch} {e : Env} {s : State} {m : MethodId} {args : Array Value} {below : List Frame} {meth : Method} {c : Code} {G : GG} {M : Mm} {M2 : Mm} (C : CX p s m args c prog_14_method_9_code 2 "SnowSentriesModel" 1 G) (hlk : meth.locks = false) (hr : meth.sig.returnType = none) : f_X12_step_269 M = some M2 → Z p l e { frames := 1, cells := 0, slots := 0, locals := 25 } s m args below meth c 1 G 2 (MQ below (QC 1 G none M2) args s 0 0 (AU 1 G)) 269 [] [] M := by
  intro h
  unfold f_X12_step_269 at h
  obtain rfl := o_some h
  exact z_vret C hlk hr d_X12_step_269
set_option maxRecDepth 4000 in
theorem k_X12_step_118 {p : Program} {l : Launch} {e : Env} {s : State} {m : MethodId} {args : Array Value} {below : List Frame} {meth : Method} {c : Code} {G : GG} {M : Mm} {M2 : Mm} (C : CX p s m args c prog_14_method_9_code 2 "SnowSentriesModel" 1 G) (hlk : meth.locks = false) (hr : meth.sig.returnType = none) : f_X12_step_118 M = some M2 → Z p l e { frames := 1, cells := 0, slots := 0, locals := 25 } s m args below meth c 1 G 2 (MQ below (QC 1 G none M2) args s 0 0 (AU 1 G)) 118 [(0, .ref (gB G + 0))] [] M := by
  intro h
  unfold f_X12_step_118 at h
  refine z_aload_n 0 C d_X12_step_118 rfl rfl ?_
  refine z_iconst (v := (1 : Int32)) C d_X12_step_119 (by decide) ?_
  obtain ⟨M1, e2, h⟩ := o_wr h
  refine z_pI (k := 23) (ty := .int) C (fun r q => eY_0 r q) (fun _ _ => rfl) (by decide) rfl inX12 tyX12 tyX12_ok nmX12 (by decide) wf_X12_88 rfl (by decide +kernel) rfl rfl (Nat.le_of_ble_eq_true rfl) d_X12_step_120 ?_
  refine z_nM e2 ?_
  refine z_goto C d_X12_step_123 ?_
  exact z_sub [] rfl (k_X12_step_269 C hlk hr h)
set_option maxRecDepth 4000 in
theorem kb_X12_step_84 {p : Program} {l : Launch} {e : Env} {s : State} {m : MethodId} {args : Array Value} {below : List Frame} {meth : Method} {c : Code} {G : GG} {k84 : Mm → Option Mm} {M : Mm} {M2 : Mm} (C : CX p s m args c prog_14_method_9_code 2 "SnowSentriesModel" 1 G) (hlk : meth.locks = false) (hr : meth.sig.returnType = none) (hk84 : ∀ (M : Mm), k84 M = some M2 → Z p l e { frames := 1, cells := 0, slots := 0, locals := 25 } s m args below meth c 1 G 2 (MQ below (QC 1 G none M2) args s 0 0 (AU 1 G)) 84 [(0, .ref (gB G + 0))] [] M) : b_X12_step_84 k84 M = some M2 → Z p l e { frames := 1, cells := 0, slots := 0, locals := 25 } s m args below meth c 1 G 2 (MQ below (QC 1 G none M2) args s 0 0 (AU 1 G)) 84 [(0, .ref (gB G + 0))] [] M := by
  intro h
  unfold b_X12_step_84 at h
  refine z_aload_n 0 C d_X12_step_84 rfl rfl ?_
  refine z_aload_n 0 C d_X12_step_85 rfl rfl ?_
  refine z_get (k := 21) (v := .int (M.1 0 21)) C (eY_0 _ _) (by decide) rfl inX12 (by decide) wf_X12_91 rfl d_X12_step_86 ?_
  obtain ⟨p2, e1, h⟩ := o_bd h
  refine z_V (S := []) (As := [.int (M.1 0 21)]) C (c_X12_byteAt l G e1) (eY_0 _ _) (by decide) rfl wc_X12_byteAt wm_X12_94 ws_X12_byteAt wl_X12_byteAt wi_X12 hy_X12_byteAt ⟨Nat.le_of_ble_eq_true rfl, Nat.le_of_ble_eq_true rfl⟩ rfl rfl (Nat.le_of_ble_eq_true rfl) d_X12_step_89 ?_
  refine z_i2l C d_X12_step_92 ?_
  refine z_ldc2 (v := (97 : Int64)) C wk_X12_101 d_X12_step_93 ?_
  refine z_ldc2 (v := (122 : Int64)) C wk_X12_103 d_X12_step_96 ?_
  obtain ⟨p4, e3, h⟩ := o_bd h
  refine z_S (S := []) (As := [.long p2.toInt64, .long (97 : Int64), .long (122 : Int64)]) C (c_X12_in l G (M := M) e3) wc_X12_in wm_X12_75 ws_X12_in wi_X12 hy_X12_in ⟨Nat.le_of_ble_eq_true rfl, Nat.le_of_ble_eq_true rfl⟩ rfl rfl (Nat.le_of_ble_eq_true rfl) d_X12_step_99 ?_
  refine z_if_eq C d_X12_step_102 (fun q5 => ?_) (fun q5 => ?_)
  · have h := o_t q5 h
    exact z_sub [0] rfl (k_X12_step_118 C hlk hr h)
  · have h := o_f q5 h
    refine z_aload_n 0 C d_X12_step_105 rfl rfl ?_
    refine z_dup C d_X12_step_106 rfl ?_
    refine z_get (k := 21) (v := .int (M.1 0 21)) C (eY_0 _ _) (by decide) rfl inX12 (by decide) wf_X12_91 rfl d_X12_step_107 ?_
    refine z_iconst (v := (1 : Int32)) C d_X12_step_110 (by decide) ?_
    refine z_iadd C d_X12_step_111 ?_
    obtain ⟨M6, e7, h⟩ := o_wr h
    refine z_pI (k := 21) (ty := .int) C (fun r q => eY_0 r q) (fun _ _ => rfl) (by decide) rfl inX12 tyX12 tyX12_ok nmX12 (by decide) wf_X12_91 rfl (by decide +kernel) rfl rfl (Nat.le_of_ble_eq_true rfl) d_X12_step_112 ?_
    refine z_nM e7 ?_
    refine z_goto C d_X12_step_115 ?_
    exact z_sub [0] rfl (hk84 _  h)
theorem k_X12_step_84 {p : Program} {l : Launch} {e : Env} {s : State} {m : MethodId} {args : Array Value} {below : List Frame} {meth : Method} {c : Code} {G : GG} {M2 : Mm} (C : CX p s m args c prog_14_method_9_code 2 "SnowSentriesModel" 1 G) (hlk : meth.locks = false) (hr : meth.sig.returnType = none) : ∀ (n : Nat) (M : Mm), f_X12_step_84 n M = some M2 → Z p l e { frames := 1, cells := 0, slots := 0, locals := 25 } s m args below meth c 1 G 2 (MQ below (QC 1 G none M2) args s 0 0 (AU 1 G)) 84 [(0, .ref (gB G + 0))] [] M := by
  intro n
  induction n with
  | zero =>
    intro M  h
    exact absurd h (fun z => by cases z)
  | succ n ih =>
    intro M  h
    exact kb_X12_step_84 C hlk hr  (fun M h => ih M h) h
set_option maxRecDepth 4000 in
theorem k_X12_step_201 {p : Program} {l : Launch} {e : Env} {s : State} {m : MethodId} {args : Array Value} {below : List Frame} {meth : Method} {c : Code} {G : GG} {k140 : Mm → Option Mm} {M : Mm} {s_1 : Int32} {M2 : Mm} (C : CX p s m args c prog_14_method_9_code 2 "SnowSentriesModel" 1 G) (hlk : meth.locks = false) (hr : meth.sig.returnType = none) (hk140 : ∀ (M : Mm), k140 M = some M2 → Z p l e { frames := 1, cells := 0, slots := 0, locals := 25 } s m args below meth c 1 G 2 (MQ below (QC 1 G none M2) args s 0 0 (AU 1 G)) 140 [(0, .ref (gB G + 0))] [] M) : f_X12_step_201 k140 M s_1 = some M2 → Z p l e { frames := 1, cells := 0, slots := 0, locals := 25 } s m args below meth c 1 G 2 (MQ below (QC 1 G none M2) args s 0 0 (AU 1 G)) 201 [(0, .ref (gB G + 0))] [.int s_1, .ref (gB G + 0)] M := by
  intro h
  unfold f_X12_step_201 at h
  obtain ⟨M1, e2, h⟩ := o_wr h
  refine z_pI (k := 24) (ty := .int) C (fun r q => eY_0 r q) (fun _ _ => rfl) (by decide) rfl inX12 tyX12 tyX12_ok nmX12 (by decide) wf_X12_98 rfl (by decide +kernel) rfl rfl (Nat.le_of_ble_eq_true rfl) d_X12_step_201 ?_
  refine z_nM e2 ?_
  refine z_aload_n 0 C d_X12_step_204 rfl rfl ?_
  refine z_dup C d_X12_step_205 rfl ?_
  refine z_get (k := 21) (v := .int (M1.1 0 21)) C (eY_0 _ _) (by decide) rfl inX12 (by decide) wf_X12_91 rfl d_X12_step_206 ?_
  refine z_iconst (v := (1 : Int32)) C d_X12_step_209 (by decide) ?_
  refine z_iadd C d_X12_step_210 ?_
  obtain ⟨M3, e4, h⟩ := o_wr h
  refine z_pI (k := 21) (ty := .int) C (fun r q => eY_0 r q) (fun _ _ => rfl) (by decide) rfl inX12 tyX12 tyX12_ok nmX12 (by decide) wf_X12_91 rfl (by decide +kernel) rfl rfl (Nat.le_of_ble_eq_true rfl) d_X12_step_211 ?_
  refine z_nM e4 ?_
  refine z_goto C d_X12_step_214 ?_
  exact z_sub [0] rfl (hk140 _  h)
set_option maxRecDepth 4000 in
theorem k_X12_step_217 {p : Program} {l : Launch} {e : Env} {s : State} {m : MethodId} {args : Array Value} {below : List Frame} {meth : Method} {c : Code} {G : GG} {M : Mm} {M2 : Mm} (C : CX p s m args c prog_14_method_9_code 2 "SnowSentriesModel" 1 G) (hlk : meth.locks = false) (hr : meth.sig.returnType = none) : f_X12_step_217 M = some M2 → Z p l e { frames := 1, cells := 0, slots := 0, locals := 25 } s m args below meth c 1 G 2 (MQ below (QC 1 G none M2) args s 0 0 (AU 1 G)) 217 [(0, .ref (gB G + 0))] [] M := by
  intro h
  unfold f_X12_step_217 at h
  refine z_aload_n 0 C d_X12_step_217 rfl rfl ?_
  refine z_iconst (v := (2 : Int32)) C d_X12_step_218 (by decide) ?_
  obtain ⟨M1, e2, h⟩ := o_wr h
  refine z_pI (k := 23) (ty := .int) C (fun r q => eY_0 r q) (fun _ _ => rfl) (by decide) rfl inX12 tyX12 tyX12_ok nmX12 (by decide) wf_X12_88 rfl (by decide +kernel) rfl rfl (Nat.le_of_ble_eq_true rfl) d_X12_step_219 ?_
  refine z_nM e2 ?_
  refine z_aload_n 0 C d_X12_step_222 rfl rfl ?_
  refine z_get (k := 21) (v := .int (M1.1 0 21)) C (eY_0 _ _) (by decide) rfl inX12 (by decide) wf_X12_91 rfl d_X12_step_223 ?_
  refine z_aload_n 0 C d_X12_step_226 rfl rfl ?_
  refine z_get (k := 22) (v := .int (M1.1 0 22)) C (eY_0 _ _) (by decide) rfl inX12 (by decide) wf_X12_82 rfl d_X12_step_227 ?_
  refine z_isub C d_X12_step_230 ?_
  refine z_iconst (v := (3 : Int32)) C d_X12_step_231 (by decide) ?_
  refine z_icmp_le C d_X12_step_232 (fun q3 => ?_) (fun q3 => ?_)
  · have h := o_t q3 h
    exact z_sub [] rfl (k_X12_step_269 C hlk hr h)
  · have h := o_f q3 h
    refine z_aload_n 0 C d_X12_step_235 rfl rfl ?_
    refine z_iconst (v := (1 : Int32)) C d_X12_step_236 (by decide) ?_
    obtain ⟨p5, e4, h⟩ := o_bd h
    refine z_V (S := []) (As := [.int (1 : Int32)]) C (c_X12_fails l G e4) (eY_0 _ _) (by decide) rfl wc_X12_fails wm_X12_109 ws_X12_fails wl_X12_fails wi_X12 hy_X12_fails ⟨Nat.le_of_ble_eq_true rfl, Nat.le_of_ble_eq_true rfl⟩ rfl rfl (Nat.le_of_ble_eq_true rfl) d_X12_step_237 ?_
    refine z_goto C d_X12_step_240 ?_
    exact z_sub [] rfl (k_X12_step_269 C hlk hr h)
set_option maxRecDepth 4000 in
theorem kb_X12_step_140 {p : Program} {l : Launch} {e : Env} {s : State} {m : MethodId} {args : Array Value} {below : List Frame} {meth : Method} {c : Code} {G : GG} {k140 : Mm → Option Mm} {M : Mm} {M2 : Mm} (C : CX p s m args c prog_14_method_9_code 2 "SnowSentriesModel" 1 G) (hlk : meth.locks = false) (hr : meth.sig.returnType = none) (hk140 : ∀ (M : Mm), k140 M = some M2 → Z p l e { frames := 1, cells := 0, slots := 0, locals := 25 } s m args below meth c 1 G 2 (MQ below (QC 1 G none M2) args s 0 0 (AU 1 G)) 140 [(0, .ref (gB G + 0))] [] M) : b_X12_step_140 k140 M = some M2 → Z p l e { frames := 1, cells := 0, slots := 0, locals := 25 } s m args below meth c 1 G 2 (MQ below (QC 1 G none M2) args s 0 0 (AU 1 G)) 140 [(0, .ref (gB G + 0))] [] M := by
  intro h
  unfold b_X12_step_140 at h
  refine z_aload_n 0 C d_X12_step_140 rfl rfl ?_
  refine z_aload_n 0 C d_X12_step_141 rfl rfl ?_
  refine z_get (k := 21) (v := .int (M.1 0 21)) C (eY_0 _ _) (by decide) rfl inX12 (by decide) wf_X12_91 rfl d_X12_step_142 ?_
  obtain ⟨p2, e1, h⟩ := o_bd h
  refine z_V (S := []) (As := [.int (M.1 0 21)]) C (c_X12_byteAt l G e1) (eY_0 _ _) (by decide) rfl wc_X12_byteAt wm_X12_94 ws_X12_byteAt wl_X12_byteAt wi_X12 hy_X12_byteAt ⟨Nat.le_of_ble_eq_true rfl, Nat.le_of_ble_eq_true rfl⟩ rfl rfl (Nat.le_of_ble_eq_true rfl) d_X12_step_145 ?_
  refine z_i2l C d_X12_step_148 ?_
  refine z_ldc2 (v := (48 : Int64)) C wk_X12_105 d_X12_step_149 ?_
  refine z_ldc2 (v := (57 : Int64)) C wk_X12_107 d_X12_step_152 ?_
  obtain ⟨p4, e3, h⟩ := o_bd h
  refine z_S (S := []) (As := [.long p2.toInt64, .long (48 : Int64), .long (57 : Int64)]) C (c_X12_in l G (M := M) e3) wc_X12_in wm_X12_75 ws_X12_in wi_X12 hy_X12_in ⟨Nat.le_of_ble_eq_true rfl, Nat.le_of_ble_eq_true rfl⟩ rfl rfl (Nat.le_of_ble_eq_true rfl) d_X12_step_155 ?_
  refine z_if_eq C d_X12_step_158 (fun q5 => ?_) (fun q5 => ?_)
  · have h := o_t q5 h
    exact z_sub [0] rfl (k_X12_step_217 C hlk hr h)
  · have h := o_f q5 h
    refine z_aload_n 0 C d_X12_step_161 rfl rfl ?_
    refine z_aload_n 0 C d_X12_step_162 rfl rfl ?_
    refine z_get (k := 21) (v := .int (M.1 0 21)) C (eY_0 _ _) (by decide) rfl inX12 (by decide) wf_X12_91 rfl d_X12_step_163 ?_
    refine z_aload_n 0 C d_X12_step_166 rfl rfl ?_
    refine z_get (k := 22) (v := .int (M.1 0 22)) C (eY_0 _ _) (by decide) rfl inX12 (by decide) wf_X12_82 rfl d_X12_step_167 ?_
    refine z_isub C d_X12_step_170 ?_
    refine z_iconst (v := (3 : Int32)) C d_X12_step_171 (by decide) ?_
    refine z_icmp_ge C d_X12_step_172 (fun q6 => ?_) (fun q6 => ?_)
    · have h := o_t q6 h
      refine z_aload_n 0 C d_X12_step_197 rfl rfl ?_
      refine z_get (k := 24) (v := .int (M.1 0 24)) C (eY_0 _ _) (by decide) rfl inX12 (by decide) wf_X12_98 rfl d_X12_step_198 ?_
      exact z_sub [0] rfl (k_X12_step_201 C hlk hr hk140 h)
    · have h := o_f q6 h
      refine z_bipush (v := (10 : Int32)) C d_X12_step_175 (by decide) ?_
      refine z_aload_n 0 C d_X12_step_177 rfl rfl ?_
      refine z_get (k := 24) (v := .int (M.1 0 24)) C (eY_0 _ _) (by decide) rfl inX12 (by decide) wf_X12_98 rfl d_X12_step_178 ?_
      refine z_imul C d_X12_step_181 ?_
      refine z_aload_n 0 C d_X12_step_182 rfl rfl ?_
      refine z_aload_n 0 C d_X12_step_183 rfl rfl ?_
      refine z_get (k := 21) (v := .int (M.1 0 21)) C (eY_0 _ _) (by decide) rfl inX12 (by decide) wf_X12_91 rfl d_X12_step_184 ?_
      obtain ⟨p8, e7, h⟩ := o_bd h
      refine z_V (S := [.int ((10 : Int32) * (M.1 0 24)), .ref (gB G + 0)]) (As := [.int (M.1 0 21)]) C (c_X12_byteAt l G e7) (eY_0 _ _) (by decide) rfl wc_X12_byteAt wm_X12_94 ws_X12_byteAt wl_X12_byteAt wi_X12 hy_X12_byteAt ⟨Nat.le_of_ble_eq_true rfl, Nat.le_of_ble_eq_true rfl⟩ rfl rfl (Nat.le_of_ble_eq_true rfl) d_X12_step_187 ?_
      refine z_iadd C d_X12_step_190 ?_
      refine z_bipush (v := (48 : Int32)) C d_X12_step_191 (by decide) ?_
      refine z_isub C d_X12_step_193 ?_
      refine z_goto C d_X12_step_194 ?_
      exact z_sub [0] rfl (k_X12_step_201 C hlk hr hk140 h)
theorem k_X12_step_140 {p : Program} {l : Launch} {e : Env} {s : State} {m : MethodId} {args : Array Value} {below : List Frame} {meth : Method} {c : Code} {G : GG} {M2 : Mm} (C : CX p s m args c prog_14_method_9_code 2 "SnowSentriesModel" 1 G) (hlk : meth.locks = false) (hr : meth.sig.returnType = none) : ∀ (n : Nat) (M : Mm), f_X12_step_140 n M = some M2 → Z p l e { frames := 1, cells := 0, slots := 0, locals := 25 } s m args below meth c 1 G 2 (MQ below (QC 1 G none M2) args s 0 0 (AU 1 G)) 140 [(0, .ref (gB G + 0))] [] M := by
  intro n
  induction n with
  | zero =>
    intro M  h
    exact absurd h (fun z => by cases z)
  | succ n ih =>
    intro M  h
    exact kb_X12_step_140 C hlk hr  (fun M h => ih M h) h
set_option maxRecDepth 4000 in
theorem k_X12_step_34 {p : Program} {l : Launch} {e : Env} {s : State} {m : MethodId} {args : Array Value} {below : List Frame} {meth : Method} {c : Code} {G : GG} {M : Mm} {M2 : Mm} (C : CX p s m args c prog_14_method_9_code 2 "SnowSentriesModel" 1 G) (hlk : meth.locks = false) (hr : meth.sig.returnType = none) : f_X12_step_34 M = some M2 → Z p l e { frames := 1, cells := 0, slots := 0, locals := 25 } s m args below meth c 1 G 2 (MQ below (QC 1 G none M2) args s 0 0 (AU 1 G)) 34 [(0, .ref (gB G + 0))] [] M := by
  intro h
  unfold f_X12_step_34 at h
  refine z_aload_n 0 C d_X12_step_34 rfl rfl ?_
  refine z_aload_n 0 C d_X12_step_35 rfl rfl ?_
  refine z_get (k := 21) (v := .int (M.1 0 21)) C (eY_0 _ _) (by decide) rfl inX12 (by decide) wf_X12_91 rfl d_X12_step_36 ?_
  obtain ⟨M1, e2, h⟩ := o_wr h
  refine z_pI (k := 22) (ty := .int) C (fun r q => eY_0 r q) (fun _ _ => rfl) (by decide) rfl inX12 tyX12 tyX12_ok nmX12 (by decide) wf_X12_82 rfl (by decide +kernel) rfl rfl (Nat.le_of_ble_eq_true rfl) d_X12_step_39 ?_
  refine z_nM e2 ?_
  refine z_aload_n 0 C d_X12_step_42 rfl rfl ?_
  refine z_aload_n 0 C d_X12_step_43 rfl rfl ?_
  refine z_get (k := 21) (v := .int (M1.1 0 21)) C (eY_0 _ _) (by decide) rfl inX12 (by decide) wf_X12_91 rfl d_X12_step_44 ?_
  obtain ⟨p4, e3, h⟩ := o_bd h
  refine z_V (S := []) (As := [.int (M1.1 0 21)]) C (c_X12_byteAt l G e3) (eY_0 _ _) (by decide) rfl wc_X12_byteAt wm_X12_94 ws_X12_byteAt wl_X12_byteAt wi_X12 hy_X12_byteAt ⟨Nat.le_of_ble_eq_true rfl, Nat.le_of_ble_eq_true rfl⟩ rfl rfl (Nat.le_of_ble_eq_true rfl) d_X12_step_47 ?_
  refine z_istore_n (L' := [(1, .int p4), (0, .ref (gB G + 0))]) C d_X12_step_50 rfl (by decide) rfl ?_
  refine z_aload_n 1 C d_X12_step_51 rfl rfl ?_
  refine z_iconst (v := (0 : Int32)) C d_X12_step_52 (by decide) ?_
  obtain ⟨M5, e6, h⟩ := o_wr h
  refine z_pI (k := 24) (ty := .int) C (fun r q => eY_0 r q) (fun _ _ => rfl) (by decide) rfl inX12 tyX12 tyX12_ok nmX12 (by decide) wf_X12_98 rfl (by decide +kernel) rfl rfl (Nat.le_of_ble_eq_true rfl) d_X12_step_53 ?_
  refine z_nM e6 ?_
  refine z_iload_n 0 C d_X12_step_56 rfl rfl ?_
  refine z_bipush (v := (-4 : Int32)) C d_X12_step_57 (by decide) ?_
  refine z_icmp_ne C d_X12_step_59 (fun q7 => ?_) (fun q7 => ?_)
  · have h := o_f q7 h
    refine z_iload_n 0 C d_X12_step_70 rfl rfl ?_
    refine z_i2l C d_X12_step_71 ?_
    refine z_ldc2 (v := (97 : Int64)) C wk_X12_101 d_X12_step_72 ?_
    refine z_ldc2 (v := (122 : Int64)) C wk_X12_103 d_X12_step_75 ?_
    obtain ⟨p9, e8, h⟩ := o_bd h
    refine z_S (S := []) (As := [.long p4.toInt64, .long (97 : Int64), .long (122 : Int64)]) C (c_X12_in l G (M := M5) e8) wc_X12_in wm_X12_75 ws_X12_in wi_X12 hy_X12_in ⟨Nat.le_of_ble_eq_true rfl, Nat.le_of_ble_eq_true rfl⟩ rfl rfl (Nat.le_of_ble_eq_true rfl) d_X12_step_78 ?_
    refine z_if_eq C d_X12_step_81 (fun q10 => ?_) (fun q10 => ?_)
    · have h := o_t q10 h
      refine z_iload_n 0 C d_X12_step_126 rfl rfl ?_
      refine z_i2l C d_X12_step_127 ?_
      refine z_ldc2 (v := (48 : Int64)) C wk_X12_105 d_X12_step_128 ?_
      refine z_ldc2 (v := (57 : Int64)) C wk_X12_107 d_X12_step_131 ?_
      obtain ⟨p12, e11, h⟩ := o_bd h
      refine z_S (S := []) (As := [.long p4.toInt64, .long (48 : Int64), .long (57 : Int64)]) C (c_X12_in l G (M := M5) e11) wc_X12_in wm_X12_75 ws_X12_in wi_X12 hy_X12_in ⟨Nat.le_of_ble_eq_true rfl, Nat.le_of_ble_eq_true rfl⟩ rfl rfl (Nat.le_of_ble_eq_true rfl) d_X12_step_134 ?_
      refine z_if_eq C d_X12_step_137 (fun q13 => ?_) (fun q13 => ?_)
      · have h := o_t q13 h
        refine z_aload_n 1 C d_X12_step_243 rfl rfl ?_
        refine z_iconst (v := (3 : Int32)) C d_X12_step_244 (by decide) ?_
        obtain ⟨M14, e15, h⟩ := o_wr h
        refine z_pI (k := 23) (ty := .int) C (fun r q => eY_0 r q) (fun _ _ => rfl) (by decide) rfl inX12 tyX12 tyX12_ok nmX12 (by decide) wf_X12_88 rfl (by decide +kernel) rfl rfl (Nat.le_of_ble_eq_true rfl) d_X12_step_245 ?_
        refine z_nM e15 ?_
        refine z_aload_n 1 C d_X12_step_248 rfl rfl ?_
        refine z_dup C d_X12_step_249 rfl ?_
        refine z_get (k := 21) (v := .int (M14.1 0 21)) C (eY_0 _ _) (by decide) rfl inX12 (by decide) wf_X12_91 rfl d_X12_step_250 ?_
        refine z_iconst (v := (1 : Int32)) C d_X12_step_253 (by decide) ?_
        refine z_iadd C d_X12_step_254 ?_
        obtain ⟨M16, e17, h⟩ := o_wr h
        refine z_pI (k := 21) (ty := .int) C (fun r q => eY_0 r q) (fun _ _ => rfl) (by decide) rfl inX12 tyX12 tyX12_ok nmX12 (by decide) wf_X12_91 rfl (by decide +kernel) rfl rfl (Nat.le_of_ble_eq_true rfl) d_X12_step_255 ?_
        refine z_nM e17 ?_
        refine z_iload_n 0 C d_X12_step_258 rfl rfl ?_
        refine z_bipush (v := (59 : Int32)) C d_X12_step_259 (by decide) ?_
        refine z_icmp_eq C d_X12_step_261 (fun q18 => ?_) (fun q18 => ?_)
        · have h := o_t q18 h
          exact z_sub [] rfl (k_X12_step_269 C hlk hr h)
        · have h := o_f q18 h
          refine z_aload_n 1 C d_X12_step_264 rfl rfl ?_
          refine z_iconst (v := (1 : Int32)) C d_X12_step_265 (by decide) ?_
          obtain ⟨p20, e19, h⟩ := o_bd h
          refine z_V (S := []) (As := [.int (1 : Int32)]) C (c_X12_fails l G e19) (eY_0 _ _) (by decide) rfl wc_X12_fails wm_X12_109 ws_X12_fails wl_X12_fails wi_X12 hy_X12_fails ⟨Nat.le_of_ble_eq_true rfl, Nat.le_of_ble_eq_true rfl⟩ rfl rfl (Nat.le_of_ble_eq_true rfl) d_X12_step_266 ?_
          exact z_sub [] rfl (k_X12_step_269 C hlk hr h)
      · have h := o_f q13 h
        exact z_sub [1] rfl (k_X12_step_140 C hlk hr _ _ h)
    · have h := o_f q10 h
      exact z_sub [1] rfl (k_X12_step_84 C hlk hr _ _ h)
  · have h := o_t q7 h
    refine z_aload_n 1 C d_X12_step_62 rfl rfl ?_
    refine z_iconst (v := (0 : Int32)) C d_X12_step_63 (by decide) ?_
    obtain ⟨M21, e22, h⟩ := o_wr h
    refine z_pI (k := 23) (ty := .int) C (fun r q => eY_0 r q) (fun _ _ => rfl) (by decide) rfl inX12 tyX12 tyX12_ok nmX12 (by decide) wf_X12_88 rfl (by decide +kernel) rfl rfl (Nat.le_of_ble_eq_true rfl) d_X12_step_64 ?_
    refine z_nM e22 ?_
    refine z_goto C d_X12_step_67 ?_
    exact z_sub [] rfl (k_X12_step_269 C hlk hr h)
set_option maxRecDepth 4000 in
theorem kb_X12_step_8 {p : Program} {l : Launch} {e : Env} {s : State} {m : MethodId} {args : Array Value} {below : List Frame} {meth : Method} {c : Code} {G : GG} {k8 : Mm → Option Mm} {M : Mm} {M2 : Mm} (C : CX p s m args c prog_14_method_9_code 2 "SnowSentriesModel" 1 G) (hlk : meth.locks = false) (hr : meth.sig.returnType = none) (hk8 : ∀ (M : Mm), k8 M = some M2 → Z p l e { frames := 1, cells := 0, slots := 0, locals := 25 } s m args below meth c 1 G 2 (MQ below (QC 1 G none M2) args s 0 0 (AU 1 G)) 8 [(0, .ref (gB G + 0))] [] M) : b_X12_step_8 k8 M = some M2 → Z p l e { frames := 1, cells := 0, slots := 0, locals := 25 } s m args below meth c 1 G 2 (MQ below (QC 1 G none M2) args s 0 0 (AU 1 G)) 8 [(0, .ref (gB G + 0))] [] M := by
  intro h
  unfold b_X12_step_8 at h
  refine z_aload_n 0 C d_X12_step_8 rfl rfl ?_
  refine z_aload_n 0 C d_X12_step_9 rfl rfl ?_
  refine z_get (k := 21) (v := .int (M.1 0 21)) C (eY_0 _ _) (by decide) rfl inX12 (by decide) wf_X12_91 rfl d_X12_step_10 ?_
  obtain ⟨p2, e1, h⟩ := o_bd h
  refine z_V (S := []) (As := [.int (M.1 0 21)]) C (c_X12_byteAt l G e1) (eY_0 _ _) (by decide) rfl wc_X12_byteAt wm_X12_94 ws_X12_byteAt wl_X12_byteAt wi_X12 hy_X12_byteAt ⟨Nat.le_of_ble_eq_true rfl, Nat.le_of_ble_eq_true rfl⟩ rfl rfl (Nat.le_of_ble_eq_true rfl) d_X12_step_13 ?_
  refine z_bipush (v := (32 : Int32)) C d_X12_step_16 (by decide) ?_
  refine z_icmp_ne C d_X12_step_18 (fun q3 => ?_) (fun q3 => ?_)
  · have h := o_f q3 h
    exact z_sub [0] rfl (k_X12_step_34 C hlk hr h)
  · have h := o_t q3 h
    refine z_aload_n 0 C d_X12_step_21 rfl rfl ?_
    refine z_dup C d_X12_step_22 rfl ?_
    refine z_get (k := 21) (v := .int (M.1 0 21)) C (eY_0 _ _) (by decide) rfl inX12 (by decide) wf_X12_91 rfl d_X12_step_23 ?_
    refine z_iconst (v := (1 : Int32)) C d_X12_step_26 (by decide) ?_
    refine z_iadd C d_X12_step_27 ?_
    obtain ⟨M4, e5, h⟩ := o_wr h
    refine z_pI (k := 21) (ty := .int) C (fun r q => eY_0 r q) (fun _ _ => rfl) (by decide) rfl inX12 tyX12 tyX12_ok nmX12 (by decide) wf_X12_91 rfl (by decide +kernel) rfl rfl (Nat.le_of_ble_eq_true rfl) d_X12_step_28 ?_
    refine z_nM e5 ?_
    refine z_goto C d_X12_step_31 ?_
    exact z_sub [0] rfl (hk8 _  h)
theorem k_X12_step_8 {p : Program} {l : Launch} {e : Env} {s : State} {m : MethodId} {args : Array Value} {below : List Frame} {meth : Method} {c : Code} {G : GG} {M2 : Mm} (C : CX p s m args c prog_14_method_9_code 2 "SnowSentriesModel" 1 G) (hlk : meth.locks = false) (hr : meth.sig.returnType = none) : ∀ (n : Nat) (M : Mm), f_X12_step_8 n M = some M2 → Z p l e { frames := 1, cells := 0, slots := 0, locals := 25 } s m args below meth c 1 G 2 (MQ below (QC 1 G none M2) args s 0 0 (AU 1 G)) 8 [(0, .ref (gB G + 0))] [] M := by
  intro n
  induction n with
  | zero =>
    intro M  h
    exact absurd h (fun z => by cases z)
  | succ n ih =>
    intro M  h
    exact kb_X12_step_8 C hlk hr  (fun M h => ih M h) h
set_option maxRecDepth 4000 in
theorem k_X12_step_0 {p : Program} {l : Launch} {e : Env} {s : State} {m : MethodId} {args : Array Value} {below : List Frame} {meth : Method} {c : Code} {G : GG} {M : Mm} {M2 : Mm} (C : CX p s m args c prog_14_method_9_code 2 "SnowSentriesModel" 1 G) (hlk : meth.locks = false) (hr : meth.sig.returnType = none) : f_X12_step M = some M2 → Z p l e { frames := 1, cells := 0, slots := 0, locals := 25 } s m args below meth c 1 G 2 (MQ below (QC 1 G none M2) args s 0 0 (AU 1 G)) 0 [(0, .ref (gB G + 0))] [] M := by
  intro h
  unfold f_X12_step at h
  refine z_aload_n 0 C d_X12_step_0 rfl rfl ?_
  refine z_get (k := 19) (v := .int (M.1 0 19)) C (eY_0 _ _) (by decide) rfl inX12 (by decide) wf_X12_79 rfl d_X12_step_1 ?_
  refine z_if_le C d_X12_step_4 (fun q1 => ?_) (fun q1 => ?_)
  · have h := o_t q1 h
    exact z_sub [0] rfl (k_X12_step_8 C hlk hr _ _ h)
  · have h := o_f q1 h
    obtain rfl := o_some h
    exact z_vret C hlk hr d_X12_step_7
theorem c_X12_step (l : Launch) (G : GG) {M : Mm} {M2 : Mm} (h : f_X12_step M = some M2) : CT l 1 G y_X12_step prog_14_method_9_code 2 none 1 25 [.ref (gB G + 0)] M none M2 :=
  CT.of (by decide +kernel) (Nat.le_of_ble_eq_true rfl) rfl (fun p e s m args below meth c C hlk hr => k_X12_step_0 C hlk hr h)
-- SnowSentriesModel.looks(II)V
set_option maxRecDepth 4000 in
theorem k_X12_looks_47 {p : Program} {l : Launch} {e : Env} {s : State} {m : MethodId} {args : Array Value} {below : List Frame} {meth : Method} {c : Code} {G : GG} {M : Mm} {M2 : Mm} (C : CX p s m args c prog_14_method_10_code 3 "SnowSentriesModel" 1 G) (hlk : meth.locks = false) (hr : meth.sig.returnType = none) : f_X12_looks_47 M = some M2 → Z p l e { frames := 1, cells := 0, slots := 0, locals := 25 } s m args below meth c 1 G 3 (MQ below (QC 1 G none M2) args s 0 0 (AU 1 G)) 47 [] [] M := by
  intro h
  unfold f_X12_looks_47 at h
  obtain rfl := o_some h
  exact z_vret C hlk hr d_X12_looks_47
set_option maxRecDepth 4000 in
theorem k_X12_looks_20 {p : Program} {l : Launch} {e : Env} {s : State} {m : MethodId} {args : Array Value} {below : List Frame} {meth : Method} {c : Code} {G : GG} {M : Mm} {x1 : Int32} {x2 : Int32} {M2 : Mm} (C : CX p s m args c prog_14_method_10_code 3 "SnowSentriesModel" 1 G) (hlk : meth.locks = false) (hr : meth.sig.returnType = none) : f_X12_looks_20 M x1 x2 = some M2 → Z p l e { frames := 1, cells := 0, slots := 0, locals := 25 } s m args below meth c 1 G 3 (MQ below (QC 1 G none M2) args s 0 0 (AU 1 G)) 20 [(0, .ref (gB G + 0)), (1, .int x1), (2, .int x2)] [] M := by
  intro h
  unfold f_X12_looks_20 at h
  refine z_aload_n 0 C d_X12_looks_20 rfl rfl ?_
  refine z_get (k := 19) (v := .int (M.1 0 19)) C (eY_0 _ _) (by decide) rfl inX12 (by decide) wf_X12_79 rfl d_X12_looks_21 ?_
  refine z_if_ne C d_X12_looks_24 (fun q1 => ?_) (fun q1 => ?_)
  · have h := o_f q1 h
    exact z_sub [] rfl (k_X12_looks_47 C hlk hr h)
  · have h := o_t q1 h
    refine z_aload_n 0 C d_X12_looks_27 rfl rfl ?_
    refine z_get (k := 24) (v := .int (M.1 0 24)) C (eY_0 _ _) (by decide) rfl inX12 (by decide) wf_X12_98 rfl d_X12_looks_28 ?_
    refine z_i2l C d_X12_looks_31 ?_
    refine z_iload_n 1 C d_X12_looks_32 rfl rfl ?_
    refine z_i2l C d_X12_looks_33 ?_
    refine z_iload_n 2 C d_X12_looks_34 rfl rfl ?_
    refine z_i2l C d_X12_looks_35 ?_
    obtain ⟨p3, e2, h⟩ := o_bd h
    refine z_S (S := []) (As := [.long ((M.1 0 24).toInt64), .long x1.toInt64, .long x2.toInt64]) C (c_X12_in l G (M := M) e2) wc_X12_in wm_X12_75 ws_X12_in wi_X12 hy_X12_in ⟨Nat.le_of_ble_eq_true rfl, Nat.le_of_ble_eq_true rfl⟩ rfl rfl (Nat.le_of_ble_eq_true rfl) d_X12_looks_36 ?_
    refine z_if_ne C d_X12_looks_39 (fun q4 => ?_) (fun q4 => ?_)
    · have h := o_f q4 h
      exact z_sub [] rfl (k_X12_looks_47 C hlk hr h)
    · have h := o_t q4 h
      refine z_aload_n 0 C d_X12_looks_42 rfl rfl ?_
      refine z_iconst (v := (3 : Int32)) C d_X12_looks_43 (by decide) ?_
      obtain ⟨p6, e5, h⟩ := o_bd h
      refine z_V (S := []) (As := [.int (3 : Int32)]) C (c_X12_fails l G e5) (eY_0 _ _) (by decide) rfl wc_X12_fails wm_X12_109 ws_X12_fails wl_X12_fails wi_X12 hy_X12_fails ⟨Nat.le_of_ble_eq_true rfl, Nat.le_of_ble_eq_true rfl⟩ rfl rfl (Nat.le_of_ble_eq_true rfl) d_X12_looks_44 ?_
      exact z_sub [] rfl (k_X12_looks_47 C hlk hr h)
set_option maxRecDepth 4000 in
theorem k_X12_looks_0 {p : Program} {l : Launch} {e : Env} {s : State} {m : MethodId} {args : Array Value} {below : List Frame} {meth : Method} {c : Code} {G : GG} {M : Mm} {x1 : Int32} {x2 : Int32} {M2 : Mm} (C : CX p s m args c prog_14_method_10_code 3 "SnowSentriesModel" 1 G) (hlk : meth.locks = false) (hr : meth.sig.returnType = none) : f_X12_looks M x1 x2 = some M2 → Z p l e { frames := 1, cells := 0, slots := 0, locals := 25 } s m args below meth c 1 G 3 (MQ below (QC 1 G none M2) args s 0 0 (AU 1 G)) 0 [(0, .ref (gB G + 0)), (1, .int x1), (2, .int x2)] [] M := by
  intro h
  unfold f_X12_looks at h
  refine z_aload_n 0 C d_X12_looks_0 rfl rfl ?_
  refine z_get (k := 19) (v := .int (M.1 0 19)) C (eY_0 _ _) (by decide) rfl inX12 (by decide) wf_X12_79 rfl d_X12_looks_1 ?_
  refine z_if_ne C d_X12_looks_4 (fun q1 => ?_) (fun q1 => ?_)
  · have h := o_f q1 h
    exact z_sub [0, 1, 2] rfl (k_X12_looks_20 C hlk hr h)
  · have h := o_t q1 h
    refine z_aload_n 0 C d_X12_looks_7 rfl rfl ?_
    refine z_get (k := 23) (v := .int (M.1 0 23)) C (eY_0 _ _) (by decide) rfl inX12 (by decide) wf_X12_88 rfl d_X12_looks_8 ?_
    refine z_iconst (v := (2 : Int32)) C d_X12_looks_11 (by decide) ?_
    refine z_icmp_eq C d_X12_looks_12 (fun q2 => ?_) (fun q2 => ?_)
    · have h := o_t q2 h
      exact z_sub [0, 1, 2] rfl (k_X12_looks_20 C hlk hr h)
    · have h := o_f q2 h
      refine z_aload_n 0 C d_X12_looks_15 rfl rfl ?_
      refine z_iconst (v := (2 : Int32)) C d_X12_looks_16 (by decide) ?_
      obtain ⟨p4, e3, h⟩ := o_bd h
      refine z_V (S := []) (As := [.int (2 : Int32)]) C (c_X12_fails l G e3) (eY_0 _ _) (by decide) rfl wc_X12_fails wm_X12_109 ws_X12_fails wl_X12_fails wi_X12 hy_X12_fails ⟨Nat.le_of_ble_eq_true rfl, Nat.le_of_ble_eq_true rfl⟩ rfl rfl (Nat.le_of_ble_eq_true rfl) d_X12_looks_17 ?_
      exact z_sub [0, 1, 2] rfl (k_X12_looks_20 C hlk hr h)
theorem c_X12_looks (l : Launch) (G : GG) {M : Mm} {x1 : Int32} {x2 : Int32} {M2 : Mm} (h : f_X12_looks M x1 x2 = some M2) : CT l 1 G y_X12_looks prog_14_method_10_code 3 none 1 25 [.ref (gB G + 0), .int x1, .int x2] M none M2 :=
  CT.of (by decide +kernel) (Nat.le_of_ble_eq_true rfl) rfl (fun p e s m args below meth c C hlk hr => k_X12_looks_0 C hlk hr h)
-- SnowSentriesModel.number(II)I
set_option maxRecDepth 4000 in
theorem k_X12_number_21 {p : Program} {l : Launch} {e : Env} {s : State} {m : MethodId} {args : Array Value} {below : List Frame} {meth : Method} {c : Code} {G : GG} {M : Mm} {s_0 : Int32} {r : Int32} {M2 : Mm} (C : CX p s m args c prog_14_method_11_code 4 "SnowSentriesModel" 1 G) (hlk : meth.locks = false) (hr : meth.sig.returnType = (some .int)) : f_X12_number_21 M s_0 = some (r, M2) → Z p l e { frames := 2, cells := 0, slots := 0, locals := 47 } s m args below meth c 1 G 4 (MQ below (QC 1 G (some (.int r)) M2) args s 0 0 (AU 1 G)) 21 [(0, .ref (gB G + 0))] [.int s_0] M := by
  intro h
  unfold f_X12_number_21 at h
  refine z_istore_n (L' := [(3, .int s_0), (0, .ref (gB G + 0))]) C d_X12_number_21 rfl (by decide) rfl ?_
  refine z_aload_n 1 C d_X12_number_22 rfl rfl ?_
  obtain ⟨p2, e1, h⟩ := o_bd h
  refine z_V (S := []) (As := []) C (c_X12_step l G e1) (eY_0 _ _) (by decide) rfl wc_X12_step wm_X12_117 ws_X12_step wl_X12_step wi_X12 hy_X12_step ⟨Nat.le_of_ble_eq_true rfl, Nat.le_of_ble_eq_true rfl⟩ rfl rfl (Nat.le_of_ble_eq_true rfl) d_X12_number_23 ?_
  refine z_iload_n 0 C d_X12_number_26 rfl rfl ?_
  obtain ⟨rfl, rfl⟩ := o_pair h
  exact z_iret C hlk hr d_X12_number_27
set_option maxRecDepth 4000 in
theorem k_X12_number_0 {p : Program} {l : Launch} {e : Env} {s : State} {m : MethodId} {args : Array Value} {below : List Frame} {meth : Method} {c : Code} {G : GG} {M : Mm} {x1 : Int32} {x2 : Int32} {r : Int32} {M2 : Mm} (C : CX p s m args c prog_14_method_11_code 4 "SnowSentriesModel" 1 G) (hlk : meth.locks = false) (hr : meth.sig.returnType = (some .int)) : f_X12_number M x1 x2 = some (r, M2) → Z p l e { frames := 2, cells := 0, slots := 0, locals := 47 } s m args below meth c 1 G 4 (MQ below (QC 1 G (some (.int r)) M2) args s 0 0 (AU 1 G)) 0 [(0, .ref (gB G + 0)), (1, .int x1), (2, .int x2)] [] M := by
  intro h
  unfold f_X12_number at h
  refine z_aload_n 0 C d_X12_number_0 rfl rfl ?_
  refine z_iload_n 1 C d_X12_number_1 rfl rfl ?_
  refine z_iload_n 2 C d_X12_number_2 rfl rfl ?_
  obtain ⟨p2, e1, h⟩ := o_bd h
  refine z_V (S := []) (As := [.int x1, .int x2]) C (c_X12_looks l G e1) (eY_0 _ _) (by decide) rfl wc_X12_looks wm_X12_113 ws_X12_looks wl_X12_looks wi_X12 hy_X12_looks ⟨Nat.le_of_ble_eq_true rfl, Nat.le_of_ble_eq_true rfl⟩ rfl rfl (Nat.le_of_ble_eq_true rfl) d_X12_number_3 ?_
  refine z_aload_n 0 C d_X12_number_6 rfl rfl ?_
  refine z_get (k := 19) (v := .int (p2.1 0 19)) C (eY_0 _ _) (by decide) rfl inX12 (by decide) wf_X12_79 rfl d_X12_number_7 ?_
  refine z_if_ne C d_X12_number_10 (fun q3 => ?_) (fun q3 => ?_)
  · have h := o_f q3 h
    refine z_iload_n 1 C d_X12_number_20 rfl rfl ?_
    exact z_sub [0] rfl (k_X12_number_21 C hlk hr h)
  · have h := o_t q3 h
    refine z_aload_n 0 C d_X12_number_13 rfl rfl ?_
    refine z_get (k := 24) (v := .int (p2.1 0 24)) C (eY_0 _ _) (by decide) rfl inX12 (by decide) wf_X12_98 rfl d_X12_number_14 ?_
    refine z_goto C d_X12_number_17 ?_
    exact z_sub [0] rfl (k_X12_number_21 C hlk hr h)
theorem c_X12_number (l : Launch) (G : GG) {M : Mm} {x1 : Int32} {x2 : Int32} {r : Int32} {M2 : Mm} (h : f_X12_number M x1 x2 = some (r, M2)) : CT l 1 G y_X12_number prog_14_method_11_code 4 (some .int) 2 47 [.ref (gB G + 0), .int x1, .int x2] M (some (.int r)) M2 :=
  CT.of (by decide +kernel) (Nat.le_of_ble_eq_true rfl) rfl (fun p e s m args below meth c C hlk hr => k_X12_number_0 C hlk hr h)
-- SnowSentriesModel.name(II)I
set_option maxRecDepth 4000 in
theorem k_X12_name_24 {p : Program} {l : Launch} {e : Env} {s : State} {m : MethodId} {args : Array Value} {below : List Frame} {meth : Method} {c : Code} {G : GG} {M : Mm} {x1 : Int32} {x3 : Int32} {r : Int32} {M2 : Mm} (C : CX p s m args c prog_14_method_12_code 4 "SnowSentriesModel" 1 G) (hlk : meth.locks = false) (hr : meth.sig.returnType = (some .int)) : f_X12_name_24 M x1 x3 = some (r, M2) → Z p l e { frames := 2, cells := 0, slots := 0, locals := 46 } s m args below meth c 1 G 4 (MQ below (QC 1 G (some (.int r)) M2) args s 0 0 (AU 1 G)) 24 [(0, .ref (gB G + 0)), (1, .int x1), (3, .int x3)] [] M := by
  intro h
  unfold f_X12_name_24 at h
  refine z_aload_n 0 C d_X12_name_24 rfl rfl ?_
  obtain ⟨p2, e1, h⟩ := o_bd h
  refine z_V (S := []) (As := []) C (c_X12_step l G e1) (eY_0 _ _) (by decide) rfl wc_X12_step wm_X12_117 ws_X12_step wl_X12_step wi_X12 hy_X12_step ⟨Nat.le_of_ble_eq_true rfl, Nat.le_of_ble_eq_true rfl⟩ rfl rfl (Nat.le_of_ble_eq_true rfl) d_X12_name_25 ?_
  refine z_iload_n 2 C d_X12_name_28 rfl rfl ?_
  refine z_iload_n 1 C d_X12_name_29 rfl rfl ?_
  refine z_isub C d_X12_name_30 ?_
  obtain ⟨rfl, rfl⟩ := o_pair h
  exact z_iret C hlk hr d_X12_name_31
set_option maxRecDepth 4000 in
theorem k_X12_name_0 {p : Program} {l : Launch} {e : Env} {s : State} {m : MethodId} {args : Array Value} {below : List Frame} {meth : Method} {c : Code} {G : GG} {M : Mm} {x1 : Int32} {x2 : Int32} {r : Int32} {M2 : Mm} (C : CX p s m args c prog_14_method_12_code 4 "SnowSentriesModel" 1 G) (hlk : meth.locks = false) (hr : meth.sig.returnType = (some .int)) : f_X12_name M x1 x2 = some (r, M2) → Z p l e { frames := 2, cells := 0, slots := 0, locals := 46 } s m args below meth c 1 G 4 (MQ below (QC 1 G (some (.int r)) M2) args s 0 0 (AU 1 G)) 0 [(0, .ref (gB G + 0)), (1, .int x1), (2, .int x2)] [] M := by
  intro h
  unfold f_X12_name at h
  refine z_aload_n 0 C d_X12_name_0 rfl rfl ?_
  obtain ⟨p2, e1, h⟩ := o_bd h
  refine z_V (S := []) (As := []) C (c_X12_nameHere l G e1) (eY_0 _ _) (by decide) rfl wc_X12_nameHere wm_X12_120 ws_X12_nameHere wl_X12_nameHere wi_X12 hy_X12_nameHere ⟨Nat.le_of_ble_eq_true rfl, Nat.le_of_ble_eq_true rfl⟩ rfl rfl (Nat.le_of_ble_eq_true rfl) d_X12_name_1 ?_
  refine z_istore_n (L' := [(3, .int p2), (0, .ref (gB G + 0)), (1, .int x1), (2, .int x2)]) C d_X12_name_4 rfl (by decide) rfl ?_
  refine z_iload_n 0 C d_X12_name_5 rfl rfl ?_
  refine z_i2l C d_X12_name_6 ?_
  refine z_iload_n 2 C d_X12_name_7 rfl rfl ?_
  refine z_i2l C d_X12_name_8 ?_
  refine z_iload_n 3 C d_X12_name_9 rfl rfl ?_
  refine z_i2l C d_X12_name_10 ?_
  obtain ⟨p4, e3, h⟩ := o_bd h
  refine z_S (S := []) (As := [.long p2.toInt64, .long x1.toInt64, .long x2.toInt64]) C (c_X12_in l G (M := M) e3) wc_X12_in wm_X12_75 ws_X12_in wi_X12 hy_X12_in ⟨Nat.le_of_ble_eq_true rfl, Nat.le_of_ble_eq_true rfl⟩ rfl rfl (Nat.le_of_ble_eq_true rfl) d_X12_name_11 ?_
  refine z_if_ne C d_X12_name_14 (fun q5 => ?_) (fun q5 => ?_)
  · have h := o_f q5 h
    exact z_sub [1, 2, 0] rfl (k_X12_name_24 C hlk hr h)
  · have h := o_t q5 h
    refine z_aload_n 1 C d_X12_name_17 rfl rfl ?_
    refine z_iconst (v := (2 : Int32)) C d_X12_name_18 (by decide) ?_
    obtain ⟨p7, e6, h⟩ := o_bd h
    refine z_V (S := []) (As := [.int (2 : Int32)]) C (c_X12_fails l G e6) (eY_0 _ _) (by decide) rfl wc_X12_fails wm_X12_109 ws_X12_fails wl_X12_fails wi_X12 hy_X12_fails ⟨Nat.le_of_ble_eq_true rfl, Nat.le_of_ble_eq_true rfl⟩ rfl rfl (Nat.le_of_ble_eq_true rfl) d_X12_name_19 ?_
    refine z_iload_n 2 C d_X12_name_22 rfl rfl ?_
    refine z_istore_n (L' := [(3, .int x1), (0, .ref (gB G + 0)), (1, .int x1), (2, .int x2)]) C d_X12_name_23 rfl (by decide) rfl ?_
    exact z_sub [1, 2, 0] rfl (k_X12_name_24 C hlk hr h)
theorem c_X12_name (l : Launch) (G : GG) {M : Mm} {x1 : Int32} {x2 : Int32} {r : Int32} {M2 : Mm} (h : f_X12_name M x1 x2 = some (r, M2)) : CT l 1 G y_X12_name prog_14_method_12_code 4 (some .int) 2 46 [.ref (gB G + 0), .int x1, .int x2] M (some (.int r)) M2 :=
  CT.of (by decide +kernel) (Nat.le_of_ble_eq_true rfl) rfl (fun p e s m args below meth c C hlk hr => k_X12_name_0 C hlk hr h)
-- SnowSentriesModel.furlongHere()I
set_option maxRecDepth 4000 in
theorem k_X12_furlongHere_40 {p : Program} {l : Launch} {e : Env} {s : State} {m : MethodId} {args : Array Value} {below : List Frame} {meth : Method} {c : Code} {G : GG} {M : Mm} {x1 : Int32} {s_1 : Int32} {r : Int32} {M2 : Mm} (C : CX p s m args c prog_14_method_13_code 2 "SnowSentriesModel" 1 G) (hlk : meth.locks = false) (hr : meth.sig.returnType = (some .int)) : f_X12_furlongHere_40 M x1 s_1 = some (r, M2) → Z p l e { frames := 2, cells := 0, slots := 0, locals := 47 } s m args below meth c 1 G 2 (MQ below (QC 1 G (some (.int r)) M2) args s 0 0 (AU 1 G)) 40 [(1, .int x1)] [.int s_1, .ref (gB G + 0)] M := by
  intro h
  unfold f_X12_furlongHere_40 at h
  obtain ⟨M1, e2, h⟩ := o_wr h
  refine z_pI (k := 15) (ty := .int) C (fun r q => eY_0 r q) (fun _ _ => rfl) (by decide) rfl inX12 tyX12 tyX12_ok nmX12 (by decide) wf_X12_124 rfl (by decide +kernel) rfl rfl (Nat.le_of_ble_eq_true rfl) d_X12_furlongHere_40 ?_
  refine z_nM e2 ?_
  refine z_iload_n 0 C d_X12_furlongHere_43 rfl rfl ?_
  obtain ⟨rfl, rfl⟩ := o_pair h
  exact z_iret C hlk hr d_X12_furlongHere_44
set_option maxRecDepth 4000 in
theorem k_X12_furlongHere_22 {p : Program} {l : Launch} {e : Env} {s : State} {m : MethodId} {args : Array Value} {below : List Frame} {meth : Method} {c : Code} {G : GG} {M : Mm} {s_0 : Int32} {r : Int32} {M2 : Mm} (C : CX p s m args c prog_14_method_13_code 2 "SnowSentriesModel" 1 G) (hlk : meth.locks = false) (hr : meth.sig.returnType = (some .int)) : f_X12_furlongHere_22 M s_0 = some (r, M2) → Z p l e { frames := 2, cells := 0, slots := 0, locals := 47 } s m args below meth c 1 G 2 (MQ below (QC 1 G (some (.int r)) M2) args s 0 0 (AU 1 G)) 22 [(0, .ref (gB G + 0))] [.int s_0] M := by
  intro h
  unfold f_X12_furlongHere_22 at h
  refine z_istore_n (L' := [(1, .int s_0), (0, .ref (gB G + 0))]) C d_X12_furlongHere_22 rfl (by decide) rfl ?_
  refine z_aload_n 1 C d_X12_furlongHere_23 rfl rfl ?_
  refine z_iload_n 0 C d_X12_furlongHere_24 rfl rfl ?_
  refine z_aload_n 1 C d_X12_furlongHere_25 rfl rfl ?_
  refine z_get (k := 15) (v := .int (M.1 0 15)) C (eY_0 _ _) (by decide) rfl inX12 (by decide) wf_X12_124 rfl d_X12_furlongHere_26 ?_
  refine z_icmp_le C d_X12_furlongHere_29 (fun q1 => ?_) (fun q1 => ?_)
  · have h := o_t q1 h
    refine z_aload_n 1 C d_X12_furlongHere_36 rfl rfl ?_
    refine z_get (k := 15) (v := .int (M.1 0 15)) C (eY_0 _ _) (by decide) rfl inX12 (by decide) wf_X12_124 rfl d_X12_furlongHere_37 ?_
    exact z_sub [0] rfl (k_X12_furlongHere_40 C hlk hr h)
  · have h := o_f q1 h
    refine z_iload_n 0 C d_X12_furlongHere_32 rfl rfl ?_
    refine z_goto C d_X12_furlongHere_33 ?_
    exact z_sub [0] rfl (k_X12_furlongHere_40 C hlk hr h)
set_option maxRecDepth 4000 in
theorem k_X12_furlongHere_0 {p : Program} {l : Launch} {e : Env} {s : State} {m : MethodId} {args : Array Value} {below : List Frame} {meth : Method} {c : Code} {G : GG} {M : Mm} {r : Int32} {M2 : Mm} (C : CX p s m args c prog_14_method_13_code 2 "SnowSentriesModel" 1 G) (hlk : meth.locks = false) (hr : meth.sig.returnType = (some .int)) : f_X12_furlongHere M = some (r, M2) → Z p l e { frames := 2, cells := 0, slots := 0, locals := 47 } s m args below meth c 1 G 2 (MQ below (QC 1 G (some (.int r)) M2) args s 0 0 (AU 1 G)) 0 [(0, .ref (gB G + 0))] [] M := by
  intro h
  unfold f_X12_furlongHere at h
  refine z_aload_n 0 C d_X12_furlongHere_0 rfl rfl ?_
  refine z_iconst (v := (0 : Int32)) C d_X12_furlongHere_1 (by decide) ?_
  refine z_bipush (v := (9 : Int32)) C d_X12_furlongHere_2 (by decide) ?_
  obtain ⟨p2, e1, h⟩ := o_bd h
  refine z_V (S := []) (As := [.int (0 : Int32), .int (9 : Int32)]) C (c_X12_looks l G e1) (eY_0 _ _) (by decide) rfl wc_X12_looks wm_X12_113 ws_X12_looks wl_X12_looks wi_X12 hy_X12_looks ⟨Nat.le_of_ble_eq_true rfl, Nat.le_of_ble_eq_true rfl⟩ rfl rfl (Nat.le_of_ble_eq_true rfl) d_X12_furlongHere_4 ?_
  refine z_aload_n 0 C d_X12_furlongHere_7 rfl rfl ?_
  refine z_get (k := 19) (v := .int (p2.1 0 19)) C (eY_0 _ _) (by decide) rfl inX12 (by decide) wf_X12_79 rfl d_X12_furlongHere_8 ?_
  refine z_if_ne C d_X12_furlongHere_11 (fun q3 => ?_) (fun q3 => ?_)
  · have h := o_f q3 h
    refine z_iconst (v := (0 : Int32)) C d_X12_furlongHere_21 (by decide) ?_
    exact z_sub [0] rfl (k_X12_furlongHere_22 C hlk hr h)
  · have h := o_t q3 h
    refine z_aload_n 0 C d_X12_furlongHere_14 rfl rfl ?_
    refine z_get (k := 24) (v := .int (p2.1 0 24)) C (eY_0 _ _) (by decide) rfl inX12 (by decide) wf_X12_98 rfl d_X12_furlongHere_15 ?_
    refine z_goto C d_X12_furlongHere_18 ?_
    exact z_sub [0] rfl (k_X12_furlongHere_22 C hlk hr h)
theorem c_X12_furlongHere (l : Launch) (G : GG) {M : Mm} {r : Int32} {M2 : Mm} (h : f_X12_furlongHere M = some (r, M2)) : CT l 1 G y_X12_furlongHere prog_14_method_13_code 2 (some .int) 2 47 [.ref (gB G + 0)] M (some (.int r)) M2 :=
  CT.of (by decide +kernel) (Nat.le_of_ble_eq_true rfl) rfl (fun p e s m args below meth c C hlk hr => k_X12_furlongHere_0 C hlk hr h)
-- SnowSentriesModel.readHours(Z)V
set_option maxRecDepth 4000 in
theorem k_X12_readHours_83 {p : Program} {l : Launch} {e : Env} {s : State} {m : MethodId} {args : Array Value} {below : List Frame} {meth : Method} {c : Code} {G : GG} {k2 : Mm → Int32 → Option Mm} {M : Mm} {x1 : Int32} {x2 : Int32} {M2 : Mm} (C : CX p s m args c prog_14_method_14_code 4 "SnowSentriesModel" 1 G) (hlk : meth.locks = false) (hr : meth.sig.returnType = none) (hk2 : ∀ (M : Mm) (x2 : Int32), k2 M x2 = some M2 → Z p l e { frames := 3, cells := 0, slots := 0, locals := 70 } s m args below meth c 1 G 4 (MQ below (QC 1 G none M2) args s 0 0 (AU 1 G)) 2 [(0, .ref (gB G + 0)), (1, .int x1), (2, .int x2)] [] M) : f_X12_readHours_83 k2 M x1 x2 = some M2 → Z p l e { frames := 3, cells := 0, slots := 0, locals := 70 } s m args below meth c 1 G 4 (MQ below (QC 1 G none M2) args s 0 0 (AU 1 G)) 83 [(0, .ref (gB G + 0)), (1, .int x1), (2, .int x2)] [] M := by
  intro h
  unfold f_X12_readHours_83 at h
  refine z_goto C d_X12_readHours_83 ?_
  exact z_sub [0, 1, 2] rfl (hk2 _ _  h)
set_option maxRecDepth 4000 in
theorem k_X12_readHours_80 {p : Program} {l : Launch} {e : Env} {s : State} {m : MethodId} {args : Array Value} {below : List Frame} {meth : Method} {c : Code} {G : GG} {k2 : Mm → Int32 → Option Mm} {M : Mm} {x1 : Int32} {x2 : Int32} {M2 : Mm} (C : CX p s m args c prog_14_method_14_code 4 "SnowSentriesModel" 1 G) (hlk : meth.locks = false) (hr : meth.sig.returnType = none) (hk2 : ∀ (M : Mm) (x2 : Int32), k2 M x2 = some M2 → Z p l e { frames := 3, cells := 0, slots := 0, locals := 70 } s m args below meth c 1 G 4 (MQ below (QC 1 G none M2) args s 0 0 (AU 1 G)) 2 [(0, .ref (gB G + 0)), (1, .int x1), (2, .int x2)] [] M) : f_X12_readHours_80 k2 M x1 x2 = some M2 → Z p l e { frames := 3, cells := 0, slots := 0, locals := 70 } s m args below meth c 1 G 4 (MQ below (QC 1 G none M2) args s 0 0 (AU 1 G)) 80 [(0, .ref (gB G + 0)), (1, .int x1), (2, .int x2)] [] M := by
  intro h
  unfold f_X12_readHours_80 at h
  refine z_iinc (v := (1 : Int32)) (L' := [(2, .int (x2 + (1 : Int32))), (0, .ref (gB G + 0)), (1, .int x1)]) 2 C d_X12_readHours_80 rfl (by decide) (by decide) rfl ?_
  exact z_sub [1, 2, 0] rfl (k_X12_readHours_83 C hlk hr hk2 h)
set_option maxRecDepth 4000 in
theorem k_X12_readHours_40 {p : Program} {l : Launch} {e : Env} {s : State} {m : MethodId} {args : Array Value} {below : List Frame} {meth : Method} {c : Code} {G : GG} {k2 : Mm → Int32 → Option Mm} {M : Mm} {x1 : Int32} {x2 : Int32} {M2 : Mm} (C : CX p s m args c prog_14_method_14_code 4 "SnowSentriesModel" 1 G) (hlk : meth.locks = false) (hr : meth.sig.returnType = none) (hk2 : ∀ (M : Mm) (x2 : Int32), k2 M x2 = some M2 → Z p l e { frames := 3, cells := 0, slots := 0, locals := 70 } s m args below meth c 1 G 4 (MQ below (QC 1 G none M2) args s 0 0 (AU 1 G)) 2 [(0, .ref (gB G + 0)), (1, .int x1), (2, .int x2)] [] M) : f_X12_readHours_40 k2 M x1 x2 = some M2 → Z p l e { frames := 3, cells := 0, slots := 0, locals := 70 } s m args below meth c 1 G 4 (MQ below (QC 1 G none M2) args s 0 0 (AU 1 G)) 40 [(0, .ref (gB G + 0)), (1, .int x1), (2, .int x2)] [] M := by
  intro h
  unfold f_X12_readHours_40 at h
  refine z_aload_n 0 C d_X12_readHours_40 rfl rfl ?_
  refine z_iconst (v := (0 : Int32)) C d_X12_readHours_41 (by decide) ?_
  refine z_bipush (v := (9 : Int32)) C d_X12_readHours_42 (by decide) ?_
  obtain ⟨p2, e1, h⟩ := o_bd h
  refine z_V (S := []) (As := [.int (0 : Int32), .int (9 : Int32)]) C (c_X12_number l G e1) (eY_0 _ _) (by decide) rfl wc_X12_number wm_X12_127 ws_X12_number wl_X12_number wi_X12 hy_X12_number ⟨Nat.le_of_ble_eq_true rfl, Nat.le_of_ble_eq_true rfl⟩ rfl rfl (Nat.le_of_ble_eq_true rfl) d_X12_readHours_44 ?_
  obtain ⟨v3, e4, h⟩ := o_nm h
  refine z_nI e4 ?_
  refine z_istore_n (L' := [(3, .int v3), (0, .ref (gB G + 0)), (1, .int x1), (2, .int x2)]) C d_X12_readHours_47 rfl (by decide) rfl ?_
  refine z_aload_n 1 C d_X12_readHours_48 rfl rfl ?_
  refine z_get (k := 19) (v := .int (p2.2.1 0 19)) C (eY_0 _ _) (by decide) rfl inX12 (by decide) wf_X12_79 rfl d_X12_readHours_49 ?_
  refine z_if_ne C d_X12_readHours_52 (fun q5 => ?_) (fun q5 => ?_)
  · have h := o_f q5 h
    exact z_sub [1, 2, 3] rfl (k_X12_readHours_83 C hlk hr hk2 h)
  · have h := o_t q5 h
    refine z_iload_n 2 C d_X12_readHours_55 rfl rfl ?_
    refine z_if_eq C d_X12_readHours_56 (fun q6 => ?_) (fun q6 => ?_)
    · have h := o_t q6 h
      refine z_aload_n 1 C d_X12_readHours_73 rfl rfl ?_
      refine z_get (k := 8) (v := .ref (gB G + 6)) C (eY_0 _ _) (by decide) rfl inX12 (by decide) wf_X12_32 rfl d_X12_readHours_74 ?_
      refine z_iload_n 3 C d_X12_readHours_77 rfl rfl ?_
      refine z_iload_n 0 C d_X12_readHours_78 rfl rfl ?_
      obtain ⟨q9, h⟩ := o_ck h
      obtain ⟨M7, e8, h⟩ := o_wr h
      refine z_ast (fun r q => eY_6 r q) C (by decide) q9 d_X12_readHours_79 ?_
      refine z_nM e8 ?_
      exact z_sub [1, 2, 3] rfl (k_X12_readHours_80 C hlk hr hk2 h)
    · have h := o_f q6 h
      refine z_aload_n 1 C d_X12_readHours_59 rfl rfl ?_
      refine z_get (k := 7) (v := .ref (gB G + 5)) C (eY_0 _ _) (by decide) rfl inX12 (by decide) wf_X12_29 rfl d_X12_readHours_60 ?_
      refine z_sipush (v := (171 : Int32)) C d_X12_readHours_63 (by decide) ?_
      refine z_iload_n 3 C d_X12_readHours_66 rfl rfl ?_
      refine z_iadd C d_X12_readHours_67 ?_
      refine z_iload_n 0 C d_X12_readHours_68 rfl rfl ?_
      obtain ⟨q12, h⟩ := o_ck h
      obtain ⟨M10, e11, h⟩ := o_wr h
      refine z_ast (fun r q => eY_5 r q) C (by decide) q12 d_X12_readHours_69 ?_
      refine z_nM e11 ?_
      refine z_goto C d_X12_readHours_70 ?_
      exact z_sub [1, 2, 3] rfl (k_X12_readHours_80 C hlk hr hk2 h)
set_option maxRecDepth 4000 in
theorem k_X12_readHours_21 {p : Program} {l : Launch} {e : Env} {s : State} {m : MethodId} {args : Array Value} {below : List Frame} {meth : Method} {c : Code} {G : GG} {k2 : Mm → Int32 → Option Mm} {M : Mm} {x1 : Int32} {x2 : Int32} {M2 : Mm} (C : CX p s m args c prog_14_method_14_code 4 "SnowSentriesModel" 1 G) (hlk : meth.locks = false) (hr : meth.sig.returnType = none) (hk2 : ∀ (M : Mm) (x2 : Int32), k2 M x2 = some M2 → Z p l e { frames := 3, cells := 0, slots := 0, locals := 70 } s m args below meth c 1 G 4 (MQ below (QC 1 G none M2) args s 0 0 (AU 1 G)) 2 [(0, .ref (gB G + 0)), (1, .int x1), (2, .int x2)] [] M) : f_X12_readHours_21 k2 M x1 x2 = some M2 → Z p l e { frames := 3, cells := 0, slots := 0, locals := 70 } s m args below meth c 1 G 4 (MQ below (QC 1 G none M2) args s 0 0 (AU 1 G)) 21 [(0, .ref (gB G + 0)), (1, .int x1), (2, .int x2)] [] M := by
  intro h
  unfold f_X12_readHours_21 at h
  refine z_aload_n 0 C d_X12_readHours_21 rfl rfl ?_
  refine z_get (k := 23) (v := .int (M.1 0 23)) C (eY_0 _ _) (by decide) rfl inX12 (by decide) wf_X12_88 rfl d_X12_readHours_22 ?_
  refine z_iconst (v := (2 : Int32)) C d_X12_readHours_25 (by decide) ?_
  refine z_icmp_ne C d_X12_readHours_26 (fun q1 => ?_) (fun q1 => ?_)
  · have h := o_f q1 h
    exact z_sub [0, 1, 2] rfl (k_X12_readHours_40 C hlk hr hk2 h)
  · have h := o_t q1 h
    refine z_iload_n 2 C d_X12_readHours_29 rfl rfl ?_
    refine z_bipush (v := (12 : Int32)) C d_X12_readHours_30 (by decide) ?_
    refine z_icmp_ne C d_X12_readHours_32 (fun q2 => ?_) (fun q2 => ?_)
    · have h := o_f q2 h
      exact z_sub [0, 1, 2] rfl (k_X12_readHours_40 C hlk hr hk2 h)
    · have h := o_t q2 h
      refine z_aload_n 0 C d_X12_readHours_35 rfl rfl ?_
      refine z_iconst (v := (5 : Int32)) C d_X12_readHours_36 (by decide) ?_
      obtain ⟨p4, e3, h⟩ := o_bd h
      refine z_V (S := []) (As := [.int (5 : Int32)]) C (c_X12_fails l G e3) (eY_0 _ _) (by decide) rfl wc_X12_fails wm_X12_109 ws_X12_fails wl_X12_fails wi_X12 hy_X12_fails ⟨Nat.le_of_ble_eq_true rfl, Nat.le_of_ble_eq_true rfl⟩ rfl rfl (Nat.le_of_ble_eq_true rfl) d_X12_readHours_37 ?_
      exact z_sub [0, 1, 2] rfl (k_X12_readHours_40 C hlk hr hk2 h)
set_option maxRecDepth 4000 in
theorem k_X12_readHours_86 {p : Program} {l : Launch} {e : Env} {s : State} {m : MethodId} {args : Array Value} {below : List Frame} {meth : Method} {c : Code} {G : GG} {M : Mm} {M2 : Mm} (C : CX p s m args c prog_14_method_14_code 4 "SnowSentriesModel" 1 G) (hlk : meth.locks = false) (hr : meth.sig.returnType = none) : f_X12_readHours_86 M = some M2 → Z p l e { frames := 3, cells := 0, slots := 0, locals := 70 } s m args below meth c 1 G 4 (MQ below (QC 1 G none M2) args s 0 0 (AU 1 G)) 86 [] [] M := by
  intro h
  unfold f_X12_readHours_86 at h
  obtain rfl := o_some h
  exact z_vret C hlk hr d_X12_readHours_86
set_option maxRecDepth 4000 in
theorem kb_X12_readHours_2 {p : Program} {l : Launch} {e : Env} {s : State} {m : MethodId} {args : Array Value} {below : List Frame} {meth : Method} {c : Code} {G : GG} {k2 : Mm → Int32 → Option Mm} {x1 : Int32} {M : Mm} {x2 : Int32} {M2 : Mm} (C : CX p s m args c prog_14_method_14_code 4 "SnowSentriesModel" 1 G) (hlk : meth.locks = false) (hr : meth.sig.returnType = none) (hk2 : ∀ (M : Mm) (x2 : Int32), k2 M x2 = some M2 → Z p l e { frames := 3, cells := 0, slots := 0, locals := 70 } s m args below meth c 1 G 4 (MQ below (QC 1 G none M2) args s 0 0 (AU 1 G)) 2 [(0, .ref (gB G + 0)), (1, .int x1), (2, .int x2)] [] M) : b_X12_readHours_2 k2 x1 M x2 = some M2 → Z p l e { frames := 3, cells := 0, slots := 0, locals := 70 } s m args below meth c 1 G 4 (MQ below (QC 1 G none M2) args s 0 0 (AU 1 G)) 2 [(0, .ref (gB G + 0)), (1, .int x1), (2, .int x2)] [] M := by
  intro h
  unfold b_X12_readHours_2 at h
  refine z_aload_n 0 C d_X12_readHours_2 rfl rfl ?_
  refine z_get (k := 19) (v := .int (M.1 0 19)) C (eY_0 _ _) (by decide) rfl inX12 (by decide) wf_X12_79 rfl d_X12_readHours_3 ?_
  refine z_if_ne C d_X12_readHours_6 (fun q1 => ?_) (fun q1 => ?_)
  · have h := o_f q1 h
    exact z_sub [] rfl (k_X12_readHours_86 C hlk hr h)
  · have h := o_t q1 h
    refine z_iload_n 2 C d_X12_readHours_9 rfl rfl ?_
    refine z_if_eq C d_X12_readHours_10 (fun q2 => ?_) (fun q2 => ?_)
    · have h := o_t q2 h
      exact z_sub [0, 1, 2] rfl (k_X12_readHours_21 C hlk hr hk2 h)
    · have h := o_f q2 h
      refine z_aload_n 0 C d_X12_readHours_13 rfl rfl ?_
      refine z_get (k := 23) (v := .int (M.1 0 23)) C (eY_0 _ _) (by decide) rfl inX12 (by decide) wf_X12_88 rfl d_X12_readHours_14 ?_
      refine z_iconst (v := (2 : Int32)) C d_X12_readHours_17 (by decide) ?_
      refine z_icmp_ne C d_X12_readHours_18 (fun q3 => ?_) (fun q3 => ?_)
      · have h := o_f q3 h
        exact z_sub [] rfl (k_X12_readHours_86 C hlk hr h)
      · have h := o_t q3 h
        exact z_sub [0, 1, 2] rfl (k_X12_readHours_21 C hlk hr hk2 h)
theorem k_X12_readHours_2 {p : Program} {l : Launch} {e : Env} {s : State} {m : MethodId} {args : Array Value} {below : List Frame} {meth : Method} {c : Code} {G : GG} {x1 : Int32} {M2 : Mm} (C : CX p s m args c prog_14_method_14_code 4 "SnowSentriesModel" 1 G) (hlk : meth.locks = false) (hr : meth.sig.returnType = none) : ∀ (n : Nat) (M : Mm) (x2 : Int32), f_X12_readHours_2 x1 n M x2 = some M2 → Z p l e { frames := 3, cells := 0, slots := 0, locals := 70 } s m args below meth c 1 G 4 (MQ below (QC 1 G none M2) args s 0 0 (AU 1 G)) 2 [(0, .ref (gB G + 0)), (1, .int x1), (2, .int x2)] [] M := by
  intro n
  induction n with
  | zero =>
    intro M x2  h
    exact absurd h (fun z => by cases z)
  | succ n ih =>
    intro M x2  h
    exact kb_X12_readHours_2 C hlk hr  (fun M x2 h => ih M x2 h) h
set_option maxRecDepth 4000 in
theorem k_X12_readHours_0 {p : Program} {l : Launch} {e : Env} {s : State} {m : MethodId} {args : Array Value} {below : List Frame} {meth : Method} {c : Code} {G : GG} {M : Mm} {x1 : Int32} {M2 : Mm} (C : CX p s m args c prog_14_method_14_code 4 "SnowSentriesModel" 1 G) (hlk : meth.locks = false) (hr : meth.sig.returnType = none) : f_X12_readHours M x1 = some M2 → Z p l e { frames := 3, cells := 0, slots := 0, locals := 70 } s m args below meth c 1 G 4 (MQ below (QC 1 G none M2) args s 0 0 (AU 1 G)) 0 [(0, .ref (gB G + 0)), (1, .int x1)] [] M := by
  intro h
  unfold f_X12_readHours at h
  refine z_iconst (v := (0 : Int32)) C d_X12_readHours_0 (by decide) ?_
  refine z_istore_n (L' := [(2, .int (0 : Int32)), (0, .ref (gB G + 0)), (1, .int x1)]) C d_X12_readHours_1 rfl (by decide) rfl ?_
  exact z_sub [1, 2, 0] rfl (k_X12_readHours_2 C hlk hr _ _ _ h)
theorem c_X12_readHours (l : Launch) (G : GG) {M : Mm} {x1 : Int32} {M2 : Mm} (h : f_X12_readHours M x1 = some M2) : CT l 1 G y_X12_readHours prog_14_method_14_code 4 none 3 70 [.ref (gB G + 0), .int x1] M none M2 :=
  CT.of (by decide +kernel) (Nat.le_of_ble_eq_true rfl) rfl (fun p e s m args below meth c C hlk hr => k_X12_readHours_0 C hlk hr h)
-- SnowSentriesModel.readOnce(I)V
set_option maxRecDepth 4000 in
theorem k_X12_readOnce_110 {p : Program} {l : Launch} {e : Env} {s : State} {m : MethodId} {args : Array Value} {below : List Frame} {meth : Method} {c : Code} {G : GG} {M : Mm} {M2 : Mm} (C : CX p s m args c prog_14_method_15_code 2 "SnowSentriesModel" 1 G) (hlk : meth.locks = false) (hr : meth.sig.returnType = none) : f_X12_readOnce_110 M = some M2 → Z p l e { frames := 4, cells := 0, slots := 0, locals := 93 } s m args below meth c 1 G 2 (MQ below (QC 1 G none M2) args s 0 0 (AU 1 G)) 110 [] [] M := by
  intro h
  unfold f_X12_readOnce_110 at h
  obtain rfl := o_some h
  exact z_vret C hlk hr d_X12_readOnce_110
set_option maxRecDepth 4000 in
theorem k_X12_readOnce_107 {p : Program} {l : Launch} {e : Env} {s : State} {m : MethodId} {args : Array Value} {below : List Frame} {meth : Method} {c : Code} {G : GG} {M : Mm} {s_1 : Int32} {M2 : Mm} (C : CX p s m args c prog_14_method_15_code 2 "SnowSentriesModel" 1 G) (hlk : meth.locks = false) (hr : meth.sig.returnType = none) : f_X12_readOnce_107 M s_1 = some M2 → Z p l e { frames := 4, cells := 0, slots := 0, locals := 93 } s m args below meth c 1 G 2 (MQ below (QC 1 G none M2) args s 0 0 (AU 1 G)) 107 [] [.int s_1, .ref (gB G + 0)] M := by
  intro h
  unfold f_X12_readOnce_107 at h
  obtain ⟨p2, e1, h⟩ := o_bd h
  refine z_V (S := []) (As := [.int s_1]) C (c_X12_readHours l G e1) (eY_0 _ _) (by decide) rfl wc_X12_readHours wm_X12_137 ws_X12_readHours wl_X12_readHours wi_X12 hy_X12_readHours ⟨Nat.le_of_ble_eq_true rfl, Nat.le_of_ble_eq_true rfl⟩ rfl rfl (Nat.le_of_ble_eq_true rfl) d_X12_readOnce_107 ?_
  exact z_sub [] rfl (k_X12_readOnce_110 C hlk hr h)
set_option maxRecDepth 4000 in
theorem k_X12_readOnce_17 {p : Program} {l : Launch} {e : Env} {s : State} {m : MethodId} {args : Array Value} {below : List Frame} {meth : Method} {c : Code} {G : GG} {M : Mm} {x1 : Int32} {M2 : Mm} (C : CX p s m args c prog_14_method_15_code 2 "SnowSentriesModel" 1 G) (hlk : meth.locks = false) (hr : meth.sig.returnType = none) : f_X12_readOnce_17 M x1 = some M2 → Z p l e { frames := 4, cells := 0, slots := 0, locals := 93 } s m args below meth c 1 G 2 (MQ below (QC 1 G none M2) args s 0 0 (AU 1 G)) 17 [(0, .ref (gB G + 0)), (1, .int x1)] [] M := by
  intro h
  unfold f_X12_readOnce_17 at h
  refine z_aload_n 0 C d_X12_readOnce_17 rfl rfl ?_
  refine z_dup C d_X12_readOnce_18 rfl ?_
  refine z_get (k := 13) (v := .int (M.1 0 13)) C (eY_0 _ _) (by decide) rfl inX12 (by decide) wf_X12_131 rfl d_X12_readOnce_19 ?_
  refine z_iconst (v := (1 : Int32)) C d_X12_readOnce_22 (by decide) ?_
  refine z_iload_n 1 C d_X12_readOnce_23 rfl rfl ?_
  refine z_ishl C d_X12_readOnce_24 ?_
  refine z_ior C d_X12_readOnce_25 ?_
  obtain ⟨M1, e2, h⟩ := o_wr h
  refine z_pI (k := 13) (ty := .int) C (fun r q => eY_0 r q) (fun _ _ => rfl) (by decide) rfl inX12 tyX12 tyX12_ok nmX12 (by decide) wf_X12_131 rfl (by decide +kernel) rfl rfl (Nat.le_of_ble_eq_true rfl) d_X12_readOnce_26 ?_
  refine z_nM e2 ?_
  refine z_aload_n 0 C d_X12_readOnce_29 rfl rfl ?_
  obtain ⟨p4, e3, h⟩ := o_bd h
  refine z_V (S := []) (As := []) C (c_X12_step l G e3) (eY_0 _ _) (by decide) rfl wc_X12_step wm_X12_117 ws_X12_step wl_X12_step wi_X12 hy_X12_step ⟨Nat.le_of_ble_eq_true rfl, Nat.le_of_ble_eq_true rfl⟩ rfl rfl (Nat.le_of_ble_eq_true rfl) d_X12_readOnce_30 ?_
  refine z_iload_n 1 C d_X12_readOnce_33 rfl rfl ?_
  refine z_if_ne C d_X12_readOnce_34 (fun q5 => ?_) (fun q5 => ?_)
  · have h := o_f q5 h
    refine z_iload_n 1 C d_X12_readOnce_51 rfl rfl ?_
    refine z_iconst (v := (3 : Int32)) C d_X12_readOnce_52 (by decide) ?_
    refine z_icmp_ne C d_X12_readOnce_53 (fun q6 => ?_) (fun q6 => ?_)
    · have h := o_f q6 h
      refine z_aload_n 0 C d_X12_readOnce_96 rfl rfl ?_
      refine z_iload_n 1 C d_X12_readOnce_97 rfl rfl ?_
      refine z_iconst (v := (1 : Int32)) C d_X12_readOnce_98 (by decide) ?_
      refine z_icmp_ne C d_X12_readOnce_99 (fun q7 => ?_) (fun q7 => ?_)
      · have h := o_f q7 h
        refine z_iconst (v := (0 : Int32)) C d_X12_readOnce_106 (by decide) ?_
        exact z_sub [] rfl (k_X12_readOnce_107 C hlk hr h)
      · have h := o_t q7 h
        refine z_iconst (v := (1 : Int32)) C d_X12_readOnce_102 (by decide) ?_
        refine z_goto C d_X12_readOnce_103 ?_
        exact z_sub [] rfl (k_X12_readOnce_107 C hlk hr h)
    · have h := o_t q6 h
      refine z_aload_n 0 C d_X12_readOnce_56 rfl rfl ?_
      refine z_get (k := 9) (v := .ref (gB G + 7)) C (eY_0 _ _) (by decide) rfl inX12 (by decide) wf_X12_35 rfl d_X12_readOnce_57 ?_
      refine z_iconst (v := (0 : Int32)) C d_X12_readOnce_60 (by decide) ?_
      refine z_aload_n 0 C d_X12_readOnce_61 rfl rfl ?_
      refine z_iconst (v := (1 : Int32)) C d_X12_readOnce_62 (by decide) ?_
      refine z_bipush (v := (99 : Int32)) C d_X12_readOnce_63 (by decide) ?_
      obtain ⟨p9, e8, h⟩ := o_bd h
      refine z_V (S := [.int (0 : Int32), .ref (gB G + 7)]) (As := [.int (1 : Int32), .int (99 : Int32)]) C (c_X12_number l G e8) (eY_0 _ _) (by decide) rfl wc_X12_number wm_X12_127 ws_X12_number wl_X12_number wi_X12 hy_X12_number ⟨Nat.le_of_ble_eq_true rfl, Nat.le_of_ble_eq_true rfl⟩ rfl rfl (Nat.le_of_ble_eq_true rfl) d_X12_readOnce_65 ?_
      obtain ⟨M10, e11, h⟩ := o_wr h
      refine z_ast (fun r q => eY_7 r q) C (by decide) (show inn (0 : Int32) 3 from by decide) d_X12_readOnce_68 ?_
      refine z_nM e11 ?_
      refine z_aload_n 0 C d_X12_readOnce_69 rfl rfl ?_
      refine z_get (k := 9) (v := .ref (gB G + 7)) C (eY_0 _ _) (by decide) rfl inX12 (by decide) wf_X12_35 rfl d_X12_readOnce_70 ?_
      refine z_iconst (v := (1 : Int32)) C d_X12_readOnce_73 (by decide) ?_
      refine z_aload_n 0 C d_X12_readOnce_74 rfl rfl ?_
      refine z_iconst (v := (0 : Int32)) C d_X12_readOnce_75 (by decide) ?_
      refine z_iconst (v := (3 : Int32)) C d_X12_readOnce_76 (by decide) ?_
      obtain ⟨p13, e12, h⟩ := o_bd h
      refine z_V (S := [.int (1 : Int32), .ref (gB G + 7)]) (As := [.int (0 : Int32), .int (3 : Int32)]) C (c_X12_number l G e12) (eY_0 _ _) (by decide) rfl wc_X12_number wm_X12_127 ws_X12_number wl_X12_number wi_X12 hy_X12_number ⟨Nat.le_of_ble_eq_true rfl, Nat.le_of_ble_eq_true rfl⟩ rfl rfl (Nat.le_of_ble_eq_true rfl) d_X12_readOnce_77 ?_
      obtain ⟨M14, e15, h⟩ := o_wr h
      refine z_ast (fun r q => eY_7 r q) C (by decide) (show inn (1 : Int32) 3 from by decide) d_X12_readOnce_80 ?_
      refine z_nM e15 ?_
      refine z_aload_n 0 C d_X12_readOnce_81 rfl rfl ?_
      refine z_get (k := 9) (v := .ref (gB G + 7)) C (eY_0 _ _) (by decide) rfl inX12 (by decide) wf_X12_35 rfl d_X12_readOnce_82 ?_
      refine z_iconst (v := (2 : Int32)) C d_X12_readOnce_85 (by decide) ?_
      refine z_aload_n 0 C d_X12_readOnce_86 rfl rfl ?_
      refine z_iconst (v := (0 : Int32)) C d_X12_readOnce_87 (by decide) ?_
      refine z_iconst (v := (1 : Int32)) C d_X12_readOnce_88 (by decide) ?_
      obtain ⟨p17, e16, h⟩ := o_bd h
      refine z_V (S := [.int (2 : Int32), .ref (gB G + 7)]) (As := [.int (0 : Int32), .int (1 : Int32)]) C (c_X12_number l G e16) (eY_0 _ _) (by decide) rfl wc_X12_number wm_X12_127 ws_X12_number wl_X12_number wi_X12 hy_X12_number ⟨Nat.le_of_ble_eq_true rfl, Nat.le_of_ble_eq_true rfl⟩ rfl rfl (Nat.le_of_ble_eq_true rfl) d_X12_readOnce_89 ?_
      obtain ⟨M18, e19, h⟩ := o_wr h
      refine z_ast (fun r q => eY_7 r q) C (by decide) (show inn (2 : Int32) 3 from by decide) d_X12_readOnce_92 ?_
      refine z_nM e19 ?_
      refine z_goto C d_X12_readOnce_93 ?_
      exact z_sub [] rfl (k_X12_readOnce_110 C hlk hr h)
  · have h := o_t q5 h
    refine z_aload_n 0 C d_X12_readOnce_37 rfl rfl ?_
    refine z_aload_n 0 C d_X12_readOnce_38 rfl rfl ?_
    refine z_iconst (v := (1 : Int32)) C d_X12_readOnce_39 (by decide) ?_
    refine z_bipush (v := (10 : Int32)) C d_X12_readOnce_40 (by decide) ?_
    obtain ⟨p21, e20, h⟩ := o_bd h
    refine z_V (S := [.ref (gB G + 0)]) (As := [.int (1 : Int32), .int (10 : Int32)]) C (c_X12_number l G e20) (eY_0 _ _) (by decide) rfl wc_X12_number wm_X12_127 ws_X12_number wl_X12_number wi_X12 hy_X12_number ⟨Nat.le_of_ble_eq_true rfl, Nat.le_of_ble_eq_true rfl⟩ rfl rfl (Nat.le_of_ble_eq_true rfl) d_X12_readOnce_42 ?_
    obtain ⟨M22, e23, h⟩ := o_wr h
    refine z_pI (k := 12) (ty := .int) C (fun r q => eY_0 r q) (fun _ _ => rfl) (by decide) rfl inX12 tyX12 tyX12_ok nmX12 (by decide) wf_X12_134 rfl (by decide +kernel) rfl rfl (Nat.le_of_ble_eq_true rfl) d_X12_readOnce_45 ?_
    refine z_nM e23 ?_
    refine z_goto C d_X12_readOnce_48 ?_
    exact z_sub [] rfl (k_X12_readOnce_110 C hlk hr h)
set_option maxRecDepth 4000 in
theorem k_X12_readOnce_0 {p : Program} {l : Launch} {e : Env} {s : State} {m : MethodId} {args : Array Value} {below : List Frame} {meth : Method} {c : Code} {G : GG} {M : Mm} {x1 : Int32} {M2 : Mm} (C : CX p s m args c prog_14_method_15_code 2 "SnowSentriesModel" 1 G) (hlk : meth.locks = false) (hr : meth.sig.returnType = none) : f_X12_readOnce M x1 = some M2 → Z p l e { frames := 4, cells := 0, slots := 0, locals := 93 } s m args below meth c 1 G 2 (MQ below (QC 1 G none M2) args s 0 0 (AU 1 G)) 0 [(0, .ref (gB G + 0)), (1, .int x1)] [] M := by
  intro h
  unfold f_X12_readOnce at h
  refine z_aload_n 0 C d_X12_readOnce_0 rfl rfl ?_
  refine z_get (k := 13) (v := .int (M.1 0 13)) C (eY_0 _ _) (by decide) rfl inX12 (by decide) wf_X12_131 rfl d_X12_readOnce_1 ?_
  refine z_iload_n 1 C d_X12_readOnce_4 rfl rfl ?_
  refine z_ishr C d_X12_readOnce_5 ?_
  refine z_iconst (v := (1 : Int32)) C d_X12_readOnce_6 (by decide) ?_
  refine z_iand C d_X12_readOnce_7 ?_
  refine z_iconst (v := (1 : Int32)) C d_X12_readOnce_8 (by decide) ?_
  refine z_icmp_ne C d_X12_readOnce_9 (fun q1 => ?_) (fun q1 => ?_)
  · have h := o_f q1 h
    exact z_sub [0, 1] rfl (k_X12_readOnce_17 C hlk hr h)
  · have h := o_t q1 h
    refine z_aload_n 0 C d_X12_readOnce_12 rfl rfl ?_
    refine z_iconst (v := (4 : Int32)) C d_X12_readOnce_13 (by decide) ?_
    obtain ⟨p3, e2, h⟩ := o_bd h
    refine z_V (S := []) (As := [.int (4 : Int32)]) C (c_X12_fails l G e2) (eY_0 _ _) (by decide) rfl wc_X12_fails wm_X12_109 ws_X12_fails wl_X12_fails wi_X12 hy_X12_fails ⟨Nat.le_of_ble_eq_true rfl, Nat.le_of_ble_eq_true rfl⟩ rfl rfl (Nat.le_of_ble_eq_true rfl) d_X12_readOnce_14 ?_
    exact z_sub [0, 1] rfl (k_X12_readOnce_17 C hlk hr h)
theorem c_X12_readOnce (l : Launch) (G : GG) {M : Mm} {x1 : Int32} {M2 : Mm} (h : f_X12_readOnce M x1 = some M2) : CT l 1 G y_X12_readOnce prog_14_method_15_code 2 none 4 93 [.ref (gB G + 0), .int x1] M none M2 :=
  CT.of (by decide +kernel) (Nat.le_of_ble_eq_true rfl) rfl (fun p e s m args below meth c C hlk hr => k_X12_readOnce_0 C hlk hr h)
-- SnowSentriesModel.readSnow()V
set_option maxRecDepth 4000 in
theorem k_X12_readSnow_29 {p : Program} {l : Launch} {e : Env} {s : State} {m : MethodId} {args : Array Value} {below : List Frame} {meth : Method} {c : Code} {G : GG} {M : Mm} {x1 : Int32} {M2 : Mm} (C : CX p s m args c prog_14_method_16_code 2 "SnowSentriesModel" 1 G) (hlk : meth.locks = false) (hr : meth.sig.returnType = none) : f_X12_readSnow_29 M x1 = some M2 → Z p l e { frames := 3, cells := 0, slots := 0, locals := 70 } s m args below meth c 1 G 2 (MQ below (QC 1 G none M2) args s 0 0 (AU 1 G)) 29 [(0, .ref (gB G + 0)), (1, .int x1)] [] M := by
  intro h
  unfold f_X12_readSnow_29 at h
  refine z_aload_n 0 C d_X12_readSnow_29 rfl rfl ?_
  refine z_dup C d_X12_readSnow_30 rfl ?_
  refine z_get (k := 14) (v := .int (M.1 0 14)) C (eY_0 _ _) (by decide) rfl inX12 (by decide) wf_X12_144 rfl d_X12_readSnow_31 ?_
  refine z_iconst (v := (1 : Int32)) C d_X12_readSnow_34 (by decide) ?_
  refine z_iload_n 1 C d_X12_readSnow_35 rfl rfl ?_
  refine z_ishl C d_X12_readSnow_36 ?_
  refine z_ior C d_X12_readSnow_37 ?_
  obtain ⟨M1, e2, h⟩ := o_wr h
  refine z_pI (k := 14) (ty := .int) C (fun r q => eY_0 r q) (fun _ _ => rfl) (by decide) rfl inX12 tyX12 tyX12_ok nmX12 (by decide) wf_X12_144 rfl (by decide +kernel) rfl rfl (Nat.le_of_ble_eq_true rfl) d_X12_readSnow_38 ?_
  refine z_nM e2 ?_
  refine z_aload_n 0 C d_X12_readSnow_41 rfl rfl ?_
  obtain ⟨p4, e3, h⟩ := o_bd h
  refine z_V (S := []) (As := []) C (c_X12_step l G e3) (eY_0 _ _) (by decide) rfl wc_X12_step wm_X12_117 ws_X12_step wl_X12_step wi_X12 hy_X12_step ⟨Nat.le_of_ble_eq_true rfl, Nat.le_of_ble_eq_true rfl⟩ rfl rfl (Nat.le_of_ble_eq_true rfl) d_X12_readSnow_42 ?_
  refine z_aload_n 0 C d_X12_readSnow_45 rfl rfl ?_
  refine z_get (k := 7) (v := .ref (gB G + 5)) C (eY_0 _ _) (by decide) rfl inX12 (by decide) wf_X12_29 rfl d_X12_readSnow_46 ?_
  refine z_sipush (v := (140 : Int32)) C d_X12_readSnow_49 (by decide) ?_
  refine z_iload_n 1 C d_X12_readSnow_52 rfl rfl ?_
  refine z_iadd C d_X12_readSnow_53 ?_
  refine z_aload_n 0 C d_X12_readSnow_54 rfl rfl ?_
  refine z_iconst (v := (0 : Int32)) C d_X12_readSnow_55 (by decide) ?_
  refine z_sipush (v := (200 : Int32)) C d_X12_readSnow_56 (by decide) ?_
  obtain ⟨p6, e5, h⟩ := o_bd h
  refine z_V (S := [.int ((140 : Int32) + x1), .ref (gB G + 5)]) (As := [.int (0 : Int32), .int (200 : Int32)]) C (c_X12_number l G e5) (eY_0 _ _) (by decide) rfl wc_X12_number wm_X12_127 ws_X12_number wl_X12_number wi_X12 hy_X12_number ⟨Nat.le_of_ble_eq_true rfl, Nat.le_of_ble_eq_true rfl⟩ rfl rfl (Nat.le_of_ble_eq_true rfl) d_X12_readSnow_59 ?_
  obtain ⟨q9, h⟩ := o_ck h
  obtain ⟨M7, e8, h⟩ := o_wr h
  refine z_ast (fun r q => eY_5 r q) C (by decide) q9 d_X12_readSnow_62 ?_
  refine z_nM e8 ?_
  obtain rfl := o_some h
  exact z_vret C hlk hr d_X12_readSnow_63
set_option maxRecDepth 4000 in
theorem k_X12_readSnow_0 {p : Program} {l : Launch} {e : Env} {s : State} {m : MethodId} {args : Array Value} {below : List Frame} {meth : Method} {c : Code} {G : GG} {M : Mm} {M2 : Mm} (C : CX p s m args c prog_14_method_16_code 2 "SnowSentriesModel" 1 G) (hlk : meth.locks = false) (hr : meth.sig.returnType = none) : f_X12_readSnow M = some M2 → Z p l e { frames := 3, cells := 0, slots := 0, locals := 70 } s m args below meth c 1 G 2 (MQ below (QC 1 G none M2) args s 0 0 (AU 1 G)) 0 [(0, .ref (gB G + 0))] [] M := by
  intro h
  unfold f_X12_readSnow at h
  refine z_aload_n 0 C d_X12_readSnow_0 rfl rfl ?_
  obtain ⟨p2, e1, h⟩ := o_bd h
  refine z_V (S := []) (As := []) C (c_X12_furlongHere l G e1) (eY_0 _ _) (by decide) rfl wc_X12_furlongHere wm_X12_141 ws_X12_furlongHere wl_X12_furlongHere wi_X12 hy_X12_furlongHere ⟨Nat.le_of_ble_eq_true rfl, Nat.le_of_ble_eq_true rfl⟩ rfl rfl (Nat.le_of_ble_eq_true rfl) d_X12_readSnow_1 ?_
  obtain ⟨v3, e4, h⟩ := o_nm h
  refine z_nI e4 ?_
  refine z_istore_n (L' := [(1, .int v3), (0, .ref (gB G + 0))]) C d_X12_readSnow_4 rfl (by decide) rfl ?_
  refine z_aload_n 1 C d_X12_readSnow_5 rfl rfl ?_
  refine z_get (k := 19) (v := .int (p2.2.1 0 19)) C (eY_0 _ _) (by decide) rfl inX12 (by decide) wf_X12_79 rfl d_X12_readSnow_6 ?_
  refine z_if_ne C d_X12_readSnow_9 (fun q5 => ?_) (fun q5 => ?_)
  · have h := o_f q5 h
    exact z_sub [1, 0] rfl (k_X12_readSnow_29 C hlk hr h)
  · have h := o_t q5 h
    refine z_aload_n 1 C d_X12_readSnow_12 rfl rfl ?_
    refine z_get (k := 14) (v := .int (p2.2.1 0 14)) C (eY_0 _ _) (by decide) rfl inX12 (by decide) wf_X12_144 rfl d_X12_readSnow_13 ?_
    refine z_iload_n 0 C d_X12_readSnow_16 rfl rfl ?_
    refine z_ishr C d_X12_readSnow_17 ?_
    refine z_iconst (v := (1 : Int32)) C d_X12_readSnow_18 (by decide) ?_
    refine z_iand C d_X12_readSnow_19 ?_
    refine z_iconst (v := (1 : Int32)) C d_X12_readSnow_20 (by decide) ?_
    refine z_icmp_ne C d_X12_readSnow_21 (fun q6 => ?_) (fun q6 => ?_)
    · have h := o_f q6 h
      exact z_sub [1, 0] rfl (k_X12_readSnow_29 C hlk hr h)
    · have h := o_t q6 h
      refine z_aload_n 1 C d_X12_readSnow_24 rfl rfl ?_
      refine z_iconst (v := (4 : Int32)) C d_X12_readSnow_25 (by decide) ?_
      obtain ⟨p8, e7, h⟩ := o_bd h
      refine z_V (S := []) (As := [.int (4 : Int32)]) C (c_X12_fails l G e7) (eY_0 _ _) (by decide) rfl wc_X12_fails wm_X12_109 ws_X12_fails wl_X12_fails wi_X12 hy_X12_fails ⟨Nat.le_of_ble_eq_true rfl, Nat.le_of_ble_eq_true rfl⟩ rfl rfl (Nat.le_of_ble_eq_true rfl) d_X12_readSnow_26 ?_
      exact z_sub [1, 0] rfl (k_X12_readSnow_29 C hlk hr h)
theorem c_X12_readSnow (l : Launch) (G : GG) {M : Mm} {M2 : Mm} (h : f_X12_readSnow M = some M2) : CT l 1 G y_X12_readSnow prog_14_method_16_code 2 none 3 70 [.ref (gB G + 0)] M none M2 :=
  CT.of (by decide +kernel) (Nat.le_of_ble_eq_true rfl) rfl (fun p e s m args below meth c C hlk hr => k_X12_readSnow_0 C hlk hr h)
-- SnowSentriesModel.readMan()V
set_option maxRecDepth 4000 in
theorem k_X12_readMan_166 {p : Program} {l : Launch} {e : Env} {s : State} {m : MethodId} {args : Array Value} {below : List Frame} {meth : Method} {c : Code} {G : GG} {M : Mm} {M2 : Mm} (C : CX p s m args c prog_14_method_17_code 4 "SnowSentriesModel" 1 G) (hlk : meth.locks = false) (hr : meth.sig.returnType = none) : f_X12_readMan_166 M = some M2 → Z p l e { frames := 3, cells := 0, slots := 0, locals := 70 } s m args below meth c 1 G 4 (MQ below (QC 1 G none M2) args s 0 0 (AU 1 G)) 166 [] [] M := by
  intro h
  unfold f_X12_readMan_166 at h
  obtain rfl := o_some h
  exact z_vret C hlk hr d_X12_readMan_166
set_option maxRecDepth 4000 in
theorem k_X12_readMan_46 {p : Program} {l : Launch} {e : Env} {s : State} {m : MethodId} {args : Array Value} {below : List Frame} {meth : Method} {c : Code} {G : GG} {M : Mm} {x3 : Int32} {M2 : Mm} (C : CX p s m args c prog_14_method_17_code 4 "SnowSentriesModel" 1 G) (hlk : meth.locks = false) (hr : meth.sig.returnType = none) : f_X12_readMan_46 M x3 = some M2 → Z p l e { frames := 3, cells := 0, slots := 0, locals := 70 } s m args below meth c 1 G 4 (MQ below (QC 1 G none M2) args s 0 0 (AU 1 G)) 46 [(0, .ref (gB G + 0)), (3, .int x3)] [] M := by
  intro h
  unfold f_X12_readMan_46 at h
  refine z_aload_n 0 C d_X12_readMan_46 rfl rfl ?_
  obtain ⟨p2, e1, h⟩ := o_bd h
  refine z_V (S := []) (As := []) C (c_X12_step l G e1) (eY_0 _ _) (by decide) rfl wc_X12_step wm_X12_117 ws_X12_step wl_X12_step wi_X12 hy_X12_step ⟨Nat.le_of_ble_eq_true rfl, Nat.le_of_ble_eq_true rfl⟩ rfl rfl (Nat.le_of_ble_eq_true rfl) d_X12_readMan_47 ?_
  refine z_aload_n 0 C d_X12_readMan_50 rfl rfl ?_
  refine z_get (k := 7) (v := .ref (gB G + 5)) C (eY_0 _ _) (by decide) rfl inX12 (by decide) wf_X12_29 rfl d_X12_readMan_51 ?_
  refine z_iload_n 1 C d_X12_readMan_54 rfl rfl ?_
  refine z_iconst (v := (1 : Int32)) C d_X12_readMan_55 (by decide) ?_
  refine z_iadd C d_X12_readMan_56 ?_
  refine z_aload_n 0 C d_X12_readMan_57 rfl rfl ?_
  refine z_bipush (v := (10 : Int32)) C d_X12_readMan_58 (by decide) ?_
  refine z_bipush (v := (14 : Int32)) C d_X12_readMan_60 (by decide) ?_
  obtain ⟨p4, e3, h⟩ := o_bd h
  refine z_V (S := [.int (x3 + (1 : Int32)), .ref (gB G + 5)]) (As := [.int (10 : Int32), .int (14 : Int32)]) C (c_X12_name l G e3) (eY_0 _ _) (by decide) rfl wc_X12_name wm_X12_147 ws_X12_name wl_X12_name wi_X12 hy_X12_name ⟨Nat.le_of_ble_eq_true rfl, Nat.le_of_ble_eq_true rfl⟩ rfl rfl (Nat.le_of_ble_eq_true rfl) d_X12_readMan_62 ?_
  obtain ⟨q7, h⟩ := o_ck h
  obtain ⟨M5, e6, h⟩ := o_wr h
  refine z_ast (fun r q => eY_5 r q) C (by decide) q7 d_X12_readMan_65 ?_
  refine z_nM e6 ?_
  refine z_aload_n 0 C d_X12_readMan_66 rfl rfl ?_
  refine z_get (k := 7) (v := .ref (gB G + 5)) C (eY_0 _ _) (by decide) rfl inX12 (by decide) wf_X12_29 rfl d_X12_readMan_67 ?_
  refine z_iload_n 1 C d_X12_readMan_70 rfl rfl ?_
  refine z_iconst (v := (2 : Int32)) C d_X12_readMan_71 (by decide) ?_
  refine z_iadd C d_X12_readMan_72 ?_
  refine z_aload_n 0 C d_X12_readMan_73 rfl rfl ?_
  refine z_iconst (v := (0 : Int32)) C d_X12_readMan_74 (by decide) ?_
  refine z_bipush (v := (99 : Int32)) C d_X12_readMan_75 (by decide) ?_
  obtain ⟨p9, e8, h⟩ := o_bd h
  refine z_V (S := [.int (x3 + (2 : Int32)), .ref (gB G + 5)]) (As := [.int (0 : Int32), .int (99 : Int32)]) C (c_X12_number l G e8) (eY_0 _ _) (by decide) rfl wc_X12_number wm_X12_127 ws_X12_number wl_X12_number wi_X12 hy_X12_number ⟨Nat.le_of_ble_eq_true rfl, Nat.le_of_ble_eq_true rfl⟩ rfl rfl (Nat.le_of_ble_eq_true rfl) d_X12_readMan_77 ?_
  obtain ⟨q12, h⟩ := o_ck h
  obtain ⟨M10, e11, h⟩ := o_wr h
  refine z_ast (fun r q => eY_5 r q) C (by decide) q12 d_X12_readMan_80 ?_
  refine z_nM e11 ?_
  refine z_aload_n 0 C d_X12_readMan_81 rfl rfl ?_
  refine z_get (k := 7) (v := .ref (gB G + 5)) C (eY_0 _ _) (by decide) rfl inX12 (by decide) wf_X12_29 rfl d_X12_readMan_82 ?_
  refine z_iload_n 1 C d_X12_readMan_85 rfl rfl ?_
  refine z_iconst (v := (3 : Int32)) C d_X12_readMan_86 (by decide) ?_
  refine z_iadd C d_X12_readMan_87 ?_
  refine z_aload_n 0 C d_X12_readMan_88 rfl rfl ?_
  refine z_iconst (v := (0 : Int32)) C d_X12_readMan_89 (by decide) ?_
  refine z_bipush (v := (99 : Int32)) C d_X12_readMan_90 (by decide) ?_
  obtain ⟨p14, e13, h⟩ := o_bd h
  refine z_V (S := [.int (x3 + (3 : Int32)), .ref (gB G + 5)]) (As := [.int (0 : Int32), .int (99 : Int32)]) C (c_X12_number l G e13) (eY_0 _ _) (by decide) rfl wc_X12_number wm_X12_127 ws_X12_number wl_X12_number wi_X12 hy_X12_number ⟨Nat.le_of_ble_eq_true rfl, Nat.le_of_ble_eq_true rfl⟩ rfl rfl (Nat.le_of_ble_eq_true rfl) d_X12_readMan_92 ?_
  obtain ⟨q17, h⟩ := o_ck h
  obtain ⟨M15, e16, h⟩ := o_wr h
  refine z_ast (fun r q => eY_5 r q) C (by decide) q17 d_X12_readMan_95 ?_
  refine z_nM e16 ?_
  refine z_aload_n 0 C d_X12_readMan_96 rfl rfl ?_
  refine z_get (k := 7) (v := .ref (gB G + 5)) C (eY_0 _ _) (by decide) rfl inX12 (by decide) wf_X12_29 rfl d_X12_readMan_97 ?_
  refine z_iload_n 1 C d_X12_readMan_100 rfl rfl ?_
  refine z_iconst (v := (4 : Int32)) C d_X12_readMan_101 (by decide) ?_
  refine z_iadd C d_X12_readMan_102 ?_
  refine z_aload_n 0 C d_X12_readMan_103 rfl rfl ?_
  refine z_iconst (v := (0 : Int32)) C d_X12_readMan_104 (by decide) ?_
  refine z_bipush (v := (99 : Int32)) C d_X12_readMan_105 (by decide) ?_
  obtain ⟨p19, e18, h⟩ := o_bd h
  refine z_V (S := [.int (x3 + (4 : Int32)), .ref (gB G + 5)]) (As := [.int (0 : Int32), .int (99 : Int32)]) C (c_X12_number l G e18) (eY_0 _ _) (by decide) rfl wc_X12_number wm_X12_127 ws_X12_number wl_X12_number wi_X12 hy_X12_number ⟨Nat.le_of_ble_eq_true rfl, Nat.le_of_ble_eq_true rfl⟩ rfl rfl (Nat.le_of_ble_eq_true rfl) d_X12_readMan_107 ?_
  obtain ⟨q22, h⟩ := o_ck h
  obtain ⟨M20, e21, h⟩ := o_wr h
  refine z_ast (fun r q => eY_5 r q) C (by decide) q22 d_X12_readMan_110 ?_
  refine z_nM e21 ?_
  refine z_aload_n 0 C d_X12_readMan_111 rfl rfl ?_
  refine z_get (k := 7) (v := .ref (gB G + 5)) C (eY_0 _ _) (by decide) rfl inX12 (by decide) wf_X12_29 rfl d_X12_readMan_112 ?_
  refine z_iload_n 1 C d_X12_readMan_115 rfl rfl ?_
  refine z_iconst (v := (5 : Int32)) C d_X12_readMan_116 (by decide) ?_
  refine z_iadd C d_X12_readMan_117 ?_
  refine z_aload_n 0 C d_X12_readMan_118 rfl rfl ?_
  refine z_iconst (v := (0 : Int32)) C d_X12_readMan_119 (by decide) ?_
  refine z_iconst (v := (3 : Int32)) C d_X12_readMan_120 (by decide) ?_
  obtain ⟨p24, e23, h⟩ := o_bd h
  refine z_V (S := [.int (x3 + (5 : Int32)), .ref (gB G + 5)]) (As := [.int (0 : Int32), .int (3 : Int32)]) C (c_X12_number l G e23) (eY_0 _ _) (by decide) rfl wc_X12_number wm_X12_127 ws_X12_number wl_X12_number wi_X12 hy_X12_number ⟨Nat.le_of_ble_eq_true rfl, Nat.le_of_ble_eq_true rfl⟩ rfl rfl (Nat.le_of_ble_eq_true rfl) d_X12_readMan_121 ?_
  obtain ⟨q27, h⟩ := o_ck h
  obtain ⟨M25, e26, h⟩ := o_wr h
  refine z_ast (fun r q => eY_5 r q) C (by decide) q27 d_X12_readMan_124 ?_
  refine z_nM e26 ?_
  refine z_aload_n 0 C d_X12_readMan_125 rfl rfl ?_
  refine z_get (k := 7) (v := .ref (gB G + 5)) C (eY_0 _ _) (by decide) rfl inX12 (by decide) wf_X12_29 rfl d_X12_readMan_126 ?_
  refine z_iload_n 1 C d_X12_readMan_129 rfl rfl ?_
  refine z_iconst (v := (1 : Int32)) C d_X12_readMan_130 (by decide) ?_
  obtain ⟨q30, h⟩ := o_ck h
  obtain ⟨M28, e29, h⟩ := o_wr h
  refine z_ast (fun r q => eY_5 r q) C (by decide) q30 d_X12_readMan_131 ?_
  refine z_nM e29 ?_
  refine z_aload_n 0 C d_X12_readMan_132 rfl rfl ?_
  refine z_get (k := 19) (v := .int (M28.1 0 19)) C (eY_0 _ _) (by decide) rfl inX12 (by decide) wf_X12_79 rfl d_X12_readMan_133 ?_
  refine z_if_ne C d_X12_readMan_136 (fun q31 => ?_) (fun q31 => ?_)
  · have h := o_f q31 h
    exact z_sub [] rfl (k_X12_readMan_166 C hlk hr h)
  · have h := o_t q31 h
    refine z_aload_n 0 C d_X12_readMan_139 rfl rfl ?_
    refine z_get (k := 23) (v := .int (M28.1 0 23)) C (eY_0 _ _) (by decide) rfl inX12 (by decide) wf_X12_88 rfl d_X12_readMan_140 ?_
    refine z_iconst (v := (1 : Int32)) C d_X12_readMan_143 (by decide) ?_
    refine z_icmp_ne C d_X12_readMan_144 (fun q32 => ?_) (fun q32 => ?_)
    · have h := o_f q32 h
      exact z_sub [] rfl (k_X12_readMan_166 C hlk hr h)
    · have h := o_t q32 h
      refine z_aload_n 0 C d_X12_readMan_147 rfl rfl ?_
      refine z_bipush (v := (15 : Int32)) C d_X12_readMan_148 (by decide) ?_
      refine z_bipush (v := (15 : Int32)) C d_X12_readMan_150 (by decide) ?_
      obtain ⟨p34, e33, h⟩ := o_bd h
      refine z_V (S := []) (As := [.int (15 : Int32), .int (15 : Int32)]) C (c_X12_name l G e33) (eY_0 _ _) (by decide) rfl wc_X12_name wm_X12_147 ws_X12_name wl_X12_name wi_X12 hy_X12_name ⟨Nat.le_of_ble_eq_true rfl, Nat.le_of_ble_eq_true rfl⟩ rfl rfl (Nat.le_of_ble_eq_true rfl) d_X12_readMan_152 ?_
      refine z_pop C d_X12_readMan_155 rfl ?_
      refine z_aload_n 0 C d_X12_readMan_156 rfl rfl ?_
      refine z_get (k := 7) (v := .ref (gB G + 5)) C (eY_0 _ _) (by decide) rfl inX12 (by decide) wf_X12_29 rfl d_X12_readMan_157 ?_
      refine z_iload_n 1 C d_X12_readMan_160 rfl rfl ?_
      refine z_bipush (v := (6 : Int32)) C d_X12_readMan_161 (by decide) ?_
      refine z_iadd C d_X12_readMan_163 ?_
      refine z_iconst (v := (1 : Int32)) C d_X12_readMan_164 (by decide) ?_
      obtain ⟨q37, h⟩ := o_ck h
      obtain ⟨M35, e36, h⟩ := o_wr h
      refine z_ast (fun r q => eY_5 r q) C (by decide) q37 d_X12_readMan_165 ?_
      refine z_nM e36 ?_
      exact z_sub [] rfl (k_X12_readMan_166 C hlk hr h)
set_option maxRecDepth 4000 in
theorem k_X12_readMan_0 {p : Program} {l : Launch} {e : Env} {s : State} {m : MethodId} {args : Array Value} {below : List Frame} {meth : Method} {c : Code} {G : GG} {M : Mm} {M2 : Mm} (C : CX p s m args c prog_14_method_17_code 4 "SnowSentriesModel" 1 G) (hlk : meth.locks = false) (hr : meth.sig.returnType = none) : f_X12_readMan M = some M2 → Z p l e { frames := 3, cells := 0, slots := 0, locals := 70 } s m args below meth c 1 G 4 (MQ below (QC 1 G none M2) args s 0 0 (AU 1 G)) 0 [(0, .ref (gB G + 0))] [] M := by
  intro h
  unfold f_X12_readMan at h
  refine z_aload_n 0 C d_X12_readMan_0 rfl rfl ?_
  refine z_bipush (v := (8 : Int32)) C d_X12_readMan_1 (by decide) ?_
  refine z_bipush (v := (9 : Int32)) C d_X12_readMan_3 (by decide) ?_
  obtain ⟨p2, e1, h⟩ := o_bd h
  refine z_V (S := []) (As := [.int (8 : Int32), .int (9 : Int32)]) C (c_X12_name l G e1) (eY_0 _ _) (by decide) rfl wc_X12_name wm_X12_147 ws_X12_name wl_X12_name wi_X12 hy_X12_name ⟨Nat.le_of_ble_eq_true rfl, Nat.le_of_ble_eq_true rfl⟩ rfl rfl (Nat.le_of_ble_eq_true rfl) d_X12_readMan_5 ?_
  obtain ⟨v3, e4, h⟩ := o_nm h
  refine z_nI e4 ?_
  refine z_istore_n (L' := [(1, .int v3), (0, .ref (gB G + 0))]) C d_X12_readMan_8 rfl (by decide) rfl ?_
  refine z_aload_n 1 C d_X12_readMan_9 rfl rfl ?_
  obtain ⟨p6, e5, h⟩ := o_bd h
  refine z_V (S := []) (As := []) C (c_X12_furlongHere l G e5) (eY_0 _ _) (by decide) rfl wc_X12_furlongHere wm_X12_141 ws_X12_furlongHere wl_X12_furlongHere wi_X12 hy_X12_furlongHere ⟨Nat.le_of_ble_eq_true rfl, Nat.le_of_ble_eq_true rfl⟩ rfl rfl (Nat.le_of_ble_eq_true rfl) d_X12_readMan_10 ?_
  obtain ⟨v7, e8, h⟩ := o_nm h
  refine z_nI e8 ?_
  refine z_istore_n (L' := [(2, .int v7), (1, .int v3), (0, .ref (gB G + 0))]) C d_X12_readMan_13 rfl (by decide) rfl ?_
  refine z_bipush (v := (7 : Int32)) C d_X12_readMan_14 (by decide) ?_
  refine z_bipush (v := (10 : Int32)) C d_X12_readMan_16 (by decide) ?_
  refine z_iload_n 1 C d_X12_readMan_18 rfl rfl ?_
  refine z_imul C d_X12_readMan_19 ?_
  refine z_iload_n 0 C d_X12_readMan_20 rfl rfl ?_
  refine z_iadd C d_X12_readMan_21 ?_
  refine z_imul C d_X12_readMan_22 ?_
  obtain ⟨v9, e10, h⟩ := o_nm h
  refine z_nI e10 ?_
  refine z_istore_n (L' := [(3, .int v9), (2, .int v7), (1, .int v3), (0, .ref (gB G + 0))]) C d_X12_readMan_23 rfl (by decide) rfl ?_
  refine z_aload_n 3 C d_X12_readMan_24 rfl rfl ?_
  refine z_get (k := 19) (v := .int (p6.2.1 0 19)) C (eY_0 _ _) (by decide) rfl inX12 (by decide) wf_X12_79 rfl d_X12_readMan_25 ?_
  refine z_if_ne C d_X12_readMan_28 (fun q11 => ?_) (fun q11 => ?_)
  · have h := o_f q11 h
    exact z_sub [3, 0] rfl (k_X12_readMan_46 C hlk hr h)
  · have h := o_t q11 h
    refine z_aload_n 3 C d_X12_readMan_31 rfl rfl ?_
    refine z_get (k := 7) (v := .ref (gB G + 5)) C (eY_0 _ _) (by decide) rfl inX12 (by decide) wf_X12_29 rfl d_X12_readMan_32 ?_
    refine z_iload_n 0 C d_X12_readMan_35 rfl rfl ?_
    obtain ⟨q12, h⟩ := o_ck h
    refine z_ald (eY_5 _ _) C (by decide) q12 d_X12_readMan_36 ?_
    refine z_iconst (v := (1 : Int32)) C d_X12_readMan_37 (by decide) ?_
    refine z_icmp_ne C d_X12_readMan_38 (fun q13 => ?_) (fun q13 => ?_)
    · have h := o_f q13 h
      exact z_sub [3, 0] rfl (k_X12_readMan_46 C hlk hr h)
    · have h := o_t q13 h
      refine z_aload_n 3 C d_X12_readMan_41 rfl rfl ?_
      refine z_iconst (v := (4 : Int32)) C d_X12_readMan_42 (by decide) ?_
      obtain ⟨p15, e14, h⟩ := o_bd h
      refine z_V (S := []) (As := [.int (4 : Int32)]) C (c_X12_fails l G e14) (eY_0 _ _) (by decide) rfl wc_X12_fails wm_X12_109 ws_X12_fails wl_X12_fails wi_X12 hy_X12_fails ⟨Nat.le_of_ble_eq_true rfl, Nat.le_of_ble_eq_true rfl⟩ rfl rfl (Nat.le_of_ble_eq_true rfl) d_X12_readMan_43 ?_
      exact z_sub [3, 0] rfl (k_X12_readMan_46 C hlk hr h)
theorem c_X12_readMan (l : Launch) (G : GG) {M : Mm} {M2 : Mm} (h : f_X12_readMan M = some M2) : CT l 1 G y_X12_readMan prog_14_method_17_code 4 none 3 70 [.ref (gB G + 0)] M none M2 :=
  CT.of (by decide +kernel) (Nat.le_of_ble_eq_true rfl) rfl (fun p e s m args below meth c C hlk hr => k_X12_readMan_0 C hlk hr h)
-- SnowSentriesModel.readBrazier()V
set_option maxRecDepth 4000 in
theorem k_X12_readBrazier_0 {p : Program} {l : Launch} {e : Env} {s : State} {m : MethodId} {args : Array Value} {below : List Frame} {meth : Method} {c : Code} {G : GG} {M : Mm} {M2 : Mm} (C : CX p s m args c prog_14_method_18_code 3 "SnowSentriesModel" 1 G) (hlk : meth.locks = false) (hr : meth.sig.returnType = none) : f_X12_readBrazier M = some M2 → Z p l e { frames := 3, cells := 0, slots := 0, locals := 70 } s m args below meth c 1 G 3 (MQ below (QC 1 G none M2) args s 0 0 (AU 1 G)) 0 [(0, .ref (gB G + 0))] [] M := by
  intro h
  unfold f_X12_readBrazier at h
  refine z_aload_n 0 C d_X12_readBrazier_0 rfl rfl ?_
  refine z_get (k := 7) (v := .ref (gB G + 5)) C (eY_0 _ _) (by decide) rfl inX12 (by decide) wf_X12_29 rfl d_X12_readBrazier_1 ?_
  refine z_sipush (v := (207 : Int32)) C d_X12_readBrazier_4 (by decide) ?_
  refine z_ald (eY_5 _ _) C (by decide) (show inn (207 : Int32) 210 from by decide) d_X12_readBrazier_7 ?_
  obtain ⟨v1, e2, h⟩ := o_nm h
  refine z_nI e2 ?_
  refine z_istore_n (L' := [(1, .int v1), (0, .ref (gB G + 0))]) C d_X12_readBrazier_8 rfl (by decide) rfl ?_
  refine z_iload_n 0 C d_X12_readBrazier_9 rfl rfl ?_
  refine z_bipush (v := (6 : Int32)) C d_X12_readBrazier_10 (by decide) ?_
  refine z_icmp_ne C d_X12_readBrazier_12 (fun q3 => ?_) (fun q3 => ?_)
  · have h := o_f q3 h
    refine z_aload_n 1 C d_X12_readBrazier_21 rfl rfl ?_
    obtain ⟨p5, e4, h⟩ := o_bd h
    refine z_V (S := []) (As := []) C (c_X12_step l G e4) (eY_0 _ _) (by decide) rfl wc_X12_step wm_X12_117 ws_X12_step wl_X12_step wi_X12 hy_X12_step ⟨Nat.le_of_ble_eq_true rfl, Nat.le_of_ble_eq_true rfl⟩ rfl rfl (Nat.le_of_ble_eq_true rfl) d_X12_readBrazier_22 ?_
    refine z_sipush (v := (183 : Int32)) C d_X12_readBrazier_25 (by decide) ?_
    refine z_iconst (v := (4 : Int32)) C d_X12_readBrazier_28 (by decide) ?_
    refine z_iload_n 0 C d_X12_readBrazier_29 rfl rfl ?_
    refine z_imul C d_X12_readBrazier_30 ?_
    refine z_iadd C d_X12_readBrazier_31 ?_
    obtain ⟨v6, e7, h⟩ := o_nm h
    refine z_nI e7 ?_
    refine z_istore_n (L' := [(2, .int v6), (1, .int v1), (0, .ref (gB G + 0))]) C d_X12_readBrazier_32 rfl (by decide) rfl ?_
    refine z_aload_n 2 C d_X12_readBrazier_33 rfl rfl ?_
    refine z_get (k := 7) (v := .ref (gB G + 5)) C (eY_0 _ _) (by decide) rfl inX12 (by decide) wf_X12_29 rfl d_X12_readBrazier_34 ?_
    refine z_iload_n 0 C d_X12_readBrazier_37 rfl rfl ?_
    refine z_aload_n 2 C d_X12_readBrazier_38 rfl rfl ?_
    obtain ⟨p9, e8, h⟩ := o_bd h
    refine z_V (S := [.int v6, .ref (gB G + 5)]) (As := []) C (c_X12_furlongHere l G e8) (eY_0 _ _) (by decide) rfl wc_X12_furlongHere wm_X12_141 ws_X12_furlongHere wl_X12_furlongHere wi_X12 hy_X12_furlongHere ⟨Nat.le_of_ble_eq_true rfl, Nat.le_of_ble_eq_true rfl⟩ rfl rfl (Nat.le_of_ble_eq_true rfl) d_X12_readBrazier_39 ?_
    obtain ⟨q12, h⟩ := o_ck h
    obtain ⟨M10, e11, h⟩ := o_wr h
    refine z_ast (fun r q => eY_5 r q) C (by decide) q12 d_X12_readBrazier_42 ?_
    refine z_nM e11 ?_
    refine z_aload_n 2 C d_X12_readBrazier_43 rfl rfl ?_
    obtain ⟨p14, e13, h⟩ := o_bd h
    refine z_V (S := []) (As := []) C (c_X12_step l G e13) (eY_0 _ _) (by decide) rfl wc_X12_step wm_X12_117 ws_X12_step wl_X12_step wi_X12 hy_X12_step ⟨Nat.le_of_ble_eq_true rfl, Nat.le_of_ble_eq_true rfl⟩ rfl rfl (Nat.le_of_ble_eq_true rfl) d_X12_readBrazier_44 ?_
    refine z_aload_n 2 C d_X12_readBrazier_47 rfl rfl ?_
    refine z_get (k := 7) (v := .ref (gB G + 5)) C (eY_0 _ _) (by decide) rfl inX12 (by decide) wf_X12_29 rfl d_X12_readBrazier_48 ?_
    refine z_iload_n 0 C d_X12_readBrazier_51 rfl rfl ?_
    refine z_iconst (v := (1 : Int32)) C d_X12_readBrazier_52 (by decide) ?_
    refine z_iadd C d_X12_readBrazier_53 ?_
    refine z_aload_n 2 C d_X12_readBrazier_54 rfl rfl ?_
    refine z_iconst (v := (1 : Int32)) C d_X12_readBrazier_55 (by decide) ?_
    refine z_bipush (v := (20 : Int32)) C d_X12_readBrazier_56 (by decide) ?_
    obtain ⟨p16, e15, h⟩ := o_bd h
    refine z_V (S := [.int (v6 + (1 : Int32)), .ref (gB G + 5)]) (As := [.int (1 : Int32), .int (20 : Int32)]) C (c_X12_number l G e15) (eY_0 _ _) (by decide) rfl wc_X12_number wm_X12_127 ws_X12_number wl_X12_number wi_X12 hy_X12_number ⟨Nat.le_of_ble_eq_true rfl, Nat.le_of_ble_eq_true rfl⟩ rfl rfl (Nat.le_of_ble_eq_true rfl) d_X12_readBrazier_58 ?_
    obtain ⟨q19, h⟩ := o_ck h
    obtain ⟨M17, e18, h⟩ := o_wr h
    refine z_ast (fun r q => eY_5 r q) C (by decide) q19 d_X12_readBrazier_61 ?_
    refine z_nM e18 ?_
    refine z_aload_n 2 C d_X12_readBrazier_62 rfl rfl ?_
    refine z_get (k := 7) (v := .ref (gB G + 5)) C (eY_0 _ _) (by decide) rfl inX12 (by decide) wf_X12_29 rfl d_X12_readBrazier_63 ?_
    refine z_iload_n 0 C d_X12_readBrazier_66 rfl rfl ?_
    refine z_iconst (v := (2 : Int32)) C d_X12_readBrazier_67 (by decide) ?_
    refine z_iadd C d_X12_readBrazier_68 ?_
    refine z_aload_n 2 C d_X12_readBrazier_69 rfl rfl ?_
    refine z_iconst (v := (0 : Int32)) C d_X12_readBrazier_70 (by decide) ?_
    refine z_bipush (v := (11 : Int32)) C d_X12_readBrazier_71 (by decide) ?_
    obtain ⟨p21, e20, h⟩ := o_bd h
    refine z_V (S := [.int (v6 + (2 : Int32)), .ref (gB G + 5)]) (As := [.int (0 : Int32), .int (11 : Int32)]) C (c_X12_number l G e20) (eY_0 _ _) (by decide) rfl wc_X12_number wm_X12_127 ws_X12_number wl_X12_number wi_X12 hy_X12_number ⟨Nat.le_of_ble_eq_true rfl, Nat.le_of_ble_eq_true rfl⟩ rfl rfl (Nat.le_of_ble_eq_true rfl) d_X12_readBrazier_73 ?_
    obtain ⟨q24, h⟩ := o_ck h
    obtain ⟨M22, e23, h⟩ := o_wr h
    refine z_ast (fun r q => eY_5 r q) C (by decide) q24 d_X12_readBrazier_76 ?_
    refine z_nM e23 ?_
    refine z_aload_n 2 C d_X12_readBrazier_77 rfl rfl ?_
    refine z_get (k := 7) (v := .ref (gB G + 5)) C (eY_0 _ _) (by decide) rfl inX12 (by decide) wf_X12_29 rfl d_X12_readBrazier_78 ?_
    refine z_iload_n 0 C d_X12_readBrazier_81 rfl rfl ?_
    refine z_iconst (v := (3 : Int32)) C d_X12_readBrazier_82 (by decide) ?_
    refine z_iadd C d_X12_readBrazier_83 ?_
    refine z_aload_n 2 C d_X12_readBrazier_84 rfl rfl ?_
    refine z_aload_n 2 C d_X12_readBrazier_85 rfl rfl ?_
    refine z_get (k := 7) (v := .ref (gB G + 5)) C (eY_0 _ _) (by decide) rfl inX12 (by decide) wf_X12_29 rfl d_X12_readBrazier_86 ?_
    refine z_iload_n 0 C d_X12_readBrazier_89 rfl rfl ?_
    refine z_iconst (v := (2 : Int32)) C d_X12_readBrazier_90 (by decide) ?_
    refine z_iadd C d_X12_readBrazier_91 ?_
    refine z_ald (eY_5 _ _) C (by decide) q24 d_X12_readBrazier_92 ?_
    refine z_bipush (v := (11 : Int32)) C d_X12_readBrazier_93 (by decide) ?_
    obtain ⟨p26, e25, h⟩ := o_bd h
    refine z_V (S := [.int (v6 + (3 : Int32)), .ref (gB G + 5)]) (As := [.int (M22.1 5 (v6 + (2 : Int32)).toNatClampNeg), .int (11 : Int32)]) C (c_X12_number l G e25) (eY_0 _ _) (by decide) rfl wc_X12_number wm_X12_127 ws_X12_number wl_X12_number wi_X12 hy_X12_number ⟨Nat.le_of_ble_eq_true rfl, Nat.le_of_ble_eq_true rfl⟩ rfl rfl (Nat.le_of_ble_eq_true rfl) d_X12_readBrazier_95 ?_
    obtain ⟨q29, h⟩ := o_ck h
    obtain ⟨M27, e28, h⟩ := o_wr h
    refine z_ast (fun r q => eY_5 r q) C (by decide) q29 d_X12_readBrazier_98 ?_
    refine z_nM e28 ?_
    refine z_aload_n 2 C d_X12_readBrazier_99 rfl rfl ?_
    refine z_get (k := 7) (v := .ref (gB G + 5)) C (eY_0 _ _) (by decide) rfl inX12 (by decide) wf_X12_29 rfl d_X12_readBrazier_100 ?_
    refine z_sipush (v := (207 : Int32)) C d_X12_readBrazier_103 (by decide) ?_
    refine z_dup2 C d_X12_readBrazier_106 rfl rfl ?_
    refine z_ald (eY_5 _ _) C (by decide) (show inn (207 : Int32) 210 from by decide) d_X12_readBrazier_107 ?_
    refine z_iconst (v := (1 : Int32)) C d_X12_readBrazier_108 (by decide) ?_
    refine z_iadd C d_X12_readBrazier_109 ?_
    obtain ⟨M30, e31, h⟩ := o_wr h
    refine z_ast (fun r q => eY_5 r q) C (by decide) (show inn (207 : Int32) 210 from by decide) d_X12_readBrazier_110 ?_
    refine z_nM e31 ?_
    obtain rfl := o_some h
    exact z_vret C hlk hr d_X12_readBrazier_111
  · have h := o_t q3 h
    refine z_aload_n 1 C d_X12_readBrazier_15 rfl rfl ?_
    refine z_iconst (v := (5 : Int32)) C d_X12_readBrazier_16 (by decide) ?_
    obtain ⟨p33, e32, h⟩ := o_bd h
    refine z_V (S := []) (As := [.int (5 : Int32)]) C (c_X12_fails l G e32) (eY_0 _ _) (by decide) rfl wc_X12_fails wm_X12_109 ws_X12_fails wl_X12_fails wi_X12 hy_X12_fails ⟨Nat.le_of_ble_eq_true rfl, Nat.le_of_ble_eq_true rfl⟩ rfl rfl (Nat.le_of_ble_eq_true rfl) d_X12_readBrazier_17 ?_
    obtain rfl := o_some h
    exact z_vret C hlk hr d_X12_readBrazier_20
theorem c_X12_readBrazier (l : Launch) (G : GG) {M : Mm} {M2 : Mm} (h : f_X12_readBrazier M = some M2) : CT l 1 G y_X12_readBrazier prog_14_method_18_code 3 none 3 70 [.ref (gB G + 0)] M none M2 :=
  CT.of (by decide +kernel) (Nat.le_of_ble_eq_true rfl) rfl (fun p e s m args below meth c C hlk hr => k_X12_readBrazier_0 C hlk hr h)
-- SnowSentriesModel.readHouse()V
set_option maxRecDepth 4000 in
theorem k_X12_readHouse_75 {p : Program} {l : Launch} {e : Env} {s : State} {m : MethodId} {args : Array Value} {below : List Frame} {meth : Method} {c : Code} {G : GG} {M : Mm} {s_1 : Int32} {s_2 : Int32} {M2 : Mm} (C : CX p s m args c prog_14_method_19_code 2 "SnowSentriesModel" 1 G) (hlk : meth.locks = false) (hr : meth.sig.returnType = none) : f_X12_readHouse_75 M s_1 s_2 = some M2 → Z p l e { frames := 3, cells := 0, slots := 0, locals := 70 } s m args below meth c 1 G 2 (MQ below (QC 1 G none M2) args s 0 0 (AU 1 G)) 75 [(0, .ref (gB G + 0))] [.int s_2, .int s_1, .ref (gB G + 8)] M := by
  intro h
  unfold f_X12_readHouse_75 at h
  obtain ⟨q3, h⟩ := o_ck h
  obtain ⟨M1, e2, h⟩ := o_wr h
  refine z_ast (fun r q => eY_8 r q) C (by decide) q3 d_X12_readHouse_75 ?_
  refine z_nM e2 ?_
  refine z_aload_n 0 C d_X12_readHouse_76 rfl rfl ?_
  refine z_dup C d_X12_readHouse_77 rfl ?_
  refine z_get (k := 11) (v := .int (M1.1 0 11)) C (eY_0 _ _) (by decide) rfl inX12 (by decide) wf_X12_150 rfl d_X12_readHouse_78 ?_
  refine z_iconst (v := (1 : Int32)) C d_X12_readHouse_81 (by decide) ?_
  refine z_iadd C d_X12_readHouse_82 ?_
  obtain ⟨M4, e5, h⟩ := o_wr h
  refine z_pI (k := 11) (ty := .int) C (fun r q => eY_0 r q) (fun _ _ => rfl) (by decide) rfl inX12 tyX12 tyX12_ok nmX12 (by decide) wf_X12_150 rfl (by decide +kernel) rfl rfl (Nat.le_of_ble_eq_true rfl) d_X12_readHouse_83 ?_
  refine z_nM e5 ?_
  obtain rfl := o_some h
  exact z_vret C hlk hr d_X12_readHouse_86
set_option maxRecDepth 4000 in
theorem k_X12_readHouse_0 {p : Program} {l : Launch} {e : Env} {s : State} {m : MethodId} {args : Array Value} {below : List Frame} {meth : Method} {c : Code} {G : GG} {M : Mm} {M2 : Mm} (C : CX p s m args c prog_14_method_19_code 2 "SnowSentriesModel" 1 G) (hlk : meth.locks = false) (hr : meth.sig.returnType = none) : f_X12_readHouse M = some M2 → Z p l e { frames := 3, cells := 0, slots := 0, locals := 70 } s m args below meth c 1 G 2 (MQ below (QC 1 G none M2) args s 0 0 (AU 1 G)) 0 [(0, .ref (gB G + 0))] [] M := by
  intro h
  unfold f_X12_readHouse at h
  refine z_aload_n 0 C d_X12_readHouse_0 rfl rfl ?_
  refine z_get (k := 11) (v := .int (M.1 0 11)) C (eY_0 _ _) (by decide) rfl inX12 (by decide) wf_X12_150 rfl d_X12_readHouse_1 ?_
  refine z_bipush (v := (8 : Int32)) C d_X12_readHouse_4 (by decide) ?_
  refine z_icmp_ne C d_X12_readHouse_6 (fun q1 => ?_) (fun q1 => ?_)
  · have h := o_f q1 h
    refine z_aload_n 0 C d_X12_readHouse_15 rfl rfl ?_
    obtain ⟨p3, e2, h⟩ := o_bd h
    refine z_V (S := []) (As := []) C (c_X12_step l G e2) (eY_0 _ _) (by decide) rfl wc_X12_step wm_X12_117 ws_X12_step wl_X12_step wi_X12 hy_X12_step ⟨Nat.le_of_ble_eq_true rfl, Nat.le_of_ble_eq_true rfl⟩ rfl rfl (Nat.le_of_ble_eq_true rfl) d_X12_readHouse_16 ?_
    refine z_aload_n 0 C d_X12_readHouse_19 rfl rfl ?_
    refine z_get (k := 10) (v := .ref (gB G + 8)) C (eY_0 _ _) (by decide) rfl inX12 (by decide) wf_X12_38 rfl d_X12_readHouse_20 ?_
    refine z_iconst (v := (2 : Int32)) C d_X12_readHouse_23 (by decide) ?_
    refine z_aload_n 0 C d_X12_readHouse_24 rfl rfl ?_
    refine z_get (k := 11) (v := .int (p3.1 0 11)) C (eY_0 _ _) (by decide) rfl inX12 (by decide) wf_X12_150 rfl d_X12_readHouse_25 ?_
    refine z_imul C d_X12_readHouse_28 ?_
    refine z_aload_n 0 C d_X12_readHouse_29 rfl rfl ?_
    obtain ⟨p5, e4, h⟩ := o_bd h
    refine z_V (S := [.int ((2 : Int32) * (p3.1 0 11)), .ref (gB G + 8)]) (As := []) C (c_X12_furlongHere l G e4) (eY_0 _ _) (by decide) rfl wc_X12_furlongHere wm_X12_141 ws_X12_furlongHere wl_X12_furlongHere wi_X12 hy_X12_furlongHere ⟨Nat.le_of_ble_eq_true rfl, Nat.le_of_ble_eq_true rfl⟩ rfl rfl (Nat.le_of_ble_eq_true rfl) d_X12_readHouse_30 ?_
    obtain ⟨q8, h⟩ := o_ck h
    obtain ⟨M6, e7, h⟩ := o_wr h
    refine z_ast (fun r q => eY_8 r q) C (by decide) q8 d_X12_readHouse_33 ?_
    refine z_nM e7 ?_
    refine z_aload_n 0 C d_X12_readHouse_34 rfl rfl ?_
    obtain ⟨p10, e9, h⟩ := o_bd h
    refine z_V (S := []) (As := []) C (c_X12_step l G e9) (eY_0 _ _) (by decide) rfl wc_X12_step wm_X12_117 ws_X12_step wl_X12_step wi_X12 hy_X12_step ⟨Nat.le_of_ble_eq_true rfl, Nat.le_of_ble_eq_true rfl⟩ rfl rfl (Nat.le_of_ble_eq_true rfl) d_X12_readHouse_35 ?_
    refine z_aload_n 0 C d_X12_readHouse_38 rfl rfl ?_
    refine z_iconst (v := (0 : Int32)) C d_X12_readHouse_39 (by decide) ?_
    refine z_bipush (v := (9 : Int32)) C d_X12_readHouse_40 (by decide) ?_
    obtain ⟨p12, e11, h⟩ := o_bd h
    refine z_V (S := []) (As := [.int (0 : Int32), .int (9 : Int32)]) C (c_X12_number l G e11) (eY_0 _ _) (by decide) rfl wc_X12_number wm_X12_127 ws_X12_number wl_X12_number wi_X12 hy_X12_number ⟨Nat.le_of_ble_eq_true rfl, Nat.le_of_ble_eq_true rfl⟩ rfl rfl (Nat.le_of_ble_eq_true rfl) d_X12_readHouse_42 ?_
    obtain ⟨v13, e14, h⟩ := o_nm h
    refine z_nI e14 ?_
    refine z_istore_n (L' := [(1, .int v13), (0, .ref (gB G + 0))]) C d_X12_readHouse_45 rfl (by decide) rfl ?_
    refine z_aload_n 1 C d_X12_readHouse_46 rfl rfl ?_
    refine z_get (k := 10) (v := .ref (gB G + 8)) C (eY_0 _ _) (by decide) rfl inX12 (by decide) wf_X12_38 rfl d_X12_readHouse_47 ?_
    refine z_iconst (v := (2 : Int32)) C d_X12_readHouse_50 (by decide) ?_
    refine z_aload_n 1 C d_X12_readHouse_51 rfl rfl ?_
    refine z_get (k := 11) (v := .int (p12.2.1 0 11)) C (eY_0 _ _) (by decide) rfl inX12 (by decide) wf_X12_150 rfl d_X12_readHouse_52 ?_
    refine z_imul C d_X12_readHouse_55 ?_
    refine z_iconst (v := (1 : Int32)) C d_X12_readHouse_56 (by decide) ?_
    refine z_iadd C d_X12_readHouse_57 ?_
    refine z_aload_n 1 C d_X12_readHouse_58 rfl rfl ?_
    refine z_bipush (v := (8 : Int32)) C d_X12_readHouse_59 (by decide) ?_
    refine z_bipush (v := (9 : Int32)) C d_X12_readHouse_61 (by decide) ?_
    obtain ⟨p16, e15, h⟩ := o_bd h
    refine z_V (S := [.int (((2 : Int32) * (p12.2.1 0 11)) + (1 : Int32)), .ref (gB G + 8)]) (As := [.int (8 : Int32), .int (9 : Int32)]) C (c_X12_name l G e15) (eY_0 _ _) (by decide) rfl wc_X12_name wm_X12_147 ws_X12_name wl_X12_name wi_X12 hy_X12_name ⟨Nat.le_of_ble_eq_true rfl, Nat.le_of_ble_eq_true rfl⟩ rfl rfl (Nat.le_of_ble_eq_true rfl) d_X12_readHouse_63 ?_
    refine z_if_ne C d_X12_readHouse_66 (fun q17 => ?_) (fun q17 => ?_)
    · have h := o_f q17 h
      refine z_iload_n 0 C d_X12_readHouse_74 rfl rfl ?_
      exact z_sub [1] rfl (k_X12_readHouse_75 C hlk hr h)
    · have h := o_t q17 h
      refine z_iload_n 0 C d_X12_readHouse_69 rfl rfl ?_
      refine z_ineg C d_X12_readHouse_70 ?_
      refine z_goto C d_X12_readHouse_71 ?_
      exact z_sub [1] rfl (k_X12_readHouse_75 C hlk hr h)
  · have h := o_t q1 h
    refine z_aload_n 0 C d_X12_readHouse_9 rfl rfl ?_
    refine z_iconst (v := (5 : Int32)) C d_X12_readHouse_10 (by decide) ?_
    obtain ⟨p19, e18, h⟩ := o_bd h
    refine z_V (S := []) (As := [.int (5 : Int32)]) C (c_X12_fails l G e18) (eY_0 _ _) (by decide) rfl wc_X12_fails wm_X12_109 ws_X12_fails wl_X12_fails wi_X12 hy_X12_fails ⟨Nat.le_of_ble_eq_true rfl, Nat.le_of_ble_eq_true rfl⟩ rfl rfl (Nat.le_of_ble_eq_true rfl) d_X12_readHouse_11 ?_
    obtain rfl := o_some h
    exact z_vret C hlk hr d_X12_readHouse_14
theorem c_X12_readHouse (l : Launch) (G : GG) {M : Mm} {M2 : Mm} (h : f_X12_readHouse M = some M2) : CT l 1 G y_X12_readHouse prog_14_method_19_code 2 none 3 70 [.ref (gB G + 0)] M none M2 :=
  CT.of (by decide +kernel) (Nat.le_of_ble_eq_true rfl) rfl (fun p e s m args below meth c C hlk hr => k_X12_readHouse_0 C hlk hr h)
-- SnowSentriesModel.readLine()V
set_option maxRecDepth 4000 in
theorem k_X12_readLine_102 {p : Program} {l : Launch} {e : Env} {s : State} {m : MethodId} {args : Array Value} {below : List Frame} {meth : Method} {c : Code} {G : GG} {M : Mm} {M2 : Mm} (C : CX p s m args c prog_14_method_20_code 2 "SnowSentriesModel" 1 G) (hlk : meth.locks = false) (hr : meth.sig.returnType = none) : f_X12_readLine_102 M = some M2 → Z p l e { frames := 5, cells := 0, slots := 0, locals := 114 } s m args below meth c 1 G 2 (MQ below (QC 1 G none M2) args s 0 0 (AU 1 G)) 102 [(0, .ref (gB G + 0))] [] M := by
  intro h
  unfold f_X12_readLine_102 at h
  refine z_aload_n 0 C d_X12_readLine_102 rfl rfl ?_
  obtain ⟨p2, e1, h⟩ := o_bd h
  refine z_V (S := []) (As := []) C (c_X12_step l G e1) (eY_0 _ _) (by decide) rfl wc_X12_step wm_X12_117 ws_X12_step wl_X12_step wi_X12 hy_X12_step ⟨Nat.le_of_ble_eq_true rfl, Nat.le_of_ble_eq_true rfl⟩ rfl rfl (Nat.le_of_ble_eq_true rfl) d_X12_readLine_103 ?_
  obtain rfl := o_some h
  exact z_vret C hlk hr d_X12_readLine_106
set_option maxRecDepth 4000 in
theorem k_X12_readLine_82 {p : Program} {l : Launch} {e : Env} {s : State} {m : MethodId} {args : Array Value} {below : List Frame} {meth : Method} {c : Code} {G : GG} {M : Mm} {M2 : Mm} (C : CX p s m args c prog_14_method_20_code 2 "SnowSentriesModel" 1 G) (hlk : meth.locks = false) (hr : meth.sig.returnType = none) : f_X12_readLine_82 M = some M2 → Z p l e { frames := 5, cells := 0, slots := 0, locals := 114 } s m args below meth c 1 G 2 (MQ below (QC 1 G none M2) args s 0 0 (AU 1 G)) 82 [(0, .ref (gB G + 0))] [] M := by
  intro h
  unfold f_X12_readLine_82 at h
  refine z_aload_n 0 C d_X12_readLine_82 rfl rfl ?_
  refine z_get (k := 19) (v := .int (M.1 0 19)) C (eY_0 _ _) (by decide) rfl inX12 (by decide) wf_X12_79 rfl d_X12_readLine_83 ?_
  refine z_if_ne C d_X12_readLine_86 (fun q1 => ?_) (fun q1 => ?_)
  · have h := o_f q1 h
    exact z_sub [0] rfl (k_X12_readLine_102 C hlk hr h)
  · have h := o_t q1 h
    refine z_aload_n 0 C d_X12_readLine_89 rfl rfl ?_
    refine z_get (k := 23) (v := .int (M.1 0 23)) C (eY_0 _ _) (by decide) rfl inX12 (by decide) wf_X12_88 rfl d_X12_readLine_90 ?_
    refine z_iconst (v := (3 : Int32)) C d_X12_readLine_93 (by decide) ?_
    refine z_icmp_eq C d_X12_readLine_94 (fun q2 => ?_) (fun q2 => ?_)
    · have h := o_t q2 h
      exact z_sub [0] rfl (k_X12_readLine_102 C hlk hr h)
    · have h := o_f q2 h
      refine z_aload_n 0 C d_X12_readLine_97 rfl rfl ?_
      refine z_iconst (v := (2 : Int32)) C d_X12_readLine_98 (by decide) ?_
      obtain ⟨p4, e3, h⟩ := o_bd h
      refine z_V (S := []) (As := [.int (2 : Int32)]) C (c_X12_fails l G e3) (eY_0 _ _) (by decide) rfl wc_X12_fails wm_X12_109 ws_X12_fails wl_X12_fails wi_X12 hy_X12_fails ⟨Nat.le_of_ble_eq_true rfl, Nat.le_of_ble_eq_true rfl⟩ rfl rfl (Nat.le_of_ble_eq_true rfl) d_X12_readLine_99 ?_
      exact z_sub [0] rfl (k_X12_readLine_102 C hlk hr h)
set_option maxRecDepth 4000 in
theorem k_X12_readLine_0 {p : Program} {l : Launch} {e : Env} {s : State} {m : MethodId} {args : Array Value} {below : List Frame} {meth : Method} {c : Code} {G : GG} {M : Mm} {M2 : Mm} (C : CX p s m args c prog_14_method_20_code 2 "SnowSentriesModel" 1 G) (hlk : meth.locks = false) (hr : meth.sig.returnType = none) : f_X12_readLine M = some M2 → Z p l e { frames := 5, cells := 0, slots := 0, locals := 114 } s m args below meth c 1 G 2 (MQ below (QC 1 G none M2) args s 0 0 (AU 1 G)) 0 [(0, .ref (gB G + 0))] [] M := by
  intro h
  unfold f_X12_readLine at h
  refine z_aload_n 0 C d_X12_readLine_0 rfl rfl ?_
  obtain ⟨p2, e1, h⟩ := o_bd h
  refine z_V (S := []) (As := []) C (c_X12_nameHere l G e1) (eY_0 _ _) (by decide) rfl wc_X12_nameHere wm_X12_120 ws_X12_nameHere wl_X12_nameHere wi_X12 hy_X12_nameHere ⟨Nat.le_of_ble_eq_true rfl, Nat.le_of_ble_eq_true rfl⟩ rfl rfl (Nat.le_of_ble_eq_true rfl) d_X12_readLine_1 ?_
  refine z_istore_n (L' := [(1, .int p2), (0, .ref (gB G + 0))]) C d_X12_readLine_4 rfl (by decide) rfl ?_
  refine z_iload_n 0 C d_X12_readLine_5 rfl rfl ?_
  refine z_i2l C d_X12_readLine_6 ?_
  refine z_lconst (v := (0 : Int64)) C d_X12_readLine_7 (by decide) ?_
  refine z_ldc2 (v := (7 : Int64)) C wk_X12_153 d_X12_readLine_8 ?_
  obtain ⟨p4, e3, h⟩ := o_bd h
  refine z_S (S := []) (As := [.long p2.toInt64, .long (0 : Int64), .long (7 : Int64)]) C (c_X12_in l G (M := M) e3) wc_X12_in wm_X12_75 ws_X12_in wi_X12 hy_X12_in ⟨Nat.le_of_ble_eq_true rfl, Nat.le_of_ble_eq_true rfl⟩ rfl rfl (Nat.le_of_ble_eq_true rfl) d_X12_readLine_11 ?_
  refine z_if_ne C d_X12_readLine_14 (fun q5 => ?_) (fun q5 => ?_)
  · have h := o_f q5 h
    refine z_iload_n 0 C d_X12_readLine_23 rfl rfl ?_
    refine z_iconst (v := (3 : Int32)) C d_X12_readLine_24 (by decide) ?_
    refine z_icmp_gt C d_X12_readLine_25 (fun q6 => ?_) (fun q6 => ?_)
    · have h := o_t q6 h
      refine z_iload_n 0 C d_X12_readLine_36 rfl rfl ?_
      refine z_bipush (v := (6 : Int32)) C d_X12_readLine_37 (by decide) ?_
      refine z_icmp_ne C d_X12_readLine_39 (fun q7 => ?_) (fun q7 => ?_)
      · have h := o_f q7 h
        refine z_iload_n 0 C d_X12_readLine_49 rfl rfl ?_
        refine z_bipush (v := (7 : Int32)) C d_X12_readLine_50 (by decide) ?_
        refine z_icmp_ne C d_X12_readLine_52 (fun q8 => ?_) (fun q8 => ?_)
        · have h := o_f q8 h
          refine z_aload_n 1 C d_X12_readLine_62 rfl rfl ?_
          obtain ⟨p10, e9, h⟩ := o_bd h
          refine z_V (S := []) (As := []) C (c_X12_step l G e9) (eY_0 _ _) (by decide) rfl wc_X12_step wm_X12_117 ws_X12_step wl_X12_step wi_X12 hy_X12_step ⟨Nat.le_of_ble_eq_true rfl, Nat.le_of_ble_eq_true rfl⟩ rfl rfl (Nat.le_of_ble_eq_true rfl) d_X12_readLine_63 ?_
          refine z_iload_n 0 C d_X12_readLine_66 rfl rfl ?_
          refine z_iconst (v := (4 : Int32)) C d_X12_readLine_67 (by decide) ?_
          refine z_icmp_ne C d_X12_readLine_68 (fun q11 => ?_) (fun q11 => ?_)
          · have h := o_f q11 h
            refine z_aload_n 1 C d_X12_readLine_78 rfl rfl ?_
            obtain ⟨p13, e12, h⟩ := o_bd h
            refine z_V (S := []) (As := []) C (c_X12_readMan l G e12) (eY_0 _ _) (by decide) rfl wc_X12_readMan wm_X12_167 ws_X12_readMan wl_X12_readMan wi_X12 hy_X12_readMan ⟨Nat.le_of_ble_eq_true rfl, Nat.le_of_ble_eq_true rfl⟩ rfl rfl (Nat.le_of_ble_eq_true rfl) d_X12_readLine_79 ?_
            exact z_sub [1] rfl (k_X12_readLine_82 C hlk hr h)
          · have h := o_t q11 h
            refine z_aload_n 1 C d_X12_readLine_71 rfl rfl ?_
            obtain ⟨p15, e14, h⟩ := o_bd h
            refine z_V (S := []) (As := []) C (c_X12_readSnow l G e14) (eY_0 _ _) (by decide) rfl wc_X12_readSnow wm_X12_164 ws_X12_readSnow wl_X12_readSnow wi_X12 hy_X12_readSnow ⟨Nat.le_of_ble_eq_true rfl, Nat.le_of_ble_eq_true rfl⟩ rfl rfl (Nat.le_of_ble_eq_true rfl) d_X12_readLine_72 ?_
            refine z_goto C d_X12_readLine_75 ?_
            exact z_sub [1] rfl (k_X12_readLine_82 C hlk hr h)
        · have h := o_t q8 h
          refine z_aload_n 1 C d_X12_readLine_55 rfl rfl ?_
          obtain ⟨p17, e16, h⟩ := o_bd h
          refine z_V (S := []) (As := []) C (c_X12_readHouse l G e16) (eY_0 _ _) (by decide) rfl wc_X12_readHouse wm_X12_161 ws_X12_readHouse wl_X12_readHouse wi_X12 hy_X12_readHouse ⟨Nat.le_of_ble_eq_true rfl, Nat.le_of_ble_eq_true rfl⟩ rfl rfl (Nat.le_of_ble_eq_true rfl) d_X12_readLine_56 ?_
          refine z_goto C d_X12_readLine_59 ?_
          exact z_sub [1] rfl (k_X12_readLine_82 C hlk hr h)
      · have h := o_t q7 h
        refine z_aload_n 1 C d_X12_readLine_42 rfl rfl ?_
        obtain ⟨p19, e18, h⟩ := o_bd h
        refine z_V (S := []) (As := []) C (c_X12_readBrazier l G e18) (eY_0 _ _) (by decide) rfl wc_X12_readBrazier wm_X12_158 ws_X12_readBrazier wl_X12_readBrazier wi_X12 hy_X12_readBrazier ⟨Nat.le_of_ble_eq_true rfl, Nat.le_of_ble_eq_true rfl⟩ rfl rfl (Nat.le_of_ble_eq_true rfl) d_X12_readLine_43 ?_
        refine z_goto C d_X12_readLine_46 ?_
        exact z_sub [1] rfl (k_X12_readLine_82 C hlk hr h)
    · have h := o_f q6 h
      refine z_aload_n 1 C d_X12_readLine_28 rfl rfl ?_
      refine z_iload_n 0 C d_X12_readLine_29 rfl rfl ?_
      obtain ⟨p21, e20, h⟩ := o_bd h
      refine z_V (S := []) (As := [.int p2]) C (c_X12_readOnce l G e20) (eY_0 _ _) (by decide) rfl wc_X12_readOnce wm_X12_155 ws_X12_readOnce wl_X12_readOnce wi_X12 hy_X12_readOnce ⟨Nat.le_of_ble_eq_true rfl, Nat.le_of_ble_eq_true rfl⟩ rfl rfl (Nat.le_of_ble_eq_true rfl) d_X12_readLine_30 ?_
      refine z_goto C d_X12_readLine_33 ?_
      exact z_sub [1] rfl (k_X12_readLine_82 C hlk hr h)
  · have h := o_t q5 h
    refine z_aload_n 1 C d_X12_readLine_17 rfl rfl ?_
    refine z_iconst (v := (2 : Int32)) C d_X12_readLine_18 (by decide) ?_
    obtain ⟨p23, e22, h⟩ := o_bd h
    refine z_V (S := []) (As := [.int (2 : Int32)]) C (c_X12_fails l G e22) (eY_0 _ _) (by decide) rfl wc_X12_fails wm_X12_109 ws_X12_fails wl_X12_fails wi_X12 hy_X12_fails ⟨Nat.le_of_ble_eq_true rfl, Nat.le_of_ble_eq_true rfl⟩ rfl rfl (Nat.le_of_ble_eq_true rfl) d_X12_readLine_19 ?_
    obtain rfl := o_some h
    exact z_vret C hlk hr d_X12_readLine_22
theorem c_X12_readLine (l : Launch) (G : GG) {M : Mm} {M2 : Mm} (h : f_X12_readLine M = some M2) : CT l 1 G y_X12_readLine prog_14_method_20_code 2 none 5 114 [.ref (gB G + 0)] M none M2 :=
  CT.of (by decide +kernel) (Nat.le_of_ble_eq_true rfl) rfl (fun p e s m args below meth c C hlk hr => k_X12_readLine_0 C hlk hr h)
-- SnowSentriesModel.takes()V
set_option maxRecDepth 4000 in
theorem k_X12_takes_87 {p : Program} {l : Launch} {e : Env} {s : State} {m : MethodId} {args : Array Value} {below : List Frame} {meth : Method} {c : Code} {G : GG} {M : Mm} {M2 : Mm} (C : CX p s m args c prog_14_method_21_code 2 "SnowSentriesModel" 1 G) (hlk : meth.locks = false) (hr : meth.sig.returnType = none) : f_X12_takes_87 M = some M2 → Z p l e { frames := 0, cells := 0, slots := 0, locals := 0 } s m args below meth c 1 G 2 (MQ below (QC 1 G none M2) args s 0 0 (AU 1 G)) 87 [(0, .ref (gB G + 0))] [] M := by
  intro h
  unfold f_X12_takes_87 at h
  refine z_aload_n 0 C d_X12_takes_87 rfl rfl ?_
  refine z_aload_n 0 C d_X12_takes_88 rfl rfl ?_
  refine z_get (k := 12) (v := .int (M.1 0 12)) C (eY_0 _ _) (by decide) rfl inX12 (by decide) wf_X12_134 rfl d_X12_takes_89 ?_
  obtain ⟨M1, e2, h⟩ := o_wr h
  refine z_pI (k := 1) (ty := .int) C (fun r q => eY_0 r q) (fun _ _ => rfl) (by decide) rfl inX12 tyX12 tyX12_ok nmX12 (by decide) wf_X12_13 rfl (by decide +kernel) rfl rfl (Nat.le_of_ble_eq_true rfl) d_X12_takes_92 ?_
  refine z_nM e2 ?_
  refine z_aload_n 0 C d_X12_takes_95 rfl rfl ?_
  refine z_aload_n 0 C d_X12_takes_96 rfl rfl ?_
  refine z_get (k := 11) (v := .int (M1.1 0 11)) C (eY_0 _ _) (by decide) rfl inX12 (by decide) wf_X12_150 rfl d_X12_takes_97 ?_
  obtain ⟨M3, e4, h⟩ := o_wr h
  refine z_pI (k := 5) (ty := .int) C (fun r q => eY_0 r q) (fun _ _ => rfl) (by decide) rfl inX12 tyX12 tyX12_ok nmX12 (by decide) wf_X12_170 rfl (by decide +kernel) rfl rfl (Nat.le_of_ble_eq_true rfl) d_X12_takes_100 ?_
  refine z_nM e4 ?_
  refine z_aload_n 0 C d_X12_takes_103 rfl rfl ?_
  refine z_iconst (v := (0 : Int32)) C d_X12_takes_104 (by decide) ?_
  obtain ⟨M5, e6, h⟩ := o_wr h
  refine z_pI (k := 30) (ty := .int) C (fun r q => eY_0 r q) (fun _ _ => rfl) (by decide) rfl inX12 tyX12 tyX12_ok nmX12 (by decide) wf_X12_173 rfl (by decide +kernel) rfl rfl (Nat.le_of_ble_eq_true rfl) d_X12_takes_105 ?_
  refine z_nM e6 ?_
  refine z_aload_n 0 C d_X12_takes_108 rfl rfl ?_
  refine z_get (k := 31) (v := .ref (gB G + 15)) C (eY_0 _ _) (by decide) rfl inX12 (by decide) wf_X12_59 rfl d_X12_takes_109 ?_
  refine z_iconst (v := (0 : Int32)) C d_X12_takes_112 (by decide) ?_
  refine z_iconst (v := (0 : Int32)) C d_X12_takes_113 (by decide) ?_
  obtain ⟨M7, e8, h⟩ := o_wr h
  refine z_zst (fun r q => eY_15 r q) C (by decide) (show inn (0 : Int32) 2 from by decide) d_X12_takes_114 ?_
  refine z_nM e8 ?_
  refine z_aload_n 0 C d_X12_takes_115 rfl rfl ?_
  refine z_get (k := 31) (v := .ref (gB G + 15)) C (eY_0 _ _) (by decide) rfl inX12 (by decide) wf_X12_59 rfl d_X12_takes_116 ?_
  refine z_iconst (v := (1 : Int32)) C d_X12_takes_119 (by decide) ?_
  refine z_iconst (v := (0 : Int32)) C d_X12_takes_120 (by decide) ?_
  obtain ⟨M9, e10, h⟩ := o_wr h
  refine z_zst (fun r q => eY_15 r q) C (by decide) (show inn (1 : Int32) 2 from by decide) d_X12_takes_121 ?_
  refine z_nM e10 ?_
  obtain rfl := o_some h
  exact z_vret C hlk hr d_X12_takes_122
set_option maxRecDepth 4000 in
theorem kb_X12_takes_29 {p : Program} {l : Launch} {e : Env} {s : State} {m : MethodId} {args : Array Value} {below : List Frame} {meth : Method} {c : Code} {G : GG} {k29 : Mm → Int32 → Option Mm} {M : Mm} {x1 : Int32} {M2 : Mm} (C : CX p s m args c prog_14_method_21_code 2 "SnowSentriesModel" 1 G) (hlk : meth.locks = false) (hr : meth.sig.returnType = none) (hk29 : ∀ (M : Mm) (x1 : Int32), k29 M x1 = some M2 → Z p l e { frames := 0, cells := 0, slots := 0, locals := 0 } s m args below meth c 1 G 2 (MQ below (QC 1 G none M2) args s 0 0 (AU 1 G)) 29 [(0, .ref (gB G + 0)), (1, .int x1)] [] M) : b_X12_takes_29 k29 M x1 = some M2 → Z p l e { frames := 0, cells := 0, slots := 0, locals := 0 } s m args below meth c 1 G 2 (MQ below (QC 1 G none M2) args s 0 0 (AU 1 G)) 29 [(0, .ref (gB G + 0)), (1, .int x1)] [] M := by
  intro h
  unfold b_X12_takes_29 at h
  refine z_iload_n 1 C d_X12_takes_29 rfl rfl ?_
  refine z_bipush (v := (16 : Int32)) C d_X12_takes_30 (by decide) ?_
  refine z_icmp_ge C d_X12_takes_32 (fun q1 => ?_) (fun q1 => ?_)
  · have h := o_t q1 h
    exact z_sub [0] rfl (k_X12_takes_87 C hlk hr h)
  · have h := o_f q1 h
    refine z_aload_n 0 C d_X12_takes_35 rfl rfl ?_
    refine z_get (k := 4) (v := .ref (gB G + 4)) C (eY_0 _ _) (by decide) rfl inX12 (by decide) wf_X12_23 rfl d_X12_takes_36 ?_
    refine z_iload_n 1 C d_X12_takes_39 rfl rfl ?_
    refine z_aload_n 0 C d_X12_takes_40 rfl rfl ?_
    refine z_get (k := 10) (v := .ref (gB G + 8)) C (eY_0 _ _) (by decide) rfl inX12 (by decide) wf_X12_38 rfl d_X12_takes_41 ?_
    refine z_iload_n 1 C d_X12_takes_44 rfl rfl ?_
    obtain ⟨q2, h⟩ := o_ck h
    refine z_ald (eY_8 _ _) C (by decide) q2 d_X12_takes_45 ?_
    obtain ⟨M3, e4, h⟩ := o_wr h
    refine z_ast (fun r q => eY_4 r q) C (by decide) q2 d_X12_takes_46 ?_
    refine z_nM e4 ?_
    refine z_aload_n 0 C d_X12_takes_47 rfl rfl ?_
    refine z_get (k := 2) (v := .ref (gB G + 2)) C (eY_0 _ _) (by decide) rfl inX12 (by decide) wf_X12_17 rfl d_X12_takes_48 ?_
    refine z_iload_n 1 C d_X12_takes_51 rfl rfl ?_
    refine z_bipush (v := (12 : Int32)) C d_X12_takes_52 (by decide) ?_
    refine z_irem C d_X12_takes_54 (by decide) ?_
    refine z_aload_n 0 C d_X12_takes_55 rfl rfl ?_
    refine z_get (k := 8) (v := .ref (gB G + 6)) C (eY_0 _ _) (by decide) rfl inX12 (by decide) wf_X12_32 rfl d_X12_takes_56 ?_
    refine z_iload_n 1 C d_X12_takes_59 rfl rfl ?_
    refine z_bipush (v := (12 : Int32)) C d_X12_takes_60 (by decide) ?_
    refine z_irem C d_X12_takes_62 (by decide) ?_
    obtain ⟨q5, h⟩ := o_ck h
    refine z_ald (eY_6 _ _) C (by decide) q5 d_X12_takes_63 ?_
    obtain ⟨M6, e7, h⟩ := o_wr h
    refine z_ast (fun r q => eY_2 r q) C (by decide) q5 d_X12_takes_64 ?_
    refine z_nM e7 ?_
    refine z_aload_n 0 C d_X12_takes_65 rfl rfl ?_
    refine z_get (k := 3) (v := .ref (gB G + 3)) C (eY_0 _ _) (by decide) rfl inX12 (by decide) wf_X12_20 rfl d_X12_takes_66 ?_
    refine z_iload_n 1 C d_X12_takes_69 rfl rfl ?_
    refine z_iconst (v := (3 : Int32)) C d_X12_takes_70 (by decide) ?_
    refine z_irem C d_X12_takes_71 (by decide) ?_
    refine z_aload_n 0 C d_X12_takes_72 rfl rfl ?_
    refine z_get (k := 9) (v := .ref (gB G + 7)) C (eY_0 _ _) (by decide) rfl inX12 (by decide) wf_X12_35 rfl d_X12_takes_73 ?_
    refine z_iload_n 1 C d_X12_takes_76 rfl rfl ?_
    refine z_iconst (v := (3 : Int32)) C d_X12_takes_77 (by decide) ?_
    refine z_irem C d_X12_takes_78 (by decide) ?_
    obtain ⟨q8, h⟩ := o_ck h
    refine z_ald (eY_7 _ _) C (by decide) q8 d_X12_takes_79 ?_
    obtain ⟨M9, e10, h⟩ := o_wr h
    refine z_ast (fun r q => eY_3 r q) C (by decide) q8 d_X12_takes_80 ?_
    refine z_nM e10 ?_
    refine z_iinc (v := (1 : Int32)) (L' := [(1, .int (x1 + (1 : Int32))), (0, .ref (gB G + 0))]) 1 C d_X12_takes_81 rfl (by decide) (by decide) rfl ?_
    refine z_goto C d_X12_takes_84 ?_
    exact z_sub [1, 0] rfl (hk29 _ _  h)
theorem k_X12_takes_29 {p : Program} {l : Launch} {e : Env} {s : State} {m : MethodId} {args : Array Value} {below : List Frame} {meth : Method} {c : Code} {G : GG} {M2 : Mm} (C : CX p s m args c prog_14_method_21_code 2 "SnowSentriesModel" 1 G) (hlk : meth.locks = false) (hr : meth.sig.returnType = none) : ∀ (n : Nat) (M : Mm) (x1 : Int32), f_X12_takes_29 n M x1 = some M2 → Z p l e { frames := 0, cells := 0, slots := 0, locals := 0 } s m args below meth c 1 G 2 (MQ below (QC 1 G none M2) args s 0 0 (AU 1 G)) 29 [(0, .ref (gB G + 0)), (1, .int x1)] [] M := by
  intro n
  induction n with
  | zero =>
    intro M x1  h
    exact absurd h (fun z => by cases z)
  | succ n ih =>
    intro M x1  h
    exact kb_X12_takes_29 C hlk hr  (fun M x1 h => ih M x1 h) h
set_option maxRecDepth 4000 in
theorem k_X12_takes_27 {p : Program} {l : Launch} {e : Env} {s : State} {m : MethodId} {args : Array Value} {below : List Frame} {meth : Method} {c : Code} {G : GG} {M : Mm} {M2 : Mm} (C : CX p s m args c prog_14_method_21_code 2 "SnowSentriesModel" 1 G) (hlk : meth.locks = false) (hr : meth.sig.returnType = none) : f_X12_takes_27 M = some M2 → Z p l e { frames := 0, cells := 0, slots := 0, locals := 0 } s m args below meth c 1 G 2 (MQ below (QC 1 G none M2) args s 0 0 (AU 1 G)) 27 [(0, .ref (gB G + 0))] [] M := by
  intro h
  unfold f_X12_takes_27 at h
  refine z_iconst (v := (0 : Int32)) C d_X12_takes_27 (by decide) ?_
  refine z_istore_n (L' := [(1, .int (0 : Int32)), (0, .ref (gB G + 0))]) C d_X12_takes_28 rfl (by decide) rfl ?_
  exact z_sub [1, 0] rfl (k_X12_takes_29 C hlk hr _ _ _ h)
set_option maxRecDepth 4000 in
theorem kb_X12_takes_2 {p : Program} {l : Launch} {e : Env} {s : State} {m : MethodId} {args : Array Value} {below : List Frame} {meth : Method} {c : Code} {G : GG} {k2 : Mm → Int32 → Option Mm} {M : Mm} {x1 : Int32} {M2 : Mm} (C : CX p s m args c prog_14_method_21_code 2 "SnowSentriesModel" 1 G) (hlk : meth.locks = false) (hr : meth.sig.returnType = none) (hk2 : ∀ (M : Mm) (x1 : Int32), k2 M x1 = some M2 → Z p l e { frames := 0, cells := 0, slots := 0, locals := 0 } s m args below meth c 1 G 2 (MQ below (QC 1 G none M2) args s 0 0 (AU 1 G)) 2 [(0, .ref (gB G + 0)), (1, .int x1)] [] M) : b_X12_takes_2 k2 M x1 = some M2 → Z p l e { frames := 0, cells := 0, slots := 0, locals := 0 } s m args below meth c 1 G 2 (MQ below (QC 1 G none M2) args s 0 0 (AU 1 G)) 2 [(0, .ref (gB G + 0)), (1, .int x1)] [] M := by
  intro h
  unfold b_X12_takes_2 at h
  refine z_iload_n 1 C d_X12_takes_2 rfl rfl ?_
  refine z_sipush (v := (210 : Int32)) C d_X12_takes_3 (by decide) ?_
  refine z_icmp_ge C d_X12_takes_6 (fun q1 => ?_) (fun q1 => ?_)
  · have h := o_t q1 h
    exact z_sub [0] rfl (k_X12_takes_27 C hlk hr h)
  · have h := o_f q1 h
    refine z_aload_n 0 C d_X12_takes_9 rfl rfl ?_
    refine z_get (k := 0) (v := .ref (gB G + 1)) C (eY_0 _ _) (by decide) rfl inX12 (by decide) wf_X12_7 rfl d_X12_takes_10 ?_
    refine z_iload_n 1 C d_X12_takes_13 rfl rfl ?_
    refine z_aload_n 0 C d_X12_takes_14 rfl rfl ?_
    refine z_get (k := 7) (v := .ref (gB G + 5)) C (eY_0 _ _) (by decide) rfl inX12 (by decide) wf_X12_29 rfl d_X12_takes_15 ?_
    refine z_iload_n 1 C d_X12_takes_18 rfl rfl ?_
    obtain ⟨q2, h⟩ := o_ck h
    refine z_ald (eY_5 _ _) C (by decide) q2 d_X12_takes_19 ?_
    obtain ⟨q5, h⟩ := o_ck h
    obtain ⟨M3, e4, h⟩ := o_wr h
    refine z_ast (fun r q => eY_1 r q) C (by decide) q5 d_X12_takes_20 ?_
    refine z_nM e4 ?_
    refine z_iinc (v := (1 : Int32)) (L' := [(1, .int (x1 + (1 : Int32))), (0, .ref (gB G + 0))]) 1 C d_X12_takes_21 rfl (by decide) (by decide) rfl ?_
    refine z_goto C d_X12_takes_24 ?_
    exact z_sub [1, 0] rfl (hk2 _ _  h)
theorem k_X12_takes_2 {p : Program} {l : Launch} {e : Env} {s : State} {m : MethodId} {args : Array Value} {below : List Frame} {meth : Method} {c : Code} {G : GG} {M2 : Mm} (C : CX p s m args c prog_14_method_21_code 2 "SnowSentriesModel" 1 G) (hlk : meth.locks = false) (hr : meth.sig.returnType = none) : ∀ (n : Nat) (M : Mm) (x1 : Int32), f_X12_takes_2 n M x1 = some M2 → Z p l e { frames := 0, cells := 0, slots := 0, locals := 0 } s m args below meth c 1 G 2 (MQ below (QC 1 G none M2) args s 0 0 (AU 1 G)) 2 [(0, .ref (gB G + 0)), (1, .int x1)] [] M := by
  intro n
  induction n with
  | zero =>
    intro M x1  h
    exact absurd h (fun z => by cases z)
  | succ n ih =>
    intro M x1  h
    exact kb_X12_takes_2 C hlk hr  (fun M x1 h => ih M x1 h) h
set_option maxRecDepth 4000 in
theorem k_X12_takes_0 {p : Program} {l : Launch} {e : Env} {s : State} {m : MethodId} {args : Array Value} {below : List Frame} {meth : Method} {c : Code} {G : GG} {M : Mm} {M2 : Mm} (C : CX p s m args c prog_14_method_21_code 2 "SnowSentriesModel" 1 G) (hlk : meth.locks = false) (hr : meth.sig.returnType = none) : f_X12_takes M = some M2 → Z p l e { frames := 0, cells := 0, slots := 0, locals := 0 } s m args below meth c 1 G 2 (MQ below (QC 1 G none M2) args s 0 0 (AU 1 G)) 0 [(0, .ref (gB G + 0))] [] M := by
  intro h
  unfold f_X12_takes at h
  refine z_iconst (v := (0 : Int32)) C d_X12_takes_0 (by decide) ?_
  refine z_istore_n (L' := [(1, .int (0 : Int32)), (0, .ref (gB G + 0))]) C d_X12_takes_1 rfl (by decide) rfl ?_
  exact z_sub [1, 0] rfl (k_X12_takes_2 C hlk hr _ _ _ h)
theorem c_X12_takes (l : Launch) (G : GG) {M : Mm} {M2 : Mm} (h : f_X12_takes M = some M2) : CT l 1 G y_X12_takes prog_14_method_21_code 2 none 0 0 [.ref (gB G + 0)] M none M2 :=
  CT.of (by decide +kernel) (Nat.le_of_ble_eq_true rfl) rfl (fun p e s m args below meth c C hlk hr => k_X12_takes_0 C hlk hr h)
-- SnowSentriesModel.land()I
set_option maxRecDepth 4000 in
theorem k_X12_land_81 {p : Program} {l : Launch} {e : Env} {s : State} {m : MethodId} {args : Array Value} {below : List Frame} {meth : Method} {c : Code} {G : GG} {k39 : Mm → Int32 → Option (Int32 × Mm)} {M : Mm} {x1 : Int32} {x2 : Int32} {s_1 : Int32} {s_2 : Int32} {r : Int32} {M2 : Mm} (C : CX p s m args c prog_14_method_22_code 3 "SnowSentriesModel" 1 G) (hlk : meth.locks = false) (hr : meth.sig.returnType = (some .int)) (hk39 : ∀ (M : Mm) (x2 : Int32), k39 M x2 = some (r, M2) → Z p l e { frames := 6, cells := 0, slots := 0, locals := 135 } s m args below meth c 1 G 3 (MQ below (QC 1 G (some (.int r)) M2) args s 0 0 (AU 1 G)) 39 [(0, .ref (gB G + 0)), (1, .int x1), (2, .int x2)] [] M) : f_X12_land_81 k39 M x1 x2 s_1 s_2 = some (r, M2) → Z p l e { frames := 6, cells := 0, slots := 0, locals := 135 } s m args below meth c 1 G 3 (MQ below (QC 1 G (some (.int r)) M2) args s 0 0 (AU 1 G)) 81 [(0, .ref (gB G + 0)), (1, .int x1), (2, .int x2)] [.int s_2, .int s_1, .ref (gB G + 7)] M := by
  intro h
  unfold f_X12_land_81 at h
  obtain ⟨q3, h⟩ := o_ck h
  obtain ⟨M1, e2, h⟩ := o_wr h
  refine z_ast (fun r q => eY_7 r q) C (by decide) q3 d_X12_land_81 ?_
  refine z_nM e2 ?_
  refine z_iinc (v := (1 : Int32)) (L' := [(2, .int (x2 + (1 : Int32))), (0, .ref (gB G + 0)), (1, .int x1)]) 2 C d_X12_land_82 rfl (by decide) (by decide) rfl ?_
  refine z_goto C d_X12_land_85 ?_
  exact z_sub [1, 2, 0] rfl (hk39 _ _  h)
set_option maxRecDepth 4000 in
theorem k_X12_land_140 {p : Program} {l : Launch} {e : Env} {s : State} {m : MethodId} {args : Array Value} {below : List Frame} {meth : Method} {c : Code} {G : GG} {M : Mm} {x1 : Int32} {r : Int32} {M2 : Mm} (C : CX p s m args c prog_14_method_22_code 3 "SnowSentriesModel" 1 G) (hlk : meth.locks = false) (hr : meth.sig.returnType = (some .int)) : f_X12_land_140 M x1 = some (r, M2) → Z p l e { frames := 6, cells := 0, slots := 0, locals := 135 } s m args below meth c 1 G 3 (MQ below (QC 1 G (some (.int r)) M2) args s 0 0 (AU 1 G)) 140 [(0, .ref (gB G + 0)), (1, .int x1)] [] M := by
  intro h
  unfold f_X12_land_140 at h
  refine z_aload_n 0 C d_X12_land_140 rfl rfl ?_
  refine z_iconst (v := (0 : Int32)) C d_X12_land_141 (by decide) ?_
  obtain ⟨M1, e2, h⟩ := o_wr h
  refine z_pI (k := 17) (ty := .int) C (fun r q => eY_0 r q) (fun _ _ => rfl) (by decide) rfl inX12 tyX12 tyX12_ok nmX12 (by decide) wf_X12_72 rfl (by decide +kernel) rfl rfl (Nat.le_of_ble_eq_true rfl) d_X12_land_142 ?_
  refine z_nM e2 ?_
  refine z_aload_n 0 C d_X12_land_145 rfl rfl ?_
  refine z_aload_n 0 C d_X12_land_146 rfl rfl ?_
  refine z_get (k := 19) (v := .int (M1.1 0 19)) C (eY_0 _ _) (by decide) rfl inX12 (by decide) wf_X12_79 rfl d_X12_land_147 ?_
  obtain ⟨M3, e4, h⟩ := o_wr h
  refine z_pI (k := 18) (ty := .int) C (fun r q => eY_0 r q) (fun _ _ => rfl) (by decide) rfl inX12 tyX12 tyX12_ok nmX12 (by decide) wf_X12_179 rfl (by decide +kernel) rfl rfl (Nat.le_of_ble_eq_true rfl) d_X12_land_150 ?_
  refine z_nM e4 ?_
  refine z_aload_n 0 C d_X12_land_153 rfl rfl ?_
  refine z_get (k := 19) (v := .int (M3.1 0 19)) C (eY_0 _ _) (by decide) rfl inX12 (by decide) wf_X12_79 rfl d_X12_land_154 ?_
  refine z_if_le C d_X12_land_157 (fun q5 => ?_) (fun q5 => ?_)
  · have h := o_t q5 h
    refine z_aload_n 0 C d_X12_land_168 rfl rfl ?_
    obtain ⟨p7, e6, h⟩ := o_bd h
    refine z_V (S := []) (As := []) C (c_X12_takes l G e6) (eY_0 _ _) (by decide) rfl wc_X12_takes wm_X12_182 ws_X12_takes wl_X12_takes wi_X12 hy_X12_takes ⟨Nat.le_of_ble_eq_true rfl, Nat.le_of_ble_eq_true rfl⟩ rfl rfl (Nat.le_of_ble_eq_true rfl) d_X12_land_169 ?_
    refine z_aload_n 0 C d_X12_land_172 rfl rfl ?_
    refine z_iconst (v := (3 : Int32)) C d_X12_land_173 (by decide) ?_
    obtain ⟨M8, e9, h⟩ := o_wr h
    refine z_pI (k := 6) (ty := .int) C (fun r q => eY_0 r q) (fun _ _ => rfl) (by decide) rfl inX12 tyX12 tyX12_ok nmX12 (by decide) wf_X12_26 rfl (by decide +kernel) rfl rfl (Nat.le_of_ble_eq_true rfl) d_X12_land_174 ?_
    refine z_nM e9 ?_
    refine z_iload_n 1 C d_X12_land_177 rfl rfl ?_
    obtain ⟨rfl, rfl⟩ := o_pair h
    exact z_iret C hlk hr d_X12_land_178
  · have h := o_f q5 h
    refine z_bipush (v := (-10 : Int32)) C d_X12_land_160 (by decide) ?_
    refine z_aload_n 0 C d_X12_land_162 rfl rfl ?_
    refine z_get (k := 20) (v := .int (M3.1 0 20)) C (eY_0 _ _) (by decide) rfl inX12 (by decide) wf_X12_85 rfl d_X12_land_163 ?_
    refine z_isub C d_X12_land_166 ?_
    obtain ⟨rfl, rfl⟩ := o_pair h
    exact z_iret C hlk hr d_X12_land_167
set_option maxRecDepth 4000 in
theorem k_X12_land_116 {p : Program} {l : Launch} {e : Env} {s : State} {m : MethodId} {args : Array Value} {below : List Frame} {meth : Method} {c : Code} {G : GG} {M : Mm} {x1 : Int32} {r : Int32} {M2 : Mm} (C : CX p s m args c prog_14_method_22_code 3 "SnowSentriesModel" 1 G) (hlk : meth.locks = false) (hr : meth.sig.returnType = (some .int)) : f_X12_land_116 M x1 = some (r, M2) → Z p l e { frames := 6, cells := 0, slots := 0, locals := 135 } s m args below meth c 1 G 3 (MQ below (QC 1 G (some (.int r)) M2) args s 0 0 (AU 1 G)) 116 [(0, .ref (gB G + 0)), (1, .int x1)] [] M := by
  intro h
  unfold f_X12_land_116 at h
  refine z_aload_n 0 C d_X12_land_116 rfl rfl ?_
  refine z_get (k := 19) (v := .int (M.1 0 19)) C (eY_0 _ _) (by decide) rfl inX12 (by decide) wf_X12_79 rfl d_X12_land_117 ?_
  refine z_if_ne C d_X12_land_120 (fun q1 => ?_) (fun q1 => ?_)
  · have h := o_f q1 h
    exact z_sub [0, 1] rfl (k_X12_land_140 C hlk hr h)
  · have h := o_t q1 h
    refine z_aload_n 0 C d_X12_land_123 rfl rfl ?_
    refine z_get (k := 15) (v := .int (M.1 0 15)) C (eY_0 _ _) (by decide) rfl inX12 (by decide) wf_X12_124 rfl d_X12_land_124 ?_
    refine z_aload_n 0 C d_X12_land_127 rfl rfl ?_
    refine z_get (k := 12) (v := .int (M.1 0 12)) C (eY_0 _ _) (by decide) rfl inX12 (by decide) wf_X12_134 rfl d_X12_land_128 ?_
    refine z_icmp_lt C d_X12_land_131 (fun q2 => ?_) (fun q2 => ?_)
    · have h := o_t q2 h
      exact z_sub [0, 1] rfl (k_X12_land_140 C hlk hr h)
    · have h := o_f q2 h
      refine z_aload_n 0 C d_X12_land_134 rfl rfl ?_
      refine z_bipush (v := (6 : Int32)) C d_X12_land_135 (by decide) ?_
      obtain ⟨p4, e3, h⟩ := o_bd h
      refine z_V (S := []) (As := [.int (6 : Int32)]) C (c_X12_fails l G e3) (eY_0 _ _) (by decide) rfl wc_X12_fails wm_X12_109 ws_X12_fails wl_X12_fails wi_X12 hy_X12_fails ⟨Nat.le_of_ble_eq_true rfl, Nat.le_of_ble_eq_true rfl⟩ rfl rfl (Nat.le_of_ble_eq_true rfl) d_X12_land_137 ?_
      exact z_sub [0, 1] rfl (k_X12_land_140 C hlk hr h)
set_option maxRecDepth 4000 in
theorem kb_X12_land_92 {p : Program} {l : Launch} {e : Env} {s : State} {m : MethodId} {args : Array Value} {below : List Frame} {meth : Method} {c : Code} {G : GG} {k92 : Mm → Int32 → Option (Int32 × Mm)} {M : Mm} {x1 : Int32} {r : Int32} {M2 : Mm} (C : CX p s m args c prog_14_method_22_code 3 "SnowSentriesModel" 1 G) (hlk : meth.locks = false) (hr : meth.sig.returnType = (some .int)) (hk92 : ∀ (M : Mm) (x1 : Int32), k92 M x1 = some (r, M2) → Z p l e { frames := 6, cells := 0, slots := 0, locals := 135 } s m args below meth c 1 G 3 (MQ below (QC 1 G (some (.int r)) M2) args s 0 0 (AU 1 G)) 92 [(0, .ref (gB G + 0)), (1, .int x1)] [] M) : b_X12_land_92 k92 M x1 = some (r, M2) → Z p l e { frames := 6, cells := 0, slots := 0, locals := 135 } s m args below meth c 1 G 3 (MQ below (QC 1 G (some (.int r)) M2) args s 0 0 (AU 1 G)) 92 [(0, .ref (gB G + 0)), (1, .int x1)] [] M := by
  intro h
  unfold b_X12_land_92 at h
  refine z_aload_n 0 C d_X12_land_92 rfl rfl ?_
  refine z_get (k := 19) (v := .int (M.1 0 19)) C (eY_0 _ _) (by decide) rfl inX12 (by decide) wf_X12_79 rfl d_X12_land_93 ?_
  refine z_if_ne C d_X12_land_96 (fun q1 => ?_) (fun q1 => ?_)
  · have h := o_f q1 h
    exact z_sub [0, 1] rfl (k_X12_land_116 C hlk hr h)
  · have h := o_t q1 h
    refine z_aload_n 0 C d_X12_land_99 rfl rfl ?_
    refine z_get (k := 23) (v := .int (M.1 0 23)) C (eY_0 _ _) (by decide) rfl inX12 (by decide) wf_X12_88 rfl d_X12_land_100 ?_
    refine z_if_eq C d_X12_land_103 (fun q2 => ?_) (fun q2 => ?_)
    · have h := o_t q2 h
      exact z_sub [0, 1] rfl (k_X12_land_116 C hlk hr h)
    · have h := o_f q2 h
      refine z_aload_n 0 C d_X12_land_106 rfl rfl ?_
      obtain ⟨p4, e3, h⟩ := o_bd h
      refine z_V (S := []) (As := []) C (c_X12_readLine l G e3) (eY_0 _ _) (by decide) rfl wc_X12_readLine wm_X12_176 ws_X12_readLine wl_X12_readLine wi_X12 hy_X12_readLine ⟨Nat.le_of_ble_eq_true rfl, Nat.le_of_ble_eq_true rfl⟩ rfl rfl (Nat.le_of_ble_eq_true rfl) d_X12_land_107 ?_
      refine z_iinc (v := (1 : Int32)) (L' := [(1, .int (x1 + (1 : Int32))), (0, .ref (gB G + 0))]) 1 C d_X12_land_110 rfl (by decide) (by decide) rfl ?_
      refine z_goto C d_X12_land_113 ?_
      exact z_sub [1, 0] rfl (hk92 _ _  h)
theorem k_X12_land_92 {p : Program} {l : Launch} {e : Env} {s : State} {m : MethodId} {args : Array Value} {below : List Frame} {meth : Method} {c : Code} {G : GG} {r : Int32} {M2 : Mm} (C : CX p s m args c prog_14_method_22_code 3 "SnowSentriesModel" 1 G) (hlk : meth.locks = false) (hr : meth.sig.returnType = (some .int)) : ∀ (n : Nat) (M : Mm) (x1 : Int32), f_X12_land_92 n M x1 = some (r, M2) → Z p l e { frames := 6, cells := 0, slots := 0, locals := 135 } s m args below meth c 1 G 3 (MQ below (QC 1 G (some (.int r)) M2) args s 0 0 (AU 1 G)) 92 [(0, .ref (gB G + 0)), (1, .int x1)] [] M := by
  intro n
  induction n with
  | zero =>
    intro M x1  h
    exact absurd h (fun z => by cases z)
  | succ n ih =>
    intro M x1  h
    exact kb_X12_land_92 C hlk hr  (fun M x1 h => ih M x1 h) h
set_option maxRecDepth 4000 in
theorem k_X12_land_88 {p : Program} {l : Launch} {e : Env} {s : State} {m : MethodId} {args : Array Value} {below : List Frame} {meth : Method} {c : Code} {G : GG} {M : Mm} {x1 : Int32} {r : Int32} {M2 : Mm} (C : CX p s m args c prog_14_method_22_code 3 "SnowSentriesModel" 1 G) (hlk : meth.locks = false) (hr : meth.sig.returnType = (some .int)) : f_X12_land_88 M x1 = some (r, M2) → Z p l e { frames := 6, cells := 0, slots := 0, locals := 135 } s m args below meth c 1 G 3 (MQ below (QC 1 G (some (.int r)) M2) args s 0 0 (AU 1 G)) 88 [(0, .ref (gB G + 0)), (1, .int x1)] [] M := by
  intro h
  unfold f_X12_land_88 at h
  refine z_aload_n 0 C d_X12_land_88 rfl rfl ?_
  obtain ⟨p2, e1, h⟩ := o_bd h
  refine z_V (S := []) (As := []) C (c_X12_step l G e1) (eY_0 _ _) (by decide) rfl wc_X12_step wm_X12_117 ws_X12_step wl_X12_step wi_X12 hy_X12_step ⟨Nat.le_of_ble_eq_true rfl, Nat.le_of_ble_eq_true rfl⟩ rfl rfl (Nat.le_of_ble_eq_true rfl) d_X12_land_89 ?_
  exact z_sub [0, 1] rfl (k_X12_land_92 C hlk hr _ _ _ h)
set_option maxRecDepth 4000 in
theorem kb_X12_land_39 {p : Program} {l : Launch} {e : Env} {s : State} {m : MethodId} {args : Array Value} {below : List Frame} {meth : Method} {c : Code} {G : GG} {k39 : Mm → Int32 → Option (Int32 × Mm)} {x1 : Int32} {M : Mm} {x2 : Int32} {r : Int32} {M2 : Mm} (C : CX p s m args c prog_14_method_22_code 3 "SnowSentriesModel" 1 G) (hlk : meth.locks = false) (hr : meth.sig.returnType = (some .int)) (hk39 : ∀ (M : Mm) (x2 : Int32), k39 M x2 = some (r, M2) → Z p l e { frames := 6, cells := 0, slots := 0, locals := 135 } s m args below meth c 1 G 3 (MQ below (QC 1 G (some (.int r)) M2) args s 0 0 (AU 1 G)) 39 [(0, .ref (gB G + 0)), (1, .int x1), (2, .int x2)] [] M) : b_X12_land_39 k39 x1 M x2 = some (r, M2) → Z p l e { frames := 6, cells := 0, slots := 0, locals := 135 } s m args below meth c 1 G 3 (MQ below (QC 1 G (some (.int r)) M2) args s 0 0 (AU 1 G)) 39 [(0, .ref (gB G + 0)), (1, .int x1), (2, .int x2)] [] M := by
  intro h
  unfold b_X12_land_39 at h
  refine z_iload_n 2 C d_X12_land_39 rfl rfl ?_
  refine z_sipush (v := (210 : Int32)) C d_X12_land_40 (by decide) ?_
  refine z_icmp_ge C d_X12_land_43 (fun q1 => ?_) (fun q1 => ?_)
  · have h := o_t q1 h
    exact z_sub [0, 1] rfl (k_X12_land_88 C hlk hr h)
  · have h := o_f q1 h
    refine z_aload_n 0 C d_X12_land_46 rfl rfl ?_
    refine z_get (k := 7) (v := .ref (gB G + 5)) C (eY_0 _ _) (by decide) rfl inX12 (by decide) wf_X12_29 rfl d_X12_land_47 ?_
    refine z_iload_n 2 C d_X12_land_50 rfl rfl ?_
    refine z_iconst (v := (0 : Int32)) C d_X12_land_51 (by decide) ?_
    obtain ⟨q4, h⟩ := o_ck h
    obtain ⟨M2, e3, h⟩ := o_wr h
    refine z_ast (fun r q => eY_5 r q) C (by decide) q4 d_X12_land_52 ?_
    refine z_nM e3 ?_
    refine z_aload_n 0 C d_X12_land_53 rfl rfl ?_
    refine z_get (k := 8) (v := .ref (gB G + 6)) C (eY_0 _ _) (by decide) rfl inX12 (by decide) wf_X12_32 rfl d_X12_land_54 ?_
    refine z_iload_n 2 C d_X12_land_57 rfl rfl ?_
    refine z_bipush (v := (12 : Int32)) C d_X12_land_58 (by decide) ?_
    refine z_irem C d_X12_land_60 (by decide) ?_
    refine z_iconst (v := (0 : Int32)) C d_X12_land_61 (by decide) ?_
    obtain ⟨q7, h⟩ := o_ck h
    obtain ⟨M5, e6, h⟩ := o_wr h
    refine z_ast (fun r q => eY_6 r q) C (by decide) q7 d_X12_land_62 ?_
    refine z_nM e6 ?_
    refine z_aload_n 0 C d_X12_land_63 rfl rfl ?_
    refine z_get (k := 9) (v := .ref (gB G + 7)) C (eY_0 _ _) (by decide) rfl inX12 (by decide) wf_X12_35 rfl d_X12_land_64 ?_
    refine z_iload_n 2 C d_X12_land_67 rfl rfl ?_
    refine z_iconst (v := (3 : Int32)) C d_X12_land_68 (by decide) ?_
    refine z_irem C d_X12_land_69 (by decide) ?_
    refine z_iload_n 2 C d_X12_land_70 rfl rfl ?_
    refine z_iconst (v := (3 : Int32)) C d_X12_land_71 (by decide) ?_
    refine z_irem C d_X12_land_72 (by decide) ?_
    refine z_if_ne C d_X12_land_73 (fun q8 => ?_) (fun q8 => ?_)
    · have h := o_f q8 h
      refine z_iconst (v := (0 : Int32)) C d_X12_land_80 (by decide) ?_
      exact z_sub [0, 1, 2] rfl (k_X12_land_81 C hlk hr hk39 h)
    · have h := o_t q8 h
      refine z_iconst (v := (1 : Int32)) C d_X12_land_76 (by decide) ?_
      refine z_goto C d_X12_land_77 ?_
      exact z_sub [0, 1, 2] rfl (k_X12_land_81 C hlk hr hk39 h)
theorem k_X12_land_39 {p : Program} {l : Launch} {e : Env} {s : State} {m : MethodId} {args : Array Value} {below : List Frame} {meth : Method} {c : Code} {G : GG} {x1 : Int32} {r : Int32} {M2 : Mm} (C : CX p s m args c prog_14_method_22_code 3 "SnowSentriesModel" 1 G) (hlk : meth.locks = false) (hr : meth.sig.returnType = (some .int)) : ∀ (n : Nat) (M : Mm) (x2 : Int32), f_X12_land_39 x1 n M x2 = some (r, M2) → Z p l e { frames := 6, cells := 0, slots := 0, locals := 135 } s m args below meth c 1 G 3 (MQ below (QC 1 G (some (.int r)) M2) args s 0 0 (AU 1 G)) 39 [(0, .ref (gB G + 0)), (1, .int x1), (2, .int x2)] [] M := by
  intro n
  induction n with
  | zero =>
    intro M x2  h
    exact absurd h (fun z => by cases z)
  | succ n ih =>
    intro M x2  h
    exact kb_X12_land_39 C hlk hr  (fun M x2 h => ih M x2 h) h
set_option maxRecDepth 4000 in
theorem k_X12_land_0 {p : Program} {l : Launch} {e : Env} {s : State} {m : MethodId} {args : Array Value} {below : List Frame} {meth : Method} {c : Code} {G : GG} {M : Mm} {r : Int32} {M2 : Mm} (C : CX p s m args c prog_14_method_22_code 3 "SnowSentriesModel" 1 G) (hlk : meth.locks = false) (hr : meth.sig.returnType = (some .int)) : f_X12_land M = some (r, M2) → Z p l e { frames := 6, cells := 0, slots := 0, locals := 135 } s m args below meth c 1 G 3 (MQ below (QC 1 G (some (.int r)) M2) args s 0 0 (AU 1 G)) 0 [(0, .ref (gB G + 0))] [] M := by
  intro h
  unfold f_X12_land at h
  refine z_aload_n 0 C d_X12_land_0 rfl rfl ?_
  refine z_iconst (v := (0 : Int32)) C d_X12_land_1 (by decide) ?_
  obtain ⟨M1, e2, h⟩ := o_wr h
  refine z_pI (k := 19) (ty := .int) C (fun r q => eY_0 r q) (fun _ _ => rfl) (by decide) rfl inX12 tyX12 tyX12_ok nmX12 (by decide) wf_X12_79 rfl (by decide +kernel) rfl rfl (Nat.le_of_ble_eq_true rfl) d_X12_land_2 ?_
  refine z_nM e2 ?_
  refine z_aload_n 0 C d_X12_land_5 rfl rfl ?_
  refine z_iconst (v := (0 : Int32)) C d_X12_land_6 (by decide) ?_
  obtain ⟨M3, e4, h⟩ := o_wr h
  refine z_pI (k := 21) (ty := .int) C (fun r q => eY_0 r q) (fun _ _ => rfl) (by decide) rfl inX12 tyX12 tyX12_ok nmX12 (by decide) wf_X12_91 rfl (by decide +kernel) rfl rfl (Nat.le_of_ble_eq_true rfl) d_X12_land_7 ?_
  refine z_nM e4 ?_
  refine z_aload_n 0 C d_X12_land_10 rfl rfl ?_
  refine z_iconst (v := (0 : Int32)) C d_X12_land_11 (by decide) ?_
  obtain ⟨M5, e6, h⟩ := o_wr h
  refine z_pI (k := 13) (ty := .int) C (fun r q => eY_0 r q) (fun _ _ => rfl) (by decide) rfl inX12 tyX12 tyX12_ok nmX12 (by decide) wf_X12_131 rfl (by decide +kernel) rfl rfl (Nat.le_of_ble_eq_true rfl) d_X12_land_12 ?_
  refine z_nM e6 ?_
  refine z_aload_n 0 C d_X12_land_15 rfl rfl ?_
  refine z_iconst (v := (0 : Int32)) C d_X12_land_16 (by decide) ?_
  obtain ⟨M7, e8, h⟩ := o_wr h
  refine z_pI (k := 14) (ty := .int) C (fun r q => eY_0 r q) (fun _ _ => rfl) (by decide) rfl inX12 tyX12 tyX12_ok nmX12 (by decide) wf_X12_144 rfl (by decide +kernel) rfl rfl (Nat.le_of_ble_eq_true rfl) d_X12_land_17 ?_
  refine z_nM e8 ?_
  refine z_aload_n 0 C d_X12_land_20 rfl rfl ?_
  refine z_iconst (v := (0 : Int32)) C d_X12_land_21 (by decide) ?_
  obtain ⟨M9, e10, h⟩ := o_wr h
  refine z_pI (k := 15) (ty := .int) C (fun r q => eY_0 r q) (fun _ _ => rfl) (by decide) rfl inX12 tyX12 tyX12_ok nmX12 (by decide) wf_X12_124 rfl (by decide +kernel) rfl rfl (Nat.le_of_ble_eq_true rfl) d_X12_land_22 ?_
  refine z_nM e10 ?_
  refine z_aload_n 0 C d_X12_land_25 rfl rfl ?_
  refine z_iconst (v := (5 : Int32)) C d_X12_land_26 (by decide) ?_
  obtain ⟨M11, e12, h⟩ := o_wr h
  refine z_pI (k := 12) (ty := .int) C (fun r q => eY_0 r q) (fun _ _ => rfl) (by decide) rfl inX12 tyX12 tyX12_ok nmX12 (by decide) wf_X12_134 rfl (by decide +kernel) rfl rfl (Nat.le_of_ble_eq_true rfl) d_X12_land_27 ?_
  refine z_nM e12 ?_
  refine z_aload_n 0 C d_X12_land_30 rfl rfl ?_
  refine z_iconst (v := (0 : Int32)) C d_X12_land_31 (by decide) ?_
  obtain ⟨M13, e14, h⟩ := o_wr h
  refine z_pI (k := 11) (ty := .int) C (fun r q => eY_0 r q) (fun _ _ => rfl) (by decide) rfl inX12 tyX12 tyX12_ok nmX12 (by decide) wf_X12_150 rfl (by decide +kernel) rfl rfl (Nat.le_of_ble_eq_true rfl) d_X12_land_32 ?_
  refine z_nM e14 ?_
  refine z_iconst (v := (0 : Int32)) C d_X12_land_35 (by decide) ?_
  refine z_istore_n (L' := [(1, .int (0 : Int32)), (0, .ref (gB G + 0))]) C d_X12_land_36 rfl (by decide) rfl ?_
  refine z_iconst (v := (0 : Int32)) C d_X12_land_37 (by decide) ?_
  refine z_istore_n (L' := [(2, .int (0 : Int32)), (1, .int (0 : Int32)), (0, .ref (gB G + 0))]) C d_X12_land_38 rfl (by decide) rfl ?_
  exact z_sub [2, 1, 0] rfl (k_X12_land_39 C hlk hr _ _ _ h)
theorem c_X12_land (l : Launch) (G : GG) {M : Mm} {r : Int32} {M2 : Mm} (h : f_X12_land M = some (r, M2)) : CT l 1 G y_X12_land prog_14_method_22_code 3 (some .int) 6 135 [.ref (gB G + 0)] M (some (.int r)) M2 :=
  CT.of (by decide +kernel) (Nat.le_of_ble_eq_true rfl) rfl (fun p e s m args below meth c C hlk hr => k_X12_land_0 C hlk hr h)
-- SnowSentriesModel.fault()I
set_option maxRecDepth 4000 in
theorem k_X12_fault_0 {p : Program} {l : Launch} {e : Env} {s : State} {m : MethodId} {args : Array Value} {below : List Frame} {meth : Method} {c : Code} {G : GG} {M : Mm} {r : Int32} (C : CX p s m args c prog_14_method_23_code 1 "SnowSentriesModel" 1 G) (hlk : meth.locks = false) (hr : meth.sig.returnType = (some .int)) : f_X12_fault M = some r → Z p l e { frames := 0, cells := 0, slots := 0, locals := 0 } s m args below meth c 1 G 1 (MQ below (QC 1 G (some (.int r)) M) args s 0 0 (AU 1 G)) 0 [(0, .ref (gB G + 0))] [] M := by
  intro h
  unfold f_X12_fault at h
  refine z_aload_n 0 C d_X12_fault_0 rfl rfl ?_
  refine z_get (k := 18) (v := .int (M.1 0 18)) C (eY_0 _ _) (by decide) rfl inX12 (by decide) wf_X12_179 rfl d_X12_fault_1 ?_
  obtain rfl := o_some h
  exact z_iret C hlk hr d_X12_fault_4
theorem c_X12_fault (l : Launch) (G : GG) {M : Mm} {r : Int32} (h : f_X12_fault M = some r) : CT l 1 G y_X12_fault prog_14_method_23_code 1 (some .int) 0 0 [.ref (gB G + 0)] M (some (.int r)) M :=
  CT.of (by decide +kernel) (Nat.le_of_ble_eq_true rfl) rfl (fun p e s m args below meth c C hlk hr => k_X12_fault_0 C hlk hr h)
-- SnowSentriesModel.hourNow()I
set_option maxRecDepth 4000 in
theorem k_X12_hourNow_0 {p : Program} {l : Launch} {e : Env} {s : State} {m : MethodId} {args : Array Value} {below : List Frame} {meth : Method} {c : Code} {G : GG} {M : Mm} {r : Int32} (C : CX p s m args c prog_14_method_24_code 1 "SnowSentriesModel" 1 G) (hlk : meth.locks = false) (hr : meth.sig.returnType = (some .int)) : f_X12_hourNow M = some r → Z p l e { frames := 0, cells := 0, slots := 0, locals := 0 } s m args below meth c 1 G 1 (MQ below (QC 1 G (some (.int r)) M) args s 0 0 (AU 1 G)) 0 [(0, .ref (gB G + 0))] [] M := by
  intro h
  unfold f_X12_hourNow at h
  refine z_aload_n 0 C d_X12_hourNow_0 rfl rfl ?_
  refine z_get (k := 0) (v := .ref (gB G + 1)) C (eY_0 _ _) (by decide) rfl inX12 (by decide) wf_X12_7 rfl d_X12_hourNow_1 ?_
  refine z_sipush (v := (170 : Int32)) C d_X12_hourNow_4 (by decide) ?_
  refine z_ald (eY_1 _ _) C (by decide) (show inn (170 : Int32) 840 from by decide) d_X12_hourNow_7 ?_
  obtain rfl := o_some h
  exact z_iret C hlk hr d_X12_hourNow_8
theorem c_X12_hourNow (l : Launch) (G : GG) {M : Mm} {r : Int32} (h : f_X12_hourNow M = some r) : CT l 1 G y_X12_hourNow prog_14_method_24_code 1 (some .int) 0 0 [.ref (gB G + 0)] M (some (.int r)) M :=
  CT.of (by decide +kernel) (Nat.le_of_ble_eq_true rfl) rfl (fun p e s m args below meth c C hlk hr => k_X12_hourNow_0 C hlk hr h)
-- SnowSentriesModel.rule(I)I
set_option maxRecDepth 4000 in
theorem k_X12_rule_61 {p : Program} {l : Launch} {e : Env} {s : State} {m : MethodId} {args : Array Value} {below : List Frame} {meth : Method} {c : Code} {G : GG} {M : Mm} {s_0 : Int32} {r : Int32} (C : CX p s m args c prog_14_method_25_code 2 "SnowSentriesModel" 1 G) (hlk : meth.locks = false) (hr : meth.sig.returnType = (some .int)) : f_X12_rule_61 M s_0 = some r → Z p l e { frames := 1, cells := 0, slots := 0, locals := 25 } s m args below meth c 1 G 2 (MQ below (QC 1 G (some (.int r)) M) args s 0 0 (AU 1 G)) 61 [] [.int s_0] M := by
  intro h
  unfold f_X12_rule_61 at h
  obtain rfl := o_some h
  exact z_iret C hlk hr d_X12_rule_61
set_option maxRecDepth 4000 in
theorem k_X12_rule_0 {p : Program} {l : Launch} {e : Env} {s : State} {m : MethodId} {args : Array Value} {below : List Frame} {meth : Method} {c : Code} {G : GG} {M : Mm} {x1 : Int32} {r : Int32} (C : CX p s m args c prog_14_method_25_code 2 "SnowSentriesModel" 1 G) (hlk : meth.locks = false) (hr : meth.sig.returnType = (some .int)) : f_X12_rule M x1 = some r → Z p l e { frames := 1, cells := 0, slots := 0, locals := 25 } s m args below meth c 1 G 2 (MQ below (QC 1 G (some (.int r)) M) args s 0 0 (AU 1 G)) 0 [(0, .ref (gB G + 0)), (1, .int x1)] [] M := by
  intro h
  unfold f_X12_rule at h
  refine z_iload_n 1 C d_X12_rule_0 rfl rfl ?_
  refine z_if_ne C d_X12_rule_1 (fun q1 => ?_) (fun q1 => ?_)
  · have h := o_f q1 h
    refine z_iload_n 1 C d_X12_rule_11 rfl rfl ?_
    refine z_iconst (v := (1 : Int32)) C d_X12_rule_12 (by decide) ?_
    refine z_icmp_ne C d_X12_rule_13 (fun q2 => ?_) (fun q2 => ?_)
    · have h := o_f q2 h
      refine z_iload_n 1 C d_X12_rule_23 rfl rfl ?_
      refine z_i2l C d_X12_rule_24 ?_
      refine z_ldc2 (v := (2 : Int64)) C wk_X12_188 d_X12_rule_25 ?_
      refine z_ldc2 (v := (4 : Int64)) C wk_X12_190 d_X12_rule_28 ?_
      obtain ⟨p4, e3, h⟩ := o_bd h
      refine z_S (S := []) (As := [.long x1.toInt64, .long (2 : Int64), .long (4 : Int64)]) C (c_X12_in l G (M := M) e3) wc_X12_in wm_X12_75 ws_X12_in wi_X12 hy_X12_in ⟨Nat.le_of_ble_eq_true rfl, Nat.le_of_ble_eq_true rfl⟩ rfl rfl (Nat.le_of_ble_eq_true rfl) d_X12_rule_31 ?_
      refine z_if_eq C d_X12_rule_34 (fun q5 => ?_) (fun q5 => ?_)
      · have h := o_t q5 h
        refine z_iload_n 1 C d_X12_rule_48 rfl rfl ?_
        refine z_iconst (v := (5 : Int32)) C d_X12_rule_49 (by decide) ?_
        refine z_icmp_ne C d_X12_rule_50 (fun q6 => ?_) (fun q6 => ?_)
        · have h := o_f q6 h
          refine z_iconst (v := (-1 : Int32)) C d_X12_rule_60 (by decide) ?_
          exact z_sub [] rfl (k_X12_rule_61 C hlk hr h)
        · have h := o_t q6 h
          refine z_aload_n 0 C d_X12_rule_53 rfl rfl ?_
          refine z_get (k := 6) (v := .int (M.1 0 6)) C (eY_0 _ _) (by decide) rfl inX12 (by decide) wf_X12_26 rfl d_X12_rule_54 ?_
          refine z_goto C d_X12_rule_57 ?_
          exact z_sub [] rfl (k_X12_rule_61 C hlk hr h)
      · have h := o_f q5 h
        refine z_aload_n 0 C d_X12_rule_37 rfl rfl ?_
        refine z_get (k := 3) (v := .ref (gB G + 3)) C (eY_0 _ _) (by decide) rfl inX12 (by decide) wf_X12_20 rfl d_X12_rule_38 ?_
        refine z_iload_n 1 C d_X12_rule_41 rfl rfl ?_
        refine z_iconst (v := (2 : Int32)) C d_X12_rule_42 (by decide) ?_
        refine z_isub C d_X12_rule_43 ?_
        obtain ⟨q7, h⟩ := o_ck h
        refine z_ald (eY_3 _ _) C (by decide) q7 d_X12_rule_44 ?_
        refine z_goto C d_X12_rule_45 ?_
        exact z_sub [] rfl (k_X12_rule_61 C hlk hr h)
    · have h := o_t q2 h
      refine z_aload_n 0 C d_X12_rule_16 rfl rfl ?_
      obtain ⟨p9, e8, h⟩ := o_bd h
      refine z_V (S := []) (As := []) C (c_X12_hourNow l G e8) (eY_0 _ _) (by decide) rfl wc_X12_hourNow wm_X12_185 ws_X12_hourNow wl_X12_hourNow wi_X12 hy_X12_hourNow ⟨Nat.le_of_ble_eq_true rfl, Nat.le_of_ble_eq_true rfl⟩ rfl rfl (Nat.le_of_ble_eq_true rfl) d_X12_rule_17 ?_
      refine z_goto C d_X12_rule_20 ?_
      exact z_sub [] rfl (k_X12_rule_61 C hlk hr h)
  · have h := o_t q1 h
    refine z_aload_n 0 C d_X12_rule_4 rfl rfl ?_
    refine z_get (k := 1) (v := .int (M.1 0 1)) C (eY_0 _ _) (by decide) rfl inX12 (by decide) wf_X12_13 rfl d_X12_rule_5 ?_
    refine z_goto C d_X12_rule_8 ?_
    exact z_sub [] rfl (k_X12_rule_61 C hlk hr h)
theorem c_X12_rule (l : Launch) (G : GG) {M : Mm} {x1 : Int32} {r : Int32} (h : f_X12_rule M x1 = some r) : CT l 1 G y_X12_rule prog_14_method_25_code 2 (some .int) 1 25 [.ref (gB G + 0), .int x1] M (some (.int r)) M :=
  CT.of (by decide +kernel) (Nat.le_of_ble_eq_true rfl) rfl (fun p e s m args below meth c C hlk hr => k_X12_rule_0 C hlk hr h)
-- SnowSentriesModel.isHour(I)Z
set_option maxRecDepth 4000 in
theorem k_X12_isHour_0 {p : Program} {l : Launch} {e : Env} {s : State} {m : MethodId} {args : Array Value} {below : List Frame} {meth : Method} {c : Code} {G : GG} {x0 : Int32} {M : Mm}  {r : Int32} (C : CX p s m args c prog_14_method_26_code 1 "SnowSentriesModel" 1 G) (hlk : meth.locks = false) (hr : meth.sig.returnType = (some .boolean)) : f_X12_isHour x0 = some r → Z p l e { frames := 1, cells := 0, slots := 0, locals := 25 } s m args below meth c 1 G 1 (MQ below (QC 1 G (some (.int r)) M) args s 0 0 (AU 1 G)) 0 [(0, .int x0)] [] M := by
  intro h
  unfold f_X12_isHour at h
  refine z_iload_n 0 C d_X12_isHour_0 rfl rfl ?_
  refine z_i2l C d_X12_isHour_1 ?_
  refine z_lconst (v := (0 : Int64)) C d_X12_isHour_2 (by decide) ?_
  refine z_ldc2 (v := (11 : Int64)) C wk_X12_192 d_X12_isHour_3 ?_
  obtain ⟨p2, e1, h⟩ := o_bd h
  refine z_S (S := []) (As := [.long x0.toInt64, .long (0 : Int64), .long (11 : Int64)]) C (c_X12_in l G (M := M) e1) wc_X12_in wm_X12_75 ws_X12_in wi_X12 hy_X12_in ⟨Nat.le_of_ble_eq_true rfl, Nat.le_of_ble_eq_true rfl⟩ rfl rfl (Nat.le_of_ble_eq_true rfl) d_X12_isHour_6 ?_
  obtain ⟨q3, h⟩ := o_ck h
  obtain rfl := o_some h
  exact z_zret C hlk hr (isB_nar q3) d_X12_isHour_9
theorem c_X12_isHour (l : Launch) (G : GG) {x0 : Int32} {M : Mm} {r : Int32} (h : f_X12_isHour x0 = some r) : CT l 1 G y_X12_isHour prog_14_method_26_code 1 (some .boolean) 1 25 [.int x0] M (some (.int r)) M :=
  CT.of (by decide +kernel) (Nat.le_of_ble_eq_true rfl) rfl (fun p e s m args below meth c C hlk hr => k_X12_isHour_0 C hlk hr h)
-- SnowSentriesModel.isFurlong(I)Z
set_option maxRecDepth 4000 in
theorem k_X12_isFurlong_0 {p : Program} {l : Launch} {e : Env} {s : State} {m : MethodId} {args : Array Value} {below : List Frame} {meth : Method} {c : Code} {G : GG} {M : Mm} {x1 : Int32} {r : Int32} (C : CX p s m args c prog_14_method_27_code 2 "SnowSentriesModel" 1 G) (hlk : meth.locks = false) (hr : meth.sig.returnType = (some .boolean)) : f_X12_isFurlong M x1 = some r → Z p l e { frames := 1, cells := 0, slots := 0, locals := 25 } s m args below meth c 1 G 2 (MQ below (QC 1 G (some (.int r)) M) args s 0 0 (AU 1 G)) 0 [(0, .ref (gB G + 0)), (1, .int x1)] [] M := by
  intro h
  unfold f_X12_isFurlong at h
  refine z_iload_n 1 C d_X12_isFurlong_0 rfl rfl ?_
  refine z_i2l C d_X12_isFurlong_1 ?_
  refine z_lconst (v := (0 : Int64)) C d_X12_isFurlong_2 (by decide) ?_
  refine z_aload_n 0 C d_X12_isFurlong_3 rfl rfl ?_
  refine z_get (k := 1) (v := .int (M.1 0 1)) C (eY_0 _ _) (by decide) rfl inX12 (by decide) wf_X12_13 rfl d_X12_isFurlong_4 ?_
  refine z_iconst (v := (1 : Int32)) C d_X12_isFurlong_7 (by decide) ?_
  refine z_isub C d_X12_isFurlong_8 ?_
  refine z_i2l C d_X12_isFurlong_9 ?_
  obtain ⟨p2, e1, h⟩ := o_bd h
  refine z_S (S := []) (As := [.long x1.toInt64, .long (0 : Int64), .long (((M.1 0 1) - (1 : Int32)).toInt64)]) C (c_X12_in l G (M := M) e1) wc_X12_in wm_X12_75 ws_X12_in wi_X12 hy_X12_in ⟨Nat.le_of_ble_eq_true rfl, Nat.le_of_ble_eq_true rfl⟩ rfl rfl (Nat.le_of_ble_eq_true rfl) d_X12_isFurlong_10 ?_
  obtain ⟨q3, h⟩ := o_ck h
  obtain rfl := o_some h
  exact z_zret C hlk hr (isB_nar q3) d_X12_isFurlong_13
theorem c_X12_isFurlong (l : Launch) (G : GG) {M : Mm} {x1 : Int32} {r : Int32} (h : f_X12_isFurlong M x1 = some r) : CT l 1 G y_X12_isFurlong prog_14_method_27_code 2 (some .boolean) 1 25 [.ref (gB G + 0), .int x1] M (some (.int r)) M :=
  CT.of (by decide +kernel) (Nat.le_of_ble_eq_true rfl) rfl (fun p e s m args below meth c C hlk hr => k_X12_isFurlong_0 C hlk hr h)
-- SnowSentriesModel.isSide(I)Z
set_option maxRecDepth 4000 in
theorem k_X12_isSide_0 {p : Program} {l : Launch} {e : Env} {s : State} {m : MethodId} {args : Array Value} {below : List Frame} {meth : Method} {c : Code} {G : GG} {x0 : Int32} {M : Mm}  {r : Int32} (C : CX p s m args c prog_14_method_28_code 1 "SnowSentriesModel" 1 G) (hlk : meth.locks = false) (hr : meth.sig.returnType = (some .boolean)) : f_X12_isSide x0 = some r → Z p l e { frames := 1, cells := 0, slots := 0, locals := 25 } s m args below meth c 1 G 1 (MQ below (QC 1 G (some (.int r)) M) args s 0 0 (AU 1 G)) 0 [(0, .int x0)] [] M := by
  intro h
  unfold f_X12_isSide at h
  refine z_iload_n 0 C d_X12_isSide_0 rfl rfl ?_
  refine z_i2l C d_X12_isSide_1 ?_
  refine z_lconst (v := (0 : Int64)) C d_X12_isSide_2 (by decide) ?_
  refine z_lconst (v := (1 : Int64)) C d_X12_isSide_3 (by decide) ?_
  obtain ⟨p2, e1, h⟩ := o_bd h
  refine z_S (S := []) (As := [.long x0.toInt64, .long (0 : Int64), .long (1 : Int64)]) C (c_X12_in l G (M := M) e1) wc_X12_in wm_X12_75 ws_X12_in wi_X12 hy_X12_in ⟨Nat.le_of_ble_eq_true rfl, Nat.le_of_ble_eq_true rfl⟩ rfl rfl (Nat.le_of_ble_eq_true rfl) d_X12_isSide_4 ?_
  obtain ⟨q3, h⟩ := o_ck h
  obtain rfl := o_some h
  exact z_zret C hlk hr (isB_nar q3) d_X12_isSide_7
theorem c_X12_isSide (l : Launch) (G : GG) {x0 : Int32} {M : Mm} {r : Int32} (h : f_X12_isSide x0 = some r) : CT l 1 G y_X12_isSide prog_14_method_28_code 1 (some .boolean) 1 25 [.int x0] M (some (.int r)) M :=
  CT.of (by decide +kernel) (Nat.le_of_ble_eq_true rfl) rfl (fun p e s m args below meth c C hlk hr => k_X12_isSide_0 C hlk hr h)
-- SnowSentriesModel.hour(II)I
set_option maxRecDepth 4000 in
theorem k_X12_hour_44 {p : Program} {l : Launch} {e : Env} {s : State} {m : MethodId} {args : Array Value} {below : List Frame} {meth : Method} {c : Code} {G : GG} {M : Mm} {s_0 : Int32} {r : Int32} (C : CX p s m args c prog_14_method_29_code 3 "SnowSentriesModel" 1 G) (hlk : meth.locks = false) (hr : meth.sig.returnType = (some .int)) : f_X12_hour_44 M s_0 = some r → Z p l e { frames := 2, cells := 0, slots := 0, locals := 45 } s m args below meth c 1 G 3 (MQ below (QC 1 G (some (.int r)) M) args s 0 0 (AU 1 G)) 44 [] [.int s_0] M := by
  intro h
  unfold f_X12_hour_44 at h
  obtain rfl := o_some h
  exact z_iret C hlk hr d_X12_hour_44
set_option maxRecDepth 4000 in
theorem k_X12_hour_43 {p : Program} {l : Launch} {e : Env} {s : State} {m : MethodId} {args : Array Value} {below : List Frame} {meth : Method} {c : Code} {G : GG} {M : Mm} {r : Int32} (C : CX p s m args c prog_14_method_29_code 3 "SnowSentriesModel" 1 G) (hlk : meth.locks = false) (hr : meth.sig.returnType = (some .int)) : f_X12_hour_43 M = some r → Z p l e { frames := 2, cells := 0, slots := 0, locals := 45 } s m args below meth c 1 G 3 (MQ below (QC 1 G (some (.int r)) M) args s 0 0 (AU 1 G)) 43 [] [] M := by
  intro h
  unfold f_X12_hour_43 at h
  refine z_iconst (v := (-1 : Int32)) C d_X12_hour_43 (by decide) ?_
  exact z_sub [] rfl (k_X12_hour_44 C hlk hr h)
set_option maxRecDepth 4000 in
theorem k_X12_hour_0 {p : Program} {l : Launch} {e : Env} {s : State} {m : MethodId} {args : Array Value} {below : List Frame} {meth : Method} {c : Code} {G : GG} {M : Mm} {x1 : Int32} {x2 : Int32} {r : Int32} (C : CX p s m args c prog_14_method_29_code 3 "SnowSentriesModel" 1 G) (hlk : meth.locks = false) (hr : meth.sig.returnType = (some .int)) : f_X12_hour M x1 x2 = some r → Z p l e { frames := 2, cells := 0, slots := 0, locals := 45 } s m args below meth c 1 G 3 (MQ below (QC 1 G (some (.int r)) M) args s 0 0 (AU 1 G)) 0 [(0, .ref (gB G + 0)), (1, .int x1), (2, .int x2)] [] M := by
  intro h
  unfold f_X12_hour at h
  refine z_iload_n 1 C d_X12_hour_0 rfl rfl ?_
  obtain ⟨p2, e1, h⟩ := o_bd h
  refine z_S (S := []) (As := [.int x1]) C (c_X12_isHour l G (M := M) e1) wc_X12_isHour wm_X12_194 ws_X12_isHour wi_X12 hy_X12_isHour ⟨Nat.le_of_ble_eq_true rfl, Nat.le_of_ble_eq_true rfl⟩ rfl rfl (Nat.le_of_ble_eq_true rfl) d_X12_hour_1 ?_
  refine z_if_eq C d_X12_hour_4 (fun q3 => ?_) (fun q3 => ?_)
  · have h := o_t q3 h
    exact z_sub [] rfl (k_X12_hour_43 C hlk hr h)
  · have h := o_f q3 h
    refine z_iload_n 2 C d_X12_hour_7 rfl rfl ?_
    refine z_i2l C d_X12_hour_8 ?_
    refine z_lconst (v := (0 : Int64)) C d_X12_hour_9 (by decide) ?_
    refine z_lconst (v := (1 : Int64)) C d_X12_hour_10 (by decide) ?_
    obtain ⟨p5, e4, h⟩ := o_bd h
    refine z_S (S := []) (As := [.long x2.toInt64, .long (0 : Int64), .long (1 : Int64)]) C (c_X12_in l G (M := M) e4) wc_X12_in wm_X12_75 ws_X12_in wi_X12 hy_X12_in ⟨Nat.le_of_ble_eq_true rfl, Nat.le_of_ble_eq_true rfl⟩ rfl rfl (Nat.le_of_ble_eq_true rfl) d_X12_hour_11 ?_
    refine z_if_eq C d_X12_hour_14 (fun q6 => ?_) (fun q6 => ?_)
    · have h := o_t q6 h
      exact z_sub [] rfl (k_X12_hour_43 C hlk hr h)
    · have h := o_f q6 h
      refine z_iload_n 2 C d_X12_hour_17 rfl rfl ?_
      refine z_if_ne C d_X12_hour_18 (fun q7 => ?_) (fun q7 => ?_)
      · have h := o_f q7 h
        refine z_aload_n 0 C d_X12_hour_34 rfl rfl ?_
        refine z_get (k := 2) (v := .ref (gB G + 2)) C (eY_0 _ _) (by decide) rfl inX12 (by decide) wf_X12_17 rfl d_X12_hour_35 ?_
        refine z_iload_n 1 C d_X12_hour_38 rfl rfl ?_
        obtain ⟨q8, h⟩ := o_ck h
        refine z_ald (eY_2 _ _) C (by decide) q8 d_X12_hour_39 ?_
        refine z_goto C d_X12_hour_40 ?_
        exact z_sub [] rfl (k_X12_hour_44 C hlk hr h)
      · have h := o_t q7 h
        refine z_aload_n 0 C d_X12_hour_21 rfl rfl ?_
        refine z_get (k := 0) (v := .ref (gB G + 1)) C (eY_0 _ _) (by decide) rfl inX12 (by decide) wf_X12_7 rfl d_X12_hour_22 ?_
        refine z_sipush (v := (171 : Int32)) C d_X12_hour_25 (by decide) ?_
        refine z_iload_n 1 C d_X12_hour_28 rfl rfl ?_
        refine z_iadd C d_X12_hour_29 ?_
        obtain ⟨q9, h⟩ := o_ck h
        refine z_ald (eY_1 _ _) C (by decide) q9 d_X12_hour_30 ?_
        refine z_goto C d_X12_hour_31 ?_
        exact z_sub [] rfl (k_X12_hour_44 C hlk hr h)
theorem c_X12_hour (l : Launch) (G : GG) {M : Mm} {x1 : Int32} {x2 : Int32} {r : Int32} (h : f_X12_hour M x1 x2 = some r) : CT l 1 G y_X12_hour prog_14_method_29_code 3 (some .int) 2 45 [.ref (gB G + 0), .int x1, .int x2] M (some (.int r)) M :=
  CT.of (by decide +kernel) (Nat.le_of_ble_eq_true rfl) rfl (fun p e s m args below meth c C hlk hr => k_X12_hour_0 C hlk hr h)
-- SnowSentriesModel.manAt(II)I
set_option maxRecDepth 4000 in
theorem k_X12_manAt_0 {p : Program} {l : Launch} {e : Env} {s : State} {m : MethodId} {args : Array Value} {below : List Frame} {meth : Method} {c : Code} {G : GG} {x0 : Int32} {x1 : Int32} {M : Mm}  {r : Int32} (C : CX p s m args c prog_14_method_30_code 2 "SnowSentriesModel" 1 G) (hlk : meth.locks = false) (hr : meth.sig.returnType = (some .int)) : f_X12_manAt x0 x1 = some r → Z p l e { frames := 0, cells := 0, slots := 0, locals := 0 } s m args below meth c 1 G 2 (MQ below (QC 1 G (some (.int r)) M) args s 0 0 (AU 1 G)) 0 [(0, .int x0), (1, .int x1)] [] M := by
  intro h
  unfold f_X12_manAt at h
  refine z_bipush (v := (7 : Int32)) C d_X12_manAt_0 (by decide) ?_
  refine z_bipush (v := (10 : Int32)) C d_X12_manAt_2 (by decide) ?_
  refine z_iload_n 0 C d_X12_manAt_4 rfl rfl ?_
  refine z_imul C d_X12_manAt_5 ?_
  refine z_iload_n 1 C d_X12_manAt_6 rfl rfl ?_
  refine z_iadd C d_X12_manAt_7 ?_
  refine z_imul C d_X12_manAt_8 ?_
  obtain rfl := o_some h
  exact z_iret C hlk hr d_X12_manAt_9
theorem c_X12_manAt (l : Launch) (G : GG) {x0 : Int32} {x1 : Int32} {M : Mm} {r : Int32} (h : f_X12_manAt x0 x1 = some r) : CT l 1 G y_X12_manAt prog_14_method_30_code 2 (some .int) 0 0 [.int x0, .int x1] M (some (.int r)) M :=
  CT.of (by decide +kernel) (Nat.le_of_ble_eq_true rfl) rfl (fun p e s m args below meth c C hlk hr => k_X12_manAt_0 C hlk hr h)
-- SnowSentriesModel.isThere(III)Z
set_option maxRecDepth 4000 in
theorem k_X12_isThere_21 {p : Program} {l : Launch} {e : Env} {s : State} {m : MethodId} {args : Array Value} {below : List Frame} {meth : Method} {c : Code} {G : GG} {M : Mm} {s_0 : Int32} {r : Int32} (C : CX p s m args c prog_14_method_31_code 4 "SnowSentriesModel" 1 G) (hlk : meth.locks = false) (hr : meth.sig.returnType = (some .boolean)) : f_X12_isThere_21 M s_0 = some r → Z p l e { frames := 1, cells := 0, slots := 0, locals := 21 } s m args below meth c 1 G 4 (MQ below (QC 1 G (some (.int r)) M) args s 0 0 (AU 1 G)) 21 [] [.int s_0] M := by
  intro h
  unfold f_X12_isThere_21 at h
  obtain ⟨q1, h⟩ := o_ck h
  obtain rfl := o_some h
  exact z_zret C hlk hr (isB_nar q1) d_X12_isThere_21
set_option maxRecDepth 4000 in
theorem k_X12_isThere_0 {p : Program} {l : Launch} {e : Env} {s : State} {m : MethodId} {args : Array Value} {below : List Frame} {meth : Method} {c : Code} {G : GG} {M : Mm} {x1 : Int32} {x2 : Int32} {x3 : Int32} {r : Int32} (C : CX p s m args c prog_14_method_31_code 4 "SnowSentriesModel" 1 G) (hlk : meth.locks = false) (hr : meth.sig.returnType = (some .boolean)) : f_X12_isThere M x1 x2 x3 = some r → Z p l e { frames := 1, cells := 0, slots := 0, locals := 21 } s m args below meth c 1 G 4 (MQ below (QC 1 G (some (.int r)) M) args s 0 0 (AU 1 G)) 0 [(0, .ref (gB G + 0)), (1, .int x1), (2, .int x2), (3, .int x3)] [] M := by
  intro h
  unfold f_X12_isThere at h
  refine z_aload_n 0 C d_X12_isThere_0 rfl rfl ?_
  refine z_get (k := 0) (v := .ref (gB G + 1)) C (eY_0 _ _) (by decide) rfl inX12 (by decide) wf_X12_7 rfl d_X12_isThere_1 ?_
  refine z_iload_n 1 C d_X12_isThere_4 rfl rfl ?_
  refine z_iload_n 2 C d_X12_isThere_5 rfl rfl ?_
  refine z_iload_n 3 C d_X12_isThere_6 rfl rfl ?_
  obtain ⟨p2, e1, h⟩ := o_bd h
  refine z_S (S := [.int x1, .ref (gB G + 1)]) (As := [.int x2, .int x3]) C (c_X12_manAt l G (M := M) e1) wc_X12_manAt wm_X12_198 ws_X12_manAt wi_X12 hy_X12_manAt ⟨Nat.le_of_ble_eq_true rfl, Nat.le_of_ble_eq_true rfl⟩ rfl rfl (Nat.le_of_ble_eq_true rfl) d_X12_isThere_7 ?_
  refine z_iadd C d_X12_isThere_10 ?_
  obtain ⟨q3, h⟩ := o_ck h
  refine z_ald (eY_1 _ _) C (by decide) q3 d_X12_isThere_11 ?_
  refine z_iconst (v := (1 : Int32)) C d_X12_isThere_12 (by decide) ?_
  refine z_icmp_ne C d_X12_isThere_13 (fun q4 => ?_) (fun q4 => ?_)
  · have h := o_f q4 h
    refine z_iconst (v := (0 : Int32)) C d_X12_isThere_20 (by decide) ?_
    exact z_sub [] rfl (k_X12_isThere_21 C hlk hr h)
  · have h := o_t q4 h
    refine z_iconst (v := (1 : Int32)) C d_X12_isThere_16 (by decide) ?_
    refine z_goto C d_X12_isThere_17 ?_
    exact z_sub [] rfl (k_X12_isThere_21 C hlk hr h)
theorem c_X12_isThere (l : Launch) (G : GG) {M : Mm} {x1 : Int32} {x2 : Int32} {x3 : Int32} {r : Int32} (h : f_X12_isThere M x1 x2 x3 = some r) : CT l 1 G y_X12_isThere prog_14_method_31_code 4 (some .boolean) 1 21 [.ref (gB G + 0), .int x1, .int x2, .int x3] M (some (.int r)) M :=
  CT.of (by decide +kernel) (Nat.le_of_ble_eq_true rfl) rfl (fun p e s m args below meth c C hlk hr => k_X12_isThere_0 C hlk hr h)
-- SnowSentriesModel.counts(III)Z
set_option maxRecDepth 4000 in
theorem k_X12_counts_83 {p : Program} {l : Launch} {e : Env} {s : State} {m : MethodId} {args : Array Value} {below : List Frame} {meth : Method} {c : Code} {G : GG} {M : Mm} {s_0 : Int32} {r : Int32} (C : CX p s m args c prog_14_method_32_code 5 "SnowSentriesModel" 1 G) (hlk : meth.locks = false) (hr : meth.sig.returnType = (some .boolean)) : f_X12_counts_83 M s_0 = some r → Z p l e { frames := 1, cells := 0, slots := 0, locals := 21 } s m args below meth c 1 G 5 (MQ below (QC 1 G (some (.int r)) M) args s 0 0 (AU 1 G)) 83 [] [.int s_0] M := by
  intro h
  unfold f_X12_counts_83 at h
  obtain ⟨q1, h⟩ := o_ck h
  obtain rfl := o_some h
  exact z_zret C hlk hr (isB_nar q1) d_X12_counts_83
set_option maxRecDepth 4000 in
theorem k_X12_counts_78 {p : Program} {l : Launch} {e : Env} {s : State} {m : MethodId} {args : Array Value} {below : List Frame} {meth : Method} {c : Code} {G : GG} {M : Mm} {r : Int32} (C : CX p s m args c prog_14_method_32_code 5 "SnowSentriesModel" 1 G) (hlk : meth.locks = false) (hr : meth.sig.returnType = (some .boolean)) : f_X12_counts_78 M = some r → Z p l e { frames := 1, cells := 0, slots := 0, locals := 21 } s m args below meth c 1 G 5 (MQ below (QC 1 G (some (.int r)) M) args s 0 0 (AU 1 G)) 78 [] [] M := by
  intro h
  unfold f_X12_counts_78 at h
  refine z_iconst (v := (1 : Int32)) C d_X12_counts_78 (by decide) ?_
  refine z_goto C d_X12_counts_79 ?_
  exact z_sub [] rfl (k_X12_counts_83 C hlk hr h)
set_option maxRecDepth 4000 in
theorem k_X12_counts_82 {p : Program} {l : Launch} {e : Env} {s : State} {m : MethodId} {args : Array Value} {below : List Frame} {meth : Method} {c : Code} {G : GG} {M : Mm} {r : Int32} (C : CX p s m args c prog_14_method_32_code 5 "SnowSentriesModel" 1 G) (hlk : meth.locks = false) (hr : meth.sig.returnType = (some .boolean)) : f_X12_counts_82 M = some r → Z p l e { frames := 1, cells := 0, slots := 0, locals := 21 } s m args below meth c 1 G 5 (MQ below (QC 1 G (some (.int r)) M) args s 0 0 (AU 1 G)) 82 [] [] M := by
  intro h
  unfold f_X12_counts_82 at h
  refine z_iconst (v := (0 : Int32)) C d_X12_counts_82 (by decide) ?_
  exact z_sub [] rfl (k_X12_counts_83 C hlk hr h)
set_option maxRecDepth 4000 in
theorem k_X12_counts_0 {p : Program} {l : Launch} {e : Env} {s : State} {m : MethodId} {args : Array Value} {below : List Frame} {meth : Method} {c : Code} {G : GG} {M : Mm} {x1 : Int32} {x2 : Int32} {x3 : Int32} {r : Int32} (C : CX p s m args c prog_14_method_32_code 5 "SnowSentriesModel" 1 G) (hlk : meth.locks = false) (hr : meth.sig.returnType = (some .boolean)) : f_X12_counts M x1 x2 x3 = some r → Z p l e { frames := 1, cells := 0, slots := 0, locals := 21 } s m args below meth c 1 G 5 (MQ below (QC 1 G (some (.int r)) M) args s 0 0 (AU 1 G)) 0 [(0, .ref (gB G + 0)), (1, .int x1), (2, .int x2), (3, .int x3)] [] M := by
  intro h
  unfold f_X12_counts at h
  refine z_iload_n 1 C d_X12_counts_0 rfl rfl ?_
  refine z_iload_n 2 C d_X12_counts_1 rfl rfl ?_
  refine z_iload_n 3 C d_X12_counts_2 rfl rfl ?_
  obtain ⟨p2, e1, h⟩ := o_bd h
  refine z_S (S := [.int x1]) (As := [.int x2, .int x3]) C (c_X12_manAt l G (M := M) e1) wc_X12_manAt wm_X12_198 ws_X12_manAt wi_X12 hy_X12_manAt ⟨Nat.le_of_ble_eq_true rfl, Nat.le_of_ble_eq_true rfl⟩ rfl rfl (Nat.le_of_ble_eq_true rfl) d_X12_counts_3 ?_
  refine z_iadd C d_X12_counts_6 ?_
  obtain ⟨v3, e4, h⟩ := o_nm h
  refine z_nI e4 ?_
  refine z_istore (L' := [(4, .int v3), (0, .ref (gB G + 0)), (1, .int x1), (2, .int x2), (3, .int x3)]) C d_X12_counts_7 (by decide) rfl ?_
  refine z_aload_n 1 C d_X12_counts_9 rfl rfl ?_
  refine z_get (k := 0) (v := .ref (gB G + 1)) C (eY_0 _ _) (by decide) rfl inX12 (by decide) wf_X12_7 rfl d_X12_counts_10 ?_
  refine z_iload 0 C d_X12_counts_13 rfl ?_
  obtain ⟨q5, h⟩ := o_ck h
  refine z_ald (eY_1 _ _) C (by decide) q5 d_X12_counts_15 ?_
  refine z_iconst (v := (1 : Int32)) C d_X12_counts_16 (by decide) ?_
  refine z_icmp_ne C d_X12_counts_17 (fun q6 => ?_) (fun q6 => ?_)
  · have h := o_f q6 h
    exact z_sub [] rfl (k_X12_counts_82 C hlk hr h)
  · have h := o_t q6 h
    refine z_aload_n 1 C d_X12_counts_20 rfl rfl ?_
    refine z_get (k := 0) (v := .ref (gB G + 1)) C (eY_0 _ _) (by decide) rfl inX12 (by decide) wf_X12_7 rfl d_X12_counts_21 ?_
    refine z_iload 0 C d_X12_counts_24 rfl ?_
    refine z_iconst (v := (4 : Int32)) C d_X12_counts_26 (by decide) ?_
    refine z_iadd C d_X12_counts_27 ?_
    obtain ⟨q7, h⟩ := o_ck h
    refine z_ald (eY_1 _ _) C (by decide) q7 d_X12_counts_28 ?_
    refine z_aload_n 1 C d_X12_counts_29 rfl rfl ?_
    refine z_get (k := 3) (v := .ref (gB G + 3)) C (eY_0 _ _) (by decide) rfl inX12 (by decide) wf_X12_20 rfl d_X12_counts_30 ?_
    refine z_iconst (v := (0 : Int32)) C d_X12_counts_33 (by decide) ?_
    refine z_ald (eY_3 _ _) C (by decide) (show inn (0 : Int32) 3 from by decide) d_X12_counts_34 ?_
    refine z_icmp_lt C d_X12_counts_35 (fun q8 => ?_) (fun q8 => ?_)
    · have h := o_t q8 h
      exact z_sub [] rfl (k_X12_counts_82 C hlk hr h)
    · have h := o_f q8 h
      refine z_aload_n 1 C d_X12_counts_38 rfl rfl ?_
      refine z_get (k := 0) (v := .ref (gB G + 1)) C (eY_0 _ _) (by decide) rfl inX12 (by decide) wf_X12_7 rfl d_X12_counts_39 ?_
      refine z_iload 0 C d_X12_counts_42 rfl ?_
      refine z_iconst (v := (5 : Int32)) C d_X12_counts_44 (by decide) ?_
      refine z_iadd C d_X12_counts_45 ?_
      obtain ⟨q9, h⟩ := o_ck h
      refine z_ald (eY_1 _ _) C (by decide) q9 d_X12_counts_46 ?_
      refine z_aload_n 1 C d_X12_counts_47 rfl rfl ?_
      refine z_get (k := 3) (v := .ref (gB G + 3)) C (eY_0 _ _) (by decide) rfl inX12 (by decide) wf_X12_20 rfl d_X12_counts_48 ?_
      refine z_iconst (v := (1 : Int32)) C d_X12_counts_51 (by decide) ?_
      refine z_ald (eY_3 _ _) C (by decide) (show inn (1 : Int32) 3 from by decide) d_X12_counts_52 ?_
      refine z_icmp_lt C d_X12_counts_53 (fun q10 => ?_) (fun q10 => ?_)
      · have h := o_t q10 h
        exact z_sub [] rfl (k_X12_counts_82 C hlk hr h)
      · have h := o_f q10 h
        refine z_aload_n 1 C d_X12_counts_56 rfl rfl ?_
        refine z_get (k := 3) (v := .ref (gB G + 3)) C (eY_0 _ _) (by decide) rfl inX12 (by decide) wf_X12_20 rfl d_X12_counts_57 ?_
        refine z_iconst (v := (2 : Int32)) C d_X12_counts_60 (by decide) ?_
        refine z_ald (eY_3 _ _) C (by decide) (show inn (2 : Int32) 3 from by decide) d_X12_counts_61 ?_
        refine z_if_eq C d_X12_counts_62 (fun q11 => ?_) (fun q11 => ?_)
        · have h := o_t q11 h
          exact z_sub [] rfl (k_X12_counts_78 C hlk hr h)
        · have h := o_f q11 h
          refine z_aload_n 1 C d_X12_counts_65 rfl rfl ?_
          refine z_get (k := 0) (v := .ref (gB G + 1)) C (eY_0 _ _) (by decide) rfl inX12 (by decide) wf_X12_7 rfl d_X12_counts_66 ?_
          refine z_iload 0 C d_X12_counts_69 rfl ?_
          refine z_bipush (v := (6 : Int32)) C d_X12_counts_71 (by decide) ?_
          refine z_iadd C d_X12_counts_73 ?_
          obtain ⟨q12, h⟩ := o_ck h
          refine z_ald (eY_1 _ _) C (by decide) q12 d_X12_counts_74 ?_
          refine z_if_ne C d_X12_counts_75 (fun q13 => ?_) (fun q13 => ?_)
          · have h := o_f q13 h
            exact z_sub [] rfl (k_X12_counts_82 C hlk hr h)
          · have h := o_t q13 h
            exact z_sub [] rfl (k_X12_counts_78 C hlk hr h)
theorem c_X12_counts (l : Launch) (G : GG) {M : Mm} {x1 : Int32} {x2 : Int32} {x3 : Int32} {r : Int32} (h : f_X12_counts M x1 x2 x3 = some r) : CT l 1 G y_X12_counts prog_14_method_32_code 5 (some .boolean) 1 21 [.ref (gB G + 0), .int x1, .int x2, .int x3] M (some (.int r)) M :=
  CT.of (by decide +kernel) (Nat.le_of_ble_eq_true rfl) rfl (fun p e s m args below meth c C hlk hr => k_X12_counts_0 C hlk hr h)
-- SnowSentriesModel.furlong(II)I
set_option maxRecDepth 4000 in
theorem k_X12_furlong_20 {p : Program} {l : Launch} {e : Env} {s : State} {m : MethodId} {args : Array Value} {below : List Frame} {meth : Method} {c : Code} {G : GG} {M : Mm} {r : Int32} (C : CX p s m args c prog_14_method_33_code 4 "SnowSentriesModel" 1 G) (hlk : meth.locks = false) (hr : meth.sig.returnType = (some .int)) : f_X12_furlong_20 M = some r → Z p l e { frames := 2, cells := 0, slots := 0, locals := 46 } s m args below meth c 1 G 4 (MQ below (QC 1 G (some (.int r)) M) args s 0 0 (AU 1 G)) 20 [] [] M := by
  intro h
  unfold f_X12_furlong_20 at h
  refine z_iconst (v := (-1 : Int32)) C d_X12_furlong_20 (by decide) ?_
  obtain rfl := o_some h
  exact z_iret C hlk hr d_X12_furlong_21
set_option maxRecDepth 4000 in
theorem k_X12_furlong_111 {p : Program} {l : Launch} {e : Env} {s : State} {m : MethodId} {args : Array Value} {below : List Frame} {meth : Method} {c : Code} {G : GG} {M : Mm} {s_0 : Int32} {r : Int32} (C : CX p s m args c prog_14_method_33_code 4 "SnowSentriesModel" 1 G) (hlk : meth.locks = false) (hr : meth.sig.returnType = (some .int)) : f_X12_furlong_111 M s_0 = some r → Z p l e { frames := 2, cells := 0, slots := 0, locals := 46 } s m args below meth c 1 G 4 (MQ below (QC 1 G (some (.int r)) M) args s 0 0 (AU 1 G)) 111 [] [.int s_0] M := by
  intro h
  unfold f_X12_furlong_111 at h
  obtain rfl := o_some h
  exact z_iret C hlk hr d_X12_furlong_111
set_option maxRecDepth 4000 in
theorem k_X12_furlong_52 {p : Program} {l : Launch} {e : Env} {s : State} {m : MethodId} {args : Array Value} {below : List Frame} {meth : Method} {c : Code} {G : GG} {M : Mm} {x1 : Int32} {x2 : Int32} {s_0 : Int32} {s_1 : Int32} {r : Int32} (C : CX p s m args c prog_14_method_33_code 4 "SnowSentriesModel" 1 G) (hlk : meth.locks = false) (hr : meth.sig.returnType = (some .int)) : f_X12_furlong_52 M x1 x2 s_0 s_1 = some r → Z p l e { frames := 2, cells := 0, slots := 0, locals := 46 } s m args below meth c 1 G 4 (MQ below (QC 1 G (some (.int r)) M) args s 0 0 (AU 1 G)) 52 [(0, .ref (gB G + 0)), (1, .int x1), (2, .int x2)] [.int s_1, .int s_0] M := by
  intro h
  unfold f_X12_furlong_52 at h
  refine z_iadd C d_X12_furlong_52 ?_
  obtain ⟨v1, e2, h⟩ := o_nm h
  refine z_nI e2 ?_
  refine z_istore_n (L' := [(3, .int v1), (0, .ref (gB G + 0)), (1, .int x1), (2, .int x2)]) C d_X12_furlong_53 rfl (by decide) rfl ?_
  refine z_iload_n 3 C d_X12_furlong_54 rfl rfl ?_
  refine z_if_ne C d_X12_furlong_55 (fun q3 => ?_) (fun q3 => ?_)
  · have h := o_f q3 h
    refine z_iload_n 3 C d_X12_furlong_71 rfl rfl ?_
    refine z_iconst (v := (1 : Int32)) C d_X12_furlong_72 (by decide) ?_
    refine z_icmp_ne C d_X12_furlong_73 (fun q4 => ?_) (fun q4 => ?_)
    · have h := o_f q4 h
      refine z_iload_n 3 C d_X12_furlong_89 rfl rfl ?_
      refine z_iconst (v := (2 : Int32)) C d_X12_furlong_90 (by decide) ?_
      refine z_icmp_ne C d_X12_furlong_91 (fun q5 => ?_) (fun q5 => ?_)
      · have h := o_f q5 h
        refine z_iload_n 0 C d_X12_furlong_110 rfl rfl ?_
        exact z_sub [] rfl (k_X12_furlong_111 C hlk hr h)
      · have h := o_t q5 h
        refine z_bipush (v := (100 : Int32)) C d_X12_furlong_94 (by decide) ?_
        refine z_aload_n 1 C d_X12_furlong_96 rfl rfl ?_
        refine z_get (k := 0) (v := .ref (gB G + 1)) C (eY_0 _ _) (by decide) rfl inX12 (by decide) wf_X12_7 rfl d_X12_furlong_97 ?_
        refine z_sipush (v := (160 : Int32)) C d_X12_furlong_100 (by decide) ?_
        refine z_iload_n 2 C d_X12_furlong_103 rfl rfl ?_
        refine z_iadd C d_X12_furlong_104 ?_
        obtain ⟨q6, h⟩ := o_ck h
        refine z_ald (eY_1 _ _) C (by decide) q6 d_X12_furlong_105 ?_
        refine z_iadd C d_X12_furlong_106 ?_
        refine z_goto C d_X12_furlong_107 ?_
        exact z_sub [] rfl (k_X12_furlong_111 C hlk hr h)
    · have h := o_t q4 h
      refine z_aload_n 1 C d_X12_furlong_76 rfl rfl ?_
      refine z_get (k := 0) (v := .ref (gB G + 1)) C (eY_0 _ _) (by decide) rfl inX12 (by decide) wf_X12_7 rfl d_X12_furlong_77 ?_
      refine z_sipush (v := (150 : Int32)) C d_X12_furlong_80 (by decide) ?_
      refine z_iload_n 2 C d_X12_furlong_83 rfl rfl ?_
      refine z_iadd C d_X12_furlong_84 ?_
      obtain ⟨q7, h⟩ := o_ck h
      refine z_ald (eY_1 _ _) C (by decide) q7 d_X12_furlong_85 ?_
      refine z_goto C d_X12_furlong_86 ?_
      exact z_sub [] rfl (k_X12_furlong_111 C hlk hr h)
  · have h := o_t q3 h
    refine z_aload_n 1 C d_X12_furlong_58 rfl rfl ?_
    refine z_get (k := 0) (v := .ref (gB G + 1)) C (eY_0 _ _) (by decide) rfl inX12 (by decide) wf_X12_7 rfl d_X12_furlong_59 ?_
    refine z_sipush (v := (140 : Int32)) C d_X12_furlong_62 (by decide) ?_
    refine z_iload_n 2 C d_X12_furlong_65 rfl rfl ?_
    refine z_iadd C d_X12_furlong_66 ?_
    obtain ⟨q8, h⟩ := o_ck h
    refine z_ald (eY_1 _ _) C (by decide) q8 d_X12_furlong_67 ?_
    refine z_goto C d_X12_furlong_68 ?_
    exact z_sub [] rfl (k_X12_furlong_111 C hlk hr h)
set_option maxRecDepth 4000 in
theorem k_X12_furlong_37 {p : Program} {l : Launch} {e : Env} {s : State} {m : MethodId} {args : Array Value} {below : List Frame} {meth : Method} {c : Code} {G : GG} {M : Mm} {x1 : Int32} {x2 : Int32} {s_0 : Int32} {r : Int32} (C : CX p s m args c prog_14_method_33_code 4 "SnowSentriesModel" 1 G) (hlk : meth.locks = false) (hr : meth.sig.returnType = (some .int)) : f_X12_furlong_37 M x1 x2 s_0 = some r → Z p l e { frames := 2, cells := 0, slots := 0, locals := 46 } s m args below meth c 1 G 4 (MQ below (QC 1 G (some (.int r)) M) args s 0 0 (AU 1 G)) 37 [(0, .ref (gB G + 0)), (1, .int x1), (2, .int x2)] [.int s_0] M := by
  intro h
  unfold f_X12_furlong_37 at h
  refine z_aload_n 0 C d_X12_furlong_37 rfl rfl ?_
  refine z_iconst (v := (0 : Int32)) C d_X12_furlong_38 (by decide) ?_
  refine z_iconst (v := (1 : Int32)) C d_X12_furlong_39 (by decide) ?_
  refine z_iload_n 1 C d_X12_furlong_40 rfl rfl ?_
  obtain ⟨p2, e1, h⟩ := o_bd h
  refine z_V (S := [.int s_0]) (As := [.int (0 : Int32), .int (1 : Int32), .int x1]) C (c_X12_counts l G e1) (eY_0 _ _) (by decide) rfl wc_X12_counts wm_X12_206 ws_X12_counts wl_X12_counts wi_X12 hy_X12_counts ⟨Nat.le_of_ble_eq_true rfl, Nat.le_of_ble_eq_true rfl⟩ rfl rfl (Nat.le_of_ble_eq_true rfl) d_X12_furlong_41 ?_
  refine z_if_eq C d_X12_furlong_44 (fun q3 => ?_) (fun q3 => ?_)
  · have h := o_t q3 h
    refine z_iconst (v := (0 : Int32)) C d_X12_furlong_51 (by decide) ?_
    exact z_sub [0, 1, 2] rfl (k_X12_furlong_52 C hlk hr h)
  · have h := o_f q3 h
    refine z_iconst (v := (2 : Int32)) C d_X12_furlong_47 (by decide) ?_
    refine z_goto C d_X12_furlong_48 ?_
    exact z_sub [0, 1, 2] rfl (k_X12_furlong_52 C hlk hr h)
set_option maxRecDepth 4000 in
theorem k_X12_furlong_0 {p : Program} {l : Launch} {e : Env} {s : State} {m : MethodId} {args : Array Value} {below : List Frame} {meth : Method} {c : Code} {G : GG} {M : Mm} {x1 : Int32} {x2 : Int32} {r : Int32} (C : CX p s m args c prog_14_method_33_code 4 "SnowSentriesModel" 1 G) (hlk : meth.locks = false) (hr : meth.sig.returnType = (some .int)) : f_X12_furlong M x1 x2 = some r → Z p l e { frames := 2, cells := 0, slots := 0, locals := 46 } s m args below meth c 1 G 4 (MQ below (QC 1 G (some (.int r)) M) args s 0 0 (AU 1 G)) 0 [(0, .ref (gB G + 0)), (1, .int x1), (2, .int x2)] [] M := by
  intro h
  unfold f_X12_furlong at h
  refine z_aload_n 0 C d_X12_furlong_0 rfl rfl ?_
  refine z_iload_n 1 C d_X12_furlong_1 rfl rfl ?_
  obtain ⟨p2, e1, h⟩ := o_bd h
  refine z_V (S := []) (As := [.int x1]) C (c_X12_isFurlong l G e1) (eY_0 _ _) (by decide) rfl wc_X12_isFurlong wm_X12_201 ws_X12_isFurlong wl_X12_isFurlong wi_X12 hy_X12_isFurlong ⟨Nat.le_of_ble_eq_true rfl, Nat.le_of_ble_eq_true rfl⟩ rfl rfl (Nat.le_of_ble_eq_true rfl) d_X12_furlong_2 ?_
  refine z_if_eq C d_X12_furlong_5 (fun q3 => ?_) (fun q3 => ?_)
  · have h := o_t q3 h
    exact z_sub [] rfl (k_X12_furlong_20 C hlk hr h)
  · have h := o_f q3 h
    refine z_iload_n 2 C d_X12_furlong_8 rfl rfl ?_
    refine z_i2l C d_X12_furlong_9 ?_
    refine z_lconst (v := (0 : Int64)) C d_X12_furlong_10 (by decide) ?_
    refine z_ldc2 (v := (3 : Int64)) C wk_X12_204 d_X12_furlong_11 ?_
    obtain ⟨p5, e4, h⟩ := o_bd h
    refine z_S (S := []) (As := [.long x2.toInt64, .long (0 : Int64), .long (3 : Int64)]) C (c_X12_in l G (M := M) e4) wc_X12_in wm_X12_75 ws_X12_in wi_X12 hy_X12_in ⟨Nat.le_of_ble_eq_true rfl, Nat.le_of_ble_eq_true rfl⟩ rfl rfl (Nat.le_of_ble_eq_true rfl) d_X12_furlong_14 ?_
    refine z_if_ne C d_X12_furlong_17 (fun q6 => ?_) (fun q6 => ?_)
    · have h := o_f q6 h
      refine z_aload_n 0 C d_X12_furlong_22 rfl rfl ?_
      refine z_iconst (v := (0 : Int32)) C d_X12_furlong_23 (by decide) ?_
      refine z_iconst (v := (0 : Int32)) C d_X12_furlong_24 (by decide) ?_
      refine z_iload_n 1 C d_X12_furlong_25 rfl rfl ?_
      obtain ⟨p8, e7, h⟩ := o_bd h
      refine z_V (S := []) (As := [.int (0 : Int32), .int (0 : Int32), .int x1]) C (c_X12_counts l G e7) (eY_0 _ _) (by decide) rfl wc_X12_counts wm_X12_206 ws_X12_counts wl_X12_counts wi_X12 hy_X12_counts ⟨Nat.le_of_ble_eq_true rfl, Nat.le_of_ble_eq_true rfl⟩ rfl rfl (Nat.le_of_ble_eq_true rfl) d_X12_furlong_26 ?_
      refine z_if_eq C d_X12_furlong_29 (fun q9 => ?_) (fun q9 => ?_)
      · have h := o_t q9 h
        refine z_iconst (v := (0 : Int32)) C d_X12_furlong_36 (by decide) ?_
        exact z_sub [0, 1, 2] rfl (k_X12_furlong_37 C hlk hr h)
      · have h := o_f q9 h
        refine z_iconst (v := (1 : Int32)) C d_X12_furlong_32 (by decide) ?_
        refine z_goto C d_X12_furlong_33 ?_
        exact z_sub [0, 1, 2] rfl (k_X12_furlong_37 C hlk hr h)
    · have h := o_t q6 h
      exact z_sub [] rfl (k_X12_furlong_20 C hlk hr h)
theorem c_X12_furlong (l : Launch) (G : GG) {M : Mm} {x1 : Int32} {x2 : Int32} {r : Int32} (h : f_X12_furlong M x1 x2 = some r) : CT l 1 G y_X12_furlong prog_14_method_33_code 4 (some .int) 2 46 [.ref (gB G + 0), .int x1, .int x2] M (some (.int r)) M :=
  CT.of (by decide +kernel) (Nat.le_of_ble_eq_true rfl) rfl (fun p e s m args below meth c C hlk hr => k_X12_furlong_0 C hlk hr h)
-- SnowSentriesModel.man(III)I
set_option maxRecDepth 4000 in
theorem k_X12_man_27 {p : Program} {l : Launch} {e : Env} {s : State} {m : MethodId} {args : Array Value} {below : List Frame} {meth : Method} {c : Code} {G : GG} {M : Mm} {r : Int32} (C : CX p s m args c prog_14_method_34_code 5 "SnowSentriesModel" 1 G) (hlk : meth.locks = false) (hr : meth.sig.returnType = (some .int)) : f_X12_man_27 M = some r → Z p l e { frames := 2, cells := 0, slots := 0, locals := 46 } s m args below meth c 1 G 5 (MQ below (QC 1 G (some (.int r)) M) args s 0 0 (AU 1 G)) 27 [] [] M := by
  intro h
  unfold f_X12_man_27 at h
  refine z_iconst (v := (-1 : Int32)) C d_X12_man_27 (by decide) ?_
  obtain rfl := o_some h
  exact z_iret C hlk hr d_X12_man_28
set_option maxRecDepth 4000 in
theorem k_X12_man_72 {p : Program} {l : Launch} {e : Env} {s : State} {m : MethodId} {args : Array Value} {below : List Frame} {meth : Method} {c : Code} {G : GG} {M : Mm} {s_0 : Int32} {r : Int32} (C : CX p s m args c prog_14_method_34_code 5 "SnowSentriesModel" 1 G) (hlk : meth.locks = false) (hr : meth.sig.returnType = (some .int)) : f_X12_man_72 M s_0 = some r → Z p l e { frames := 2, cells := 0, slots := 0, locals := 46 } s m args below meth c 1 G 5 (MQ below (QC 1 G (some (.int r)) M) args s 0 0 (AU 1 G)) 72 [] [.int s_0] M := by
  intro h
  unfold f_X12_man_72 at h
  obtain rfl := o_some h
  exact z_iret C hlk hr d_X12_man_72
set_option maxRecDepth 4000 in
theorem k_X12_man_0 {p : Program} {l : Launch} {e : Env} {s : State} {m : MethodId} {args : Array Value} {below : List Frame} {meth : Method} {c : Code} {G : GG} {M : Mm} {x1 : Int32} {x2 : Int32} {x3 : Int32} {r : Int32} (C : CX p s m args c prog_14_method_34_code 5 "SnowSentriesModel" 1 G) (hlk : meth.locks = false) (hr : meth.sig.returnType = (some .int)) : f_X12_man M x1 x2 x3 = some r → Z p l e { frames := 2, cells := 0, slots := 0, locals := 46 } s m args below meth c 1 G 5 (MQ below (QC 1 G (some (.int r)) M) args s 0 0 (AU 1 G)) 0 [(0, .ref (gB G + 0)), (1, .int x1), (2, .int x2), (3, .int x3)] [] M := by
  intro h
  unfold f_X12_man at h
  refine z_iload_n 1 C d_X12_man_0 rfl rfl ?_
  obtain ⟨p2, e1, h⟩ := o_bd h
  refine z_S (S := []) (As := [.int x1]) C (c_X12_isSide l G (M := M) e1) wc_X12_isSide wm_X12_210 ws_X12_isSide wi_X12 hy_X12_isSide ⟨Nat.le_of_ble_eq_true rfl, Nat.le_of_ble_eq_true rfl⟩ rfl rfl (Nat.le_of_ble_eq_true rfl) d_X12_man_1 ?_
  refine z_if_eq C d_X12_man_4 (fun q3 => ?_) (fun q3 => ?_)
  · have h := o_t q3 h
    exact z_sub [] rfl (k_X12_man_27 C hlk hr h)
  · have h := o_f q3 h
    refine z_aload_n 0 C d_X12_man_7 rfl rfl ?_
    refine z_iload_n 2 C d_X12_man_8 rfl rfl ?_
    obtain ⟨p5, e4, h⟩ := o_bd h
    refine z_V (S := []) (As := [.int x2]) C (c_X12_isFurlong l G e4) (eY_0 _ _) (by decide) rfl wc_X12_isFurlong wm_X12_201 ws_X12_isFurlong wl_X12_isFurlong wi_X12 hy_X12_isFurlong ⟨Nat.le_of_ble_eq_true rfl, Nat.le_of_ble_eq_true rfl⟩ rfl rfl (Nat.le_of_ble_eq_true rfl) d_X12_man_9 ?_
    refine z_if_eq C d_X12_man_12 (fun q6 => ?_) (fun q6 => ?_)
    · have h := o_t q6 h
      exact z_sub [] rfl (k_X12_man_27 C hlk hr h)
    · have h := o_f q6 h
      refine z_iload_n 3 C d_X12_man_15 rfl rfl ?_
      refine z_i2l C d_X12_man_16 ?_
      refine z_lconst (v := (0 : Int64)) C d_X12_man_17 (by decide) ?_
      refine z_ldc2 (v := (5 : Int64)) C wk_X12_213 d_X12_man_18 ?_
      obtain ⟨p8, e7, h⟩ := o_bd h
      refine z_S (S := []) (As := [.long x3.toInt64, .long (0 : Int64), .long (5 : Int64)]) C (c_X12_in l G (M := M) e7) wc_X12_in wm_X12_75 ws_X12_in wi_X12 hy_X12_in ⟨Nat.le_of_ble_eq_true rfl, Nat.le_of_ble_eq_true rfl⟩ rfl rfl (Nat.le_of_ble_eq_true rfl) d_X12_man_21 ?_
      refine z_if_ne C d_X12_man_24 (fun q9 => ?_) (fun q9 => ?_)
      · have h := o_f q9 h
        refine z_aload_n 0 C d_X12_man_29 rfl rfl ?_
        refine z_iconst (v := (0 : Int32)) C d_X12_man_30 (by decide) ?_
        refine z_iload_n 1 C d_X12_man_31 rfl rfl ?_
        refine z_iload_n 2 C d_X12_man_32 rfl rfl ?_
        obtain ⟨p11, e10, h⟩ := o_bd h
        refine z_V (S := []) (As := [.int (0 : Int32), .int x1, .int x2]) C (c_X12_isThere l G e10) (eY_0 _ _) (by decide) rfl wc_X12_isThere wm_X12_215 ws_X12_isThere wl_X12_isThere wi_X12 hy_X12_isThere ⟨Nat.le_of_ble_eq_true rfl, Nat.le_of_ble_eq_true rfl⟩ rfl rfl (Nat.le_of_ble_eq_true rfl) d_X12_man_33 ?_
        refine z_if_ne C d_X12_man_36 (fun q12 => ?_) (fun q12 => ?_)
        · have h := o_f q12 h
          refine z_aload_n 0 C d_X12_man_42 rfl rfl ?_
          refine z_get (k := 0) (v := .ref (gB G + 1)) C (eY_0 _ _) (by decide) rfl inX12 (by decide) wf_X12_7 rfl d_X12_man_43 ?_
          refine z_iload_n 1 C d_X12_man_46 rfl rfl ?_
          refine z_iload_n 2 C d_X12_man_47 rfl rfl ?_
          obtain ⟨p14, e13, h⟩ := o_bd h
          refine z_S (S := [.ref (gB G + 1)]) (As := [.int x1, .int x2]) C (c_X12_manAt l G (M := M) e13) wc_X12_manAt wm_X12_198 ws_X12_manAt wi_X12 hy_X12_manAt ⟨Nat.le_of_ble_eq_true rfl, Nat.le_of_ble_eq_true rfl⟩ rfl rfl (Nat.le_of_ble_eq_true rfl) d_X12_man_48 ?_
          refine z_iconst (v := (1 : Int32)) C d_X12_man_51 (by decide) ?_
          refine z_iadd C d_X12_man_52 ?_
          refine z_iload_n 3 C d_X12_man_53 rfl rfl ?_
          refine z_iadd C d_X12_man_54 ?_
          obtain ⟨q15, h⟩ := o_ck h
          refine z_ald (eY_1 _ _) C (by decide) q15 d_X12_man_55 ?_
          obtain ⟨v16, e17, h⟩ := o_nm h
          refine z_nI e17 ?_
          refine z_istore (L' := [(4, .int v16), (0, .ref (gB G + 0)), (1, .int x1), (2, .int x2), (3, .int x3)]) C d_X12_man_56 (by decide) rfl ?_
          refine z_iload_n 4 C d_X12_man_58 rfl rfl ?_
          refine z_iconst (v := (5 : Int32)) C d_X12_man_59 (by decide) ?_
          refine z_icmp_ne C d_X12_man_60 (fun q18 => ?_) (fun q18 => ?_)
          · have h := o_f q18 h
            refine z_iload 0 C d_X12_man_70 rfl ?_
            exact z_sub [] rfl (k_X12_man_72 C hlk hr h)
          · have h := o_t q18 h
            refine z_iconst (v := (1 : Int32)) C d_X12_man_63 (by decide) ?_
            refine z_iload 0 C d_X12_man_64 rfl ?_
            refine z_isub C d_X12_man_66 ?_
            refine z_goto C d_X12_man_67 ?_
            exact z_sub [] rfl (k_X12_man_72 C hlk hr h)
        · have h := o_t q12 h
          refine z_bipush (v := (-4 : Int32)) C d_X12_man_39 (by decide) ?_
          obtain rfl := o_some h
          exact z_iret C hlk hr d_X12_man_41
      · have h := o_t q9 h
        exact z_sub [] rfl (k_X12_man_27 C hlk hr h)
theorem c_X12_man (l : Launch) (G : GG) {M : Mm} {x1 : Int32} {x2 : Int32} {x3 : Int32} {r : Int32} (h : f_X12_man M x1 x2 x3 = some r) : CT l 1 G y_X12_man prog_14_method_34_code 5 (some .int) 2 46 [.ref (gB G + 0), .int x1, .int x2, .int x3] M (some (.int r)) M :=
  CT.of (by decide +kernel) (Nat.le_of_ble_eq_true rfl) rfl (fun p e s m args below meth c C hlk hr => k_X12_man_0 C hlk hr h)
-- SnowSentriesModel.brazier(II)I
set_option maxRecDepth 4000 in
theorem k_X12_brazier_50 {p : Program} {l : Launch} {e : Env} {s : State} {m : MethodId} {args : Array Value} {below : List Frame} {meth : Method} {c : Code} {G : GG} {M : Mm} {s_0 : Int32} {r : Int32} (C : CX p s m args c prog_14_method_35_code 3 "SnowSentriesModel" 1 G) (hlk : meth.locks = false) (hr : meth.sig.returnType = (some .int)) : f_X12_brazier_50 M s_0 = some r → Z p l e { frames := 1, cells := 0, slots := 0, locals := 25 } s m args below meth c 1 G 3 (MQ below (QC 1 G (some (.int r)) M) args s 0 0 (AU 1 G)) 50 [] [.int s_0] M := by
  intro h
  unfold f_X12_brazier_50 at h
  obtain rfl := o_some h
  exact z_iret C hlk hr d_X12_brazier_50
set_option maxRecDepth 4000 in
theorem k_X12_brazier_49 {p : Program} {l : Launch} {e : Env} {s : State} {m : MethodId} {args : Array Value} {below : List Frame} {meth : Method} {c : Code} {G : GG} {M : Mm} {r : Int32} (C : CX p s m args c prog_14_method_35_code 3 "SnowSentriesModel" 1 G) (hlk : meth.locks = false) (hr : meth.sig.returnType = (some .int)) : f_X12_brazier_49 M = some r → Z p l e { frames := 1, cells := 0, slots := 0, locals := 25 } s m args below meth c 1 G 3 (MQ below (QC 1 G (some (.int r)) M) args s 0 0 (AU 1 G)) 49 [] [] M := by
  intro h
  unfold f_X12_brazier_49 at h
  refine z_iconst (v := (-1 : Int32)) C d_X12_brazier_49 (by decide) ?_
  exact z_sub [] rfl (k_X12_brazier_50 C hlk hr h)
set_option maxRecDepth 4000 in
theorem k_X12_brazier_0 {p : Program} {l : Launch} {e : Env} {s : State} {m : MethodId} {args : Array Value} {below : List Frame} {meth : Method} {c : Code} {G : GG} {M : Mm} {x1 : Int32} {x2 : Int32} {r : Int32} (C : CX p s m args c prog_14_method_35_code 3 "SnowSentriesModel" 1 G) (hlk : meth.locks = false) (hr : meth.sig.returnType = (some .int)) : f_X12_brazier M x1 x2 = some r → Z p l e { frames := 1, cells := 0, slots := 0, locals := 25 } s m args below meth c 1 G 3 (MQ below (QC 1 G (some (.int r)) M) args s 0 0 (AU 1 G)) 0 [(0, .ref (gB G + 0)), (1, .int x1), (2, .int x2)] [] M := by
  intro h
  unfold f_X12_brazier at h
  refine z_iload_n 1 C d_X12_brazier_0 rfl rfl ?_
  refine z_i2l C d_X12_brazier_1 ?_
  refine z_lconst (v := (0 : Int64)) C d_X12_brazier_2 (by decide) ?_
  refine z_aload_n 0 C d_X12_brazier_3 rfl rfl ?_
  refine z_get (k := 0) (v := .ref (gB G + 1)) C (eY_0 _ _) (by decide) rfl inX12 (by decide) wf_X12_7 rfl d_X12_brazier_4 ?_
  refine z_sipush (v := (207 : Int32)) C d_X12_brazier_7 (by decide) ?_
  refine z_ald (eY_1 _ _) C (by decide) (show inn (207 : Int32) 840 from by decide) d_X12_brazier_10 ?_
  refine z_iconst (v := (1 : Int32)) C d_X12_brazier_11 (by decide) ?_
  refine z_isub C d_X12_brazier_12 ?_
  refine z_i2l C d_X12_brazier_13 ?_
  obtain ⟨p2, e1, h⟩ := o_bd h
  refine z_S (S := []) (As := [.long x1.toInt64, .long (0 : Int64), .long (((M.1 1 (207 : Int32).toNatClampNeg) - (1 : Int32)).toInt64)]) C (c_X12_in l G (M := M) e1) wc_X12_in wm_X12_75 ws_X12_in wi_X12 hy_X12_in ⟨Nat.le_of_ble_eq_true rfl, Nat.le_of_ble_eq_true rfl⟩ rfl rfl (Nat.le_of_ble_eq_true rfl) d_X12_brazier_14 ?_
  refine z_if_eq C d_X12_brazier_17 (fun q3 => ?_) (fun q3 => ?_)
  · have h := o_t q3 h
    exact z_sub [] rfl (k_X12_brazier_49 C hlk hr h)
  · have h := o_f q3 h
    refine z_iload_n 2 C d_X12_brazier_20 rfl rfl ?_
    refine z_i2l C d_X12_brazier_21 ?_
    refine z_lconst (v := (0 : Int64)) C d_X12_brazier_22 (by decide) ?_
    refine z_ldc2 (v := (3 : Int64)) C wk_X12_204 d_X12_brazier_23 ?_
    obtain ⟨p5, e4, h⟩ := o_bd h
    refine z_S (S := []) (As := [.long x2.toInt64, .long (0 : Int64), .long (3 : Int64)]) C (c_X12_in l G (M := M) e4) wc_X12_in wm_X12_75 ws_X12_in wi_X12 hy_X12_in ⟨Nat.le_of_ble_eq_true rfl, Nat.le_of_ble_eq_true rfl⟩ rfl rfl (Nat.le_of_ble_eq_true rfl) d_X12_brazier_26 ?_
    refine z_if_eq C d_X12_brazier_29 (fun q6 => ?_) (fun q6 => ?_)
    · have h := o_t q6 h
      exact z_sub [] rfl (k_X12_brazier_49 C hlk hr h)
    · have h := o_f q6 h
      refine z_aload_n 0 C d_X12_brazier_32 rfl rfl ?_
      refine z_get (k := 0) (v := .ref (gB G + 1)) C (eY_0 _ _) (by decide) rfl inX12 (by decide) wf_X12_7 rfl d_X12_brazier_33 ?_
      refine z_sipush (v := (183 : Int32)) C d_X12_brazier_36 (by decide) ?_
      refine z_iconst (v := (4 : Int32)) C d_X12_brazier_39 (by decide) ?_
      refine z_iload_n 1 C d_X12_brazier_40 rfl rfl ?_
      refine z_imul C d_X12_brazier_41 ?_
      refine z_iadd C d_X12_brazier_42 ?_
      refine z_iload_n 2 C d_X12_brazier_43 rfl rfl ?_
      refine z_iadd C d_X12_brazier_44 ?_
      obtain ⟨q7, h⟩ := o_ck h
      refine z_ald (eY_1 _ _) C (by decide) q7 d_X12_brazier_45 ?_
      refine z_goto C d_X12_brazier_46 ?_
      exact z_sub [] rfl (k_X12_brazier_50 C hlk hr h)
theorem c_X12_brazier (l : Launch) (G : GG) {M : Mm} {x1 : Int32} {x2 : Int32} {r : Int32} (h : f_X12_brazier M x1 x2 = some r) : CT l 1 G y_X12_brazier prog_14_method_35_code 3 (some .int) 1 25 [.ref (gB G + 0), .int x1, .int x2] M (some (.int r)) M :=
  CT.of (by decide +kernel) (Nat.le_of_ble_eq_true rfl) rfl (fun p e s m args below meth c C hlk hr => k_X12_brazier_0 C hlk hr h)
-- SnowSentriesModel.houseOf(II)I
set_option maxRecDepth 4000 in
theorem k_X12_houseOf_54 {p : Program} {l : Launch} {e : Env} {s : State} {m : MethodId} {args : Array Value} {below : List Frame} {meth : Method} {c : Code} {G : GG} {M : Mm} {s_0 : Int32} {r : Int32} (C : CX p s m args c prog_14_method_36_code 5 "SnowSentriesModel" 1 G) (hlk : meth.locks = false) (hr : meth.sig.returnType = (some .int)) : f_X12_houseOf_54 M s_0 = some r → Z p l e { frames := 0, cells := 0, slots := 0, locals := 0 } s m args below meth c 1 G 5 (MQ below (QC 1 G (some (.int r)) M) args s 0 0 (AU 1 G)) 54 [] [.int s_0] M := by
  intro h
  unfold f_X12_houseOf_54 at h
  obtain rfl := o_some h
  exact z_iret C hlk hr d_X12_houseOf_54
set_option maxRecDepth 4000 in
theorem k_X12_houseOf_0 {p : Program} {l : Launch} {e : Env} {s : State} {m : MethodId} {args : Array Value} {below : List Frame} {meth : Method} {c : Code} {G : GG} {M : Mm} {x1 : Int32} {x2 : Int32} {r : Int32} (C : CX p s m args c prog_14_method_36_code 5 "SnowSentriesModel" 1 G) (hlk : meth.locks = false) (hr : meth.sig.returnType = (some .int)) : f_X12_houseOf M x1 x2 = some r → Z p l e { frames := 0, cells := 0, slots := 0, locals := 0 } s m args below meth c 1 G 5 (MQ below (QC 1 G (some (.int r)) M) args s 0 0 (AU 1 G)) 0 [(0, .ref (gB G + 0)), (1, .int x1), (2, .int x2)] [] M := by
  intro h
  unfold f_X12_houseOf at h
  refine z_aload_n 0 C d_X12_houseOf_0 rfl rfl ?_
  refine z_get (k := 0) (v := .ref (gB G + 1)) C (eY_0 _ _) (by decide) rfl inX12 (by decide) wf_X12_7 rfl d_X12_houseOf_1 ?_
  refine z_iload_n 1 C d_X12_houseOf_4 rfl rfl ?_
  refine z_sipush (v := (160 : Int32)) C d_X12_houseOf_5 (by decide) ?_
  refine z_iadd C d_X12_houseOf_8 ?_
  refine z_aload_n 0 C d_X12_houseOf_9 rfl rfl ?_
  refine z_get (k := 4) (v := .ref (gB G + 4)) C (eY_0 _ _) (by decide) rfl inX12 (by decide) wf_X12_23 rfl d_X12_houseOf_10 ?_
  refine z_iconst (v := (2 : Int32)) C d_X12_houseOf_13 (by decide) ?_
  refine z_iload_n 2 C d_X12_houseOf_14 rfl rfl ?_
  refine z_imul C d_X12_houseOf_15 ?_
  obtain ⟨q1, h⟩ := o_ck h
  refine z_ald (eY_4 _ _) C (by decide) q1 d_X12_houseOf_16 ?_
  refine z_iadd C d_X12_houseOf_17 ?_
  obtain ⟨q2, h⟩ := o_ck h
  refine z_ald (eY_1 _ _) C (by decide) q2 d_X12_houseOf_18 ?_
  obtain ⟨v3, e4, h⟩ := o_nm h
  refine z_nI e4 ?_
  refine z_istore_n (L' := [(3, .int v3), (0, .ref (gB G + 0)), (1, .int x1), (2, .int x2)]) C d_X12_houseOf_19 rfl (by decide) rfl ?_
  refine z_aload_n 1 C d_X12_houseOf_20 rfl rfl ?_
  refine z_get (k := 4) (v := .ref (gB G + 4)) C (eY_0 _ _) (by decide) rfl inX12 (by decide) wf_X12_23 rfl d_X12_houseOf_21 ?_
  refine z_iconst (v := (2 : Int32)) C d_X12_houseOf_24 (by decide) ?_
  refine z_iload_n 3 C d_X12_houseOf_25 rfl rfl ?_
  refine z_imul C d_X12_houseOf_26 ?_
  refine z_iconst (v := (1 : Int32)) C d_X12_houseOf_27 (by decide) ?_
  refine z_iadd C d_X12_houseOf_28 ?_
  obtain ⟨q5, h⟩ := o_ck h
  refine z_ald (eY_4 _ _) C (by decide) q5 d_X12_houseOf_29 ?_
  obtain ⟨v6, e7, h⟩ := o_nm h
  refine z_nI e7 ?_
  refine z_istore (L' := [(4, .int v6), (3, .int v3), (0, .ref (gB G + 0)), (1, .int x1), (2, .int x2)]) C d_X12_houseOf_30 (by decide) rfl ?_
  refine z_iload 0 C d_X12_houseOf_32 rfl ?_
  refine z_iload_n 1 C d_X12_houseOf_34 rfl rfl ?_
  refine z_icmp_ge C d_X12_houseOf_35 (fun q8 => ?_) (fun q8 => ?_)
  · have h := o_t q8 h
    refine z_iload 0 C d_X12_houseOf_42 rfl ?_
    refine z_iload_n 1 C d_X12_houseOf_44 rfl rfl ?_
    refine z_icmp_le C d_X12_houseOf_45 (fun q9 => ?_) (fun q9 => ?_)
    · have h := o_t q9 h
      refine z_bipush (v := (-4 : Int32)) C d_X12_houseOf_52 (by decide) ?_
      exact z_sub [] rfl (k_X12_houseOf_54 C hlk hr h)
    · have h := o_f q9 h
      refine z_iconst (v := (1 : Int32)) C d_X12_houseOf_48 (by decide) ?_
      refine z_goto C d_X12_houseOf_49 ?_
      exact z_sub [] rfl (k_X12_houseOf_54 C hlk hr h)
  · have h := o_f q8 h
    refine z_iconst (v := (0 : Int32)) C d_X12_houseOf_38 (by decide) ?_
    refine z_goto C d_X12_houseOf_39 ?_
    exact z_sub [] rfl (k_X12_houseOf_54 C hlk hr h)
theorem c_X12_houseOf (l : Launch) (G : GG) {M : Mm} {x1 : Int32} {x2 : Int32} {r : Int32} (h : f_X12_houseOf M x1 x2 = some r) : CT l 1 G y_X12_houseOf prog_14_method_36_code 5 (some .int) 0 0 [.ref (gB G + 0), .int x1, .int x2] M (some (.int r)) M :=
  CT.of (by decide +kernel) (Nat.le_of_ble_eq_true rfl) rfl (fun p e s m args below meth c C hlk hr => k_X12_houseOf_0 C hlk hr h)
