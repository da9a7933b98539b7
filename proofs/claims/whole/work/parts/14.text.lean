def y_X9_append : MethodName := ⟨"SnowSentries$Text", "append", "(J)I"⟩
def y_X9_cut : MethodName := ⟨"SnowSentries$Text", "cut", "(I)I"⟩
def y_X9_refuse : MethodName := ⟨"SnowSentries$Text", "refuse", "(II)Z"⟩
def y_X9_readToken : MethodName := ⟨"SnowSentries$Text", "readToken", "()Z"⟩
def y_X9_isNamed : MethodName := ⟨"SnowSentries$Text", "isNamed", "(Ljava/lang/String;)Z"⟩
def y_X9_isFirst : MethodName := ⟨"SnowSentries$Text", "isFirst", "(I)Z"⟩
def y_X9_isNumber : MethodName := ⟨"SnowSentries$Text", "isNumber", "(II)Z"⟩
def y_X9_readNumber : MethodName := ⟨"SnowSentries$Text", "readNumber", "(II)Z"⟩
def y_X9_isSemicolon : MethodName := ⟨"SnowSentries$Text", "isSemicolon", "()Z"⟩
def y_X9_readSemicolon : MethodName := ⟨"SnowSentries$Text", "readSemicolon", "()Z"⟩
def y_X9_readFurlongs : MethodName := ⟨"SnowSentries$Text", "readFurlongs", "(LSnowSentries$Land;)Z"⟩
def y_X9_readHours : MethodName := ⟨"SnowSentries$Text", "readHours", "(I[II)Z"⟩
def y_X9_readTreaty : MethodName := ⟨"SnowSentries$Text", "readTreaty", "(LSnowSentries$Law;)Z"⟩
def y_X9_readFurlong : MethodName := ⟨"SnowSentries$Text", "readFurlong", "()Z"⟩
def y_X9_readSnow : MethodName := ⟨"SnowSentries$Text", "readSnow", "(LSnowSentries$Scene;)Z"⟩
def y_X9_readSide : MethodName := ⟨"SnowSentries$Text", "readSide", "()Z"⟩
def y_X9_readKind : MethodName := ⟨"SnowSentries$Text", "readKind", "(LSnowSentries$Man;)Z"⟩
def y_X9_readParts : MethodName := ⟨"SnowSentries$Text", "readParts", "(LSnowSentries$Man;)Z"⟩
def y_X9_readDress : MethodName := ⟨"SnowSentries$Text", "readDress", "(LSnowSentries$Man;)Z"⟩
def y_X9_readMan : MethodName := ⟨"SnowSentries$Text", "readMan", "(LSnowSentries$Scene;)Z"⟩
def y_X9_readBrazier : MethodName := ⟨"SnowSentries$Text", "readBrazier", "(LSnowSentries$Braziers;)Z"⟩
def y_X9_readHouse : MethodName := ⟨"SnowSentries$Text", "readHouse", "(LSnowSentries$Land;)Z"⟩
def y_X9_readLine : MethodName := ⟨"SnowSentries$Text", "readLine", "(LSnowSentries$Land;)Z"⟩
def y_X9_tell : MethodName := ⟨"SnowSentries$Text", "tell", "(LSnowSentries$Land;)V"⟩
theorem kx_1 : kU 0 1 = 9 := by decide +kernel
theorem wf_X9_15 : Cond.fieldLink "SnowSentries$Text" 15 "SnowSentries$Text" "length" "I" ∈ TB := it_1 (List.mem_of_getElem? (i := 36) rfl) rfl
theorem wf_X9_11 : Cond.fieldLink "SnowSentries$Text" 11 "SnowSentries$Text" "bytes" "[B" ∈ TB := it_1 (List.mem_of_getElem? (i := 35) rfl) rfl
theorem kx_2 : kU 0 2 = 25 := by decide +kernel
theorem wm_X9_19 : (("SnowSentries$Text", 19, y_X11_isAmong, "SnowSentries") : String × Nat × MethodName × String) ∈ nestL := List.mem_of_getElem? (i := 9) rfl
theorem wf_X9_26 : Cond.fieldLink "SnowSentries$Text" 26 "SnowSentries$Text" "fault" "I" ∈ TB := it_1 (List.mem_of_getElem? (i := 40) rfl) rfl
theorem wf_X9_29 : Cond.fieldLink "SnowSentries$Text" 29 "SnowSentries$Text" "place" "I" ∈ TB := it_1 (List.mem_of_getElem? (i := 42) rfl) rfl
theorem wf_X9_32 : Cond.fieldLink "SnowSentries$Text" 32 "SnowSentries$Text" "stop" "I" ∈ TB := it_1 (List.mem_of_getElem? (i := 46) rfl) rfl
theorem wf_X9_127 : Cond.fieldLink "SnowSentries$Text" 127 "SnowSentries$Text" "start" "I" ∈ TB := it_1 (List.mem_of_getElem? (i := 45) rfl) rfl
theorem wm_X9_60 : Cond.methodLink "SnowSentries$Text" 60 y_X9_refuse ∈ TB := it_3 (List.mem_of_getElem? (i := 6) rfl) rfl
theorem wc_X9_refuse : Cond.code y_X9_refuse prog_11_method_5_code 3 (some .boolean) ∈ TB := it_3 (List.mem_of_getElem? (i := 9) rfl) rfl
theorem ws_X9_refuse : Cond.instanceMethod y_X9_refuse ∈ TB := it_3 (List.mem_of_getElem? (i := 8) rfl) rfl
theorem wi_X9 : Cond.initialized "SnowSentries$Text" ∈ TB := it_1 (List.mem_of_getElem? (i := 2) rfl) rfl
theorem hy_X9_refuse : (y_X9_refuse).cls ≠ "java/lang/invoke/MethodHandle" ∧ (y_X9_refuse).cls ≠ "java/lang/invoke/VarHandle" ∧ (parseMethodDescriptor (y_X9_refuse).desc).map (fun d => d.parameters.length) = some 2 := by decide +kernel
theorem wl_X9_refuse : Cond.selects "SnowSentries$Text" y_X9_refuse y_X9_refuse ∈ TB := TB_in (List.mem_append_left _ (List.mem_of_getElem? (i := 1) rfl)) rfl
theorem wf_X9_137 : Cond.fieldLink "SnowSentries$Text" 137 "SnowSentries$Text" "value" "I" ∈ TB := it_1 (List.mem_of_getElem? (i := 47) rfl) rfl
theorem wf_X9_48 : Cond.fieldLink "SnowSentries$Text" 48 "SnowSentries$Text" "kind" "I" ∈ TB := it_1 (List.mem_of_getElem? (i := 44) rfl) rfl
theorem wm_X9_237 : Cond.methodLink "SnowSentries$Text" 237 y_J0_length_8abf5 ∈ TB := it_3 (List.mem_of_getElem? (i := 19) rfl) rfl
theorem wm_X9_242 : Cond.methodLink "SnowSentries$Text" 242 y_J0_charAt_5068e ∈ TB := it_3 (List.mem_of_getElem? (i := 29) rfl) rfl
theorem wf_X9_35 : Cond.fieldLink "SnowSentries$Text" 35 "SnowSentries$Text" "said" "I" ∈ TB := it_1 (List.mem_of_getElem? (i := 48) rfl) rfl
theorem wm_X9_44 : Cond.methodLink "SnowSentries$Text" 44 y_X9_readToken ∈ TB := it_3 (List.mem_of_getElem? (i := 2) rfl) rfl
theorem wc_X9_readToken : Cond.code y_X9_readToken prog_11_method_25_code 5 (some .boolean) ∈ TB := it_3 (List.mem_of_getElem? (i := 5) rfl) rfl
theorem ws_X9_readToken : Cond.instanceMethod y_X9_readToken ∈ TB := it_3 (List.mem_of_getElem? (i := 4) rfl) rfl
theorem hy_X9_readToken : (y_X9_readToken).cls ≠ "java/lang/invoke/MethodHandle" ∧ (y_X9_readToken).cls ≠ "java/lang/invoke/VarHandle" ∧ (parseMethodDescriptor (y_X9_readToken).desc).map (fun d => d.parameters.length) = some 0 := by decide +kernel
theorem wl_X9_readToken : Cond.selects "SnowSentries$Text" y_X9_readToken y_X9_readToken ∈ TB := TB_in (List.mem_append_left _ (List.mem_of_getElem? (i := 0) rfl)) rfl
theorem wm_X9_143 : Cond.methodLink "SnowSentries$Text" 143 y_X9_isNumber ∈ TB := it_3 (List.mem_of_getElem? (i := 79) rfl) rfl
theorem wc_X9_isNumber : Cond.code y_X9_isNumber prog_11_method_22_code 3 (some .boolean) ∈ TB := it_3 (List.mem_of_getElem? (i := 82) rfl) rfl
theorem ws_X9_isNumber : Cond.instanceMethod y_X9_isNumber ∈ TB := it_3 (List.mem_of_getElem? (i := 81) rfl) rfl
theorem hy_X9_isNumber : (y_X9_isNumber).cls ≠ "java/lang/invoke/MethodHandle" ∧ (y_X9_isNumber).cls ≠ "java/lang/invoke/VarHandle" ∧ (parseMethodDescriptor (y_X9_isNumber).desc).map (fun d => d.parameters.length) = some 2 := by decide +kernel
theorem wl_X9_isNumber : Cond.selects "SnowSentries$Text" y_X9_isNumber y_X9_isNumber ∈ TB := TB_in (List.mem_append_left _ (List.mem_of_getElem? (i := 7) rfl)) rfl
theorem wm_X9_146 : Cond.methodLink "SnowSentries$Text" 146 y_X9_isSemicolon ∈ TB := it_3 (List.mem_of_getElem? (i := 87) rfl) rfl
theorem wc_X9_isSemicolon : Cond.code y_X9_isSemicolon prog_11_method_23_code 1 (some .boolean) ∈ TB := it_3 (List.mem_of_getElem? (i := 90) rfl) rfl
theorem ws_X9_isSemicolon : Cond.instanceMethod y_X9_isSemicolon ∈ TB := it_3 (List.mem_of_getElem? (i := 89) rfl) rfl
theorem hy_X9_isSemicolon : (y_X9_isSemicolon).cls ≠ "java/lang/invoke/MethodHandle" ∧ (y_X9_isSemicolon).cls ≠ "java/lang/invoke/VarHandle" ∧ (parseMethodDescriptor (y_X9_isSemicolon).desc).map (fun d => d.parameters.length) = some 0 := by decide +kernel
theorem wl_X9_isSemicolon : Cond.selects "SnowSentries$Text" y_X9_isSemicolon y_X9_isSemicolon ∈ TB := TB_in (List.mem_append_left _ (List.mem_of_getElem? (i := 9) rfl)) rfl
theorem wm_X9_130 : Cond.methodLink "SnowSentries$Text" 130 y_X9_isFirst ∈ TB := it_3 (List.mem_of_getElem? (i := 71) rfl) rfl
theorem wc_X9_isFirst : Cond.code y_X9_isFirst prog_11_method_21_code 2 (some .boolean) ∈ TB := it_3 (List.mem_of_getElem? (i := 74) rfl) rfl
theorem ws_X9_isFirst : Cond.instanceMethod y_X9_isFirst ∈ TB := it_3 (List.mem_of_getElem? (i := 73) rfl) rfl
theorem hy_X9_isFirst : (y_X9_isFirst).cls ≠ "java/lang/invoke/MethodHandle" ∧ (y_X9_isFirst).cls ≠ "java/lang/invoke/VarHandle" ∧ (parseMethodDescriptor (y_X9_isFirst).desc).map (fun d => d.parameters.length) = some 1 := by decide +kernel
theorem wl_X9_isFirst : Cond.selects "SnowSentries$Text" y_X9_isFirst y_X9_isFirst ∈ TB := TB_in (List.mem_append_left _ (List.mem_of_getElem? (i := 5) rfl)) rfl
theorem wm_X9_134 : Cond.methodLink "SnowSentries$Text" 134 y_X9_readNumber ∈ TB := it_3 (List.mem_of_getElem? (i := 75) rfl) rfl
theorem wc_X9_readNumber : Cond.code y_X9_readNumber prog_11_method_19_code 3 (some .boolean) ∈ TB := it_3 (List.mem_of_getElem? (i := 78) rfl) rfl
theorem ws_X9_readNumber : Cond.instanceMethod y_X9_readNumber ∈ TB := it_3 (List.mem_of_getElem? (i := 77) rfl) rfl
theorem hy_X9_readNumber : (y_X9_readNumber).cls ≠ "java/lang/invoke/MethodHandle" ∧ (y_X9_readNumber).cls ≠ "java/lang/invoke/VarHandle" ∧ (parseMethodDescriptor (y_X9_readNumber).desc).map (fun d => d.parameters.length) = some 2 := by decide +kernel
theorem wl_X9_readNumber : Cond.selects "SnowSentries$Text" y_X9_readNumber y_X9_readNumber ∈ TB := TB_in (List.mem_append_left _ (List.mem_of_getElem? (i := 6) rfl)) rfl
theorem wf_X9_55 : Cond.fieldLink "SnowSentries$Text" 55 "SnowSentries$Land" "furlongs" "I" ∈ TB := it_2 (List.mem_of_getElem? (i := 135) rfl) rfl
theorem wm_X9_140 : Cond.methodLink "SnowSentries$Text" 140 y_X9_readSemicolon ∈ TB := it_3 (List.mem_of_getElem? (i := 83) rfl) rfl
theorem wc_X9_readSemicolon : Cond.code y_X9_readSemicolon prog_11_method_20_code 1 (some .boolean) ∈ TB := it_3 (List.mem_of_getElem? (i := 86) rfl) rfl
theorem ws_X9_readSemicolon : Cond.instanceMethod y_X9_readSemicolon ∈ TB := it_3 (List.mem_of_getElem? (i := 85) rfl) rfl
theorem hy_X9_readSemicolon : (y_X9_readSemicolon).cls ≠ "java/lang/invoke/MethodHandle" ∧ (y_X9_readSemicolon).cls ≠ "java/lang/invoke/VarHandle" ∧ (parseMethodDescriptor (y_X9_readSemicolon).desc).map (fun d => d.parameters.length) = some 0 := by decide +kernel
theorem wl_X9_readSemicolon : Cond.selects "SnowSentries$Text" y_X9_readSemicolon y_X9_readSemicolon ∈ TB := TB_in (List.mem_append_left _ (List.mem_of_getElem? (i := 8) rfl)) rfl
theorem wf_X9_149 : Cond.fieldLink "SnowSentries$Text" 149 "SnowSentries$Law" "head" "I" ∈ TB := it_2 (List.mem_of_getElem? (i := 100) rfl) rfl
theorem wf_X9_154 : Cond.fieldLink "SnowSentries$Text" 154 "SnowSentries$Law" "eyes" "I" ∈ TB := it_2 (List.mem_of_getElem? (i := 103) rfl) rfl
theorem wf_X9_157 : Cond.fieldLink "SnowSentries$Text" 157 "SnowSentries$Law" "uniform" "I" ∈ TB := it_2 (List.mem_of_getElem? (i := 106) rfl) rfl
theorem wf_X9_41 : Cond.fieldLink "SnowSentries$Text" 41 "SnowSentries$Text" "farthest" "I" ∈ TB := it_1 (List.mem_of_getElem? (i := 50) rfl) rfl
theorem wm_X9_227 : Cond.methodLink "SnowSentries$Text" 227 Lib.Math.max.name ∈ TB := it_3 (List.mem_of_getElem? (i := 111) rfl) rfl
theorem wm_X9_160 : Cond.methodLink "SnowSentries$Text" 160 y_X9_readFurlong ∈ TB := it_3 (List.mem_of_getElem? (i := 107) rfl) rfl
theorem wc_X9_readFurlong : Cond.code y_X9_readFurlong prog_11_method_17_code 1 (some .boolean) ∈ TB := it_3 (List.mem_of_getElem? (i := 110) rfl) rfl
theorem ws_X9_readFurlong : Cond.instanceMethod y_X9_readFurlong ∈ TB := it_3 (List.mem_of_getElem? (i := 109) rfl) rfl
theorem hy_X9_readFurlong : (y_X9_readFurlong).cls ≠ "java/lang/invoke/MethodHandle" ∧ (y_X9_readFurlong).cls ≠ "java/lang/invoke/VarHandle" ∧ (parseMethodDescriptor (y_X9_readFurlong).desc).map (fun d => d.parameters.length) = some 0 := by decide +kernel
theorem wl_X9_readFurlong : Cond.selects "SnowSentries$Text" y_X9_readFurlong y_X9_readFurlong ∈ TB := TB_in (List.mem_append_left _ (List.mem_of_getElem? (i := 13) rfl)) rfl
theorem wf_X9_38 : Cond.fieldLink "SnowSentries$Text" 38 "SnowSentries$Text" "snowSaid" "I" ∈ TB := it_1 (List.mem_of_getElem? (i := 49) rfl) rfl
theorem wf_X9_163 : Cond.fieldLink "SnowSentries$Text" 163 "SnowSentries$Scene" "snow" "[I" ∈ TB := it_1 (List.mem_of_getElem? (i := 172) rfl) rfl
theorem wm_X9_65 : Cond.methodLink "SnowSentries$Text" 65 y_X9_isNamed ∈ TB := it_3 (List.mem_of_getElem? (i := 15) rfl) rfl
theorem wc_X9_isNamed : Cond.code y_X9_isNamed prog_11_method_24_code 3 (some .boolean) ∈ TB := it_3 (List.mem_of_getElem? (i := 18) rfl) rfl
theorem ws_X9_isNamed : Cond.instanceMethod y_X9_isNamed ∈ TB := it_3 (List.mem_of_getElem? (i := 17) rfl) rfl
theorem hy_X9_isNamed : (y_X9_isNamed).cls ≠ "java/lang/invoke/MethodHandle" ∧ (y_X9_isNamed).cls ≠ "java/lang/invoke/VarHandle" ∧ (parseMethodDescriptor (y_X9_isNamed).desc).map (fun d => d.parameters.length) = some 1 := by decide +kernel
theorem wl_X9_isNamed : Cond.selects "SnowSentries$Text" y_X9_isNamed y_X9_isNamed ∈ TB := TB_in (List.mem_append_left _ (List.mem_of_getElem? (i := 3) rfl)) rfl
theorem wf_X9_190 : Cond.fieldLink "SnowSentries$Text" 190 "SnowSentries$Man" "kind" "I" ∈ TB := it_1 (List.mem_of_getElem? (i := 127) rfl) rfl
theorem wf_X9_199 : Cond.fieldLink "SnowSentries$Text" 199 "SnowSentries$Man" "base" "I" ∈ TB := it_1 (List.mem_of_getElem? (i := 130) rfl) rfl
theorem wf_X9_202 : Cond.fieldLink "SnowSentries$Text" 202 "SnowSentries$Man" "belly" "I" ∈ TB := it_1 (List.mem_of_getElem? (i := 133) rfl) rfl
theorem wf_X9_205 : Cond.fieldLink "SnowSentries$Text" 205 "SnowSentries$Man" "head" "I" ∈ TB := it_1 (List.mem_of_getElem? (i := 139) rfl) rfl
theorem wf_X9_206 : Cond.fieldLink "SnowSentries$Text" 206 "SnowSentries$Man" "eyes" "I" ∈ TB := it_1 (List.mem_of_getElem? (i := 143) rfl) rfl
theorem wf_X9_209 : Cond.fieldLink "SnowSentries$Text" 209 "SnowSentries$Man" "uniform" "Z" ∈ TB := it_1 (List.mem_of_getElem? (i := 147) rfl) rfl
theorem wm_X9_165 : Cond.methodLink "SnowSentries$Text" 165 y_X9_readSide ∈ TB := it_3 (List.mem_of_getElem? (i := 119) rfl) rfl
theorem wc_X9_readSide : Cond.code y_X9_readSide prog_11_method_18_code 1 (some .boolean) ∈ TB := it_3 (List.mem_of_getElem? (i := 122) rfl) rfl
theorem ws_X9_readSide : Cond.instanceMethod y_X9_readSide ∈ TB := it_3 (List.mem_of_getElem? (i := 121) rfl) rfl
theorem hy_X9_readSide : (y_X9_readSide).cls ≠ "java/lang/invoke/MethodHandle" ∧ (y_X9_readSide).cls ≠ "java/lang/invoke/VarHandle" ∧ (parseMethodDescriptor (y_X9_readSide).desc).map (fun d => d.parameters.length) = some 0 := by decide +kernel
theorem wl_X9_readSide : Cond.selects "SnowSentries$Text" y_X9_readSide y_X9_readSide ∈ TB := TB_in (List.mem_append_left _ (List.mem_of_getElem? (i := 15) rfl)) rfl
theorem wm_X9_168 : Cond.methodLink "SnowSentries$Text" 168 y_X7_manOf ∈ TB := it_3 (List.mem_of_getElem? (i := 125) rfl) rfl
theorem wf_X9_172 : Cond.fieldLink "SnowSentries$Text" 172 "SnowSentries$Man" "there" "Z" ∈ TB := it_1 (List.mem_of_getElem? (i := 123) rfl) rfl
theorem wm_X9_178 : Cond.methodLink "SnowSentries$Text" 178 y_X9_readKind ∈ TB := it_3 (List.mem_of_getElem? (i := 129) rfl) rfl
theorem wc_X9_readKind : Cond.code y_X9_readKind prog_11_method_12_code 2 (some .boolean) ∈ TB := it_3 (List.mem_of_getElem? (i := 132) rfl) rfl
theorem ws_X9_readKind : Cond.instanceMethod y_X9_readKind ∈ TB := it_3 (List.mem_of_getElem? (i := 131) rfl) rfl
theorem hy_X9_readKind : (y_X9_readKind).cls ≠ "java/lang/invoke/MethodHandle" ∧ (y_X9_readKind).cls ≠ "java/lang/invoke/VarHandle" ∧ (parseMethodDescriptor (y_X9_readKind).desc).map (fun d => d.parameters.length) = some 1 := by decide +kernel
theorem wl_X9_readKind : Cond.selects "SnowSentries$Text" y_X9_readKind y_X9_readKind ∈ TB := TB_in (List.mem_append_left _ (List.mem_of_getElem? (i := 16) rfl)) rfl
theorem wm_X9_182 : Cond.methodLink "SnowSentries$Text" 182 y_X9_readParts ∈ TB := it_3 (List.mem_of_getElem? (i := 138) rfl) rfl
theorem wc_X9_readParts : Cond.code y_X9_readParts prog_11_method_13_code 2 (some .boolean) ∈ TB := it_3 (List.mem_of_getElem? (i := 141) rfl) rfl
theorem ws_X9_readParts : Cond.instanceMethod y_X9_readParts ∈ TB := it_3 (List.mem_of_getElem? (i := 140) rfl) rfl
theorem hy_X9_readParts : (y_X9_readParts).cls ≠ "java/lang/invoke/MethodHandle" ∧ (y_X9_readParts).cls ≠ "java/lang/invoke/VarHandle" ∧ (parseMethodDescriptor (y_X9_readParts).desc).map (fun d => d.parameters.length) = some 1 := by decide +kernel
theorem wl_X9_readParts : Cond.selects "SnowSentries$Text" y_X9_readParts y_X9_readParts ∈ TB := TB_in (List.mem_append_left _ (List.mem_of_getElem? (i := 17) rfl)) rfl
theorem wm_X9_185 : Cond.methodLink "SnowSentries$Text" 185 y_X9_readDress ∈ TB := it_3 (List.mem_of_getElem? (i := 142) rfl) rfl
theorem wc_X9_readDress : Cond.code y_X9_readDress prog_11_method_14_code 2 (some .boolean) ∈ TB := it_3 (List.mem_of_getElem? (i := 145) rfl) rfl
theorem ws_X9_readDress : Cond.instanceMethod y_X9_readDress ∈ TB := it_3 (List.mem_of_getElem? (i := 144) rfl) rfl
theorem hy_X9_readDress : (y_X9_readDress).cls ≠ "java/lang/invoke/MethodHandle" ∧ (y_X9_readDress).cls ≠ "java/lang/invoke/VarHandle" ∧ (parseMethodDescriptor (y_X9_readDress).desc).map (fun d => d.parameters.length) = some 1 := by decide +kernel
theorem wl_X9_readDress : Cond.selects "SnowSentries$Text" y_X9_readDress y_X9_readDress ∈ TB := TB_in (List.mem_append_left _ (List.mem_of_getElem? (i := 18) rfl)) rfl
theorem wm_X9_211 : Cond.methodLink "SnowSentries$Text" 211 y_X0_isFull ∈ TB := it_3 (List.mem_of_getElem? (i := 152) rfl) rfl
theorem wm_X9_216 : Cond.methodLink "SnowSentries$Text" 216 y_X0_put ∈ TB := it_3 (List.mem_of_getElem? (i := 156) rfl) rfl
theorem wc_X0_put : Cond.code y_X0_put prog_2_method_3_code 5 none ∈ TB := it_3 (List.mem_of_getElem? (i := 159) rfl) rfl
theorem ws_X0_put : Cond.instanceMethod y_X0_put ∈ TB := it_3 (List.mem_of_getElem? (i := 157) rfl) rfl
theorem hy_X0_put : (y_X0_put).cls ≠ "java/lang/invoke/MethodHandle" ∧ (y_X0_put).cls ≠ "java/lang/invoke/VarHandle" ∧ (parseMethodDescriptor (y_X0_put).desc).map (fun d => d.parameters.length) = some 4 := by decide +kernel
theorem wl_X0_put : Cond.selects "SnowSentries$Braziers" y_X0_put y_X0_put ∈ TB := it_3 (List.mem_of_getElem? (i := 158) rfl) rfl
theorem wm_X9_223 : Cond.methodLink "SnowSentries$Text" 223 y_X4_putHouse ∈ TB := it_3 (List.mem_of_getElem? (i := 166) rfl) rfl
theorem wc_X4_putHouse : Cond.code y_X4_putHouse prog_6_method_3_code 3 none ∈ TB := it_3 (List.mem_of_getElem? (i := 169) rfl) rfl
theorem ws_X4_putHouse : Cond.instanceMethod y_X4_putHouse ∈ TB := it_3 (List.mem_of_getElem? (i := 167) rfl) rfl
theorem hy_X4_putHouse : (y_X4_putHouse).cls ≠ "java/lang/invoke/MethodHandle" ∧ (y_X4_putHouse).cls ≠ "java/lang/invoke/VarHandle" ∧ (parseMethodDescriptor (y_X4_putHouse).desc).map (fun d => d.parameters.length) = some 2 := by decide +kernel
theorem wl_X4_putHouse : Cond.selects "SnowSentries$Land" y_X4_putHouse y_X4_putHouse ∈ TB := it_3 (List.mem_of_getElem? (i := 168) rfl) rfl
theorem wf_X9_220 : Cond.fieldLink "SnowSentries$Text" 220 "SnowSentries$Land" "houseCount" "I" ∈ TB := it_2 (List.mem_of_getElem? (i := 149) rfl) rfl
theorem wm_X9_124 : Cond.methodLink "SnowSentries$Text" 124 y_X9_readHouse ∈ TB := it_3 (List.mem_of_getElem? (i := 162) rfl) rfl
theorem wc_X9_readHouse : Cond.code y_X9_readHouse prog_11_method_16_code 4 (some .boolean) ∈ TB := it_3 (List.mem_of_getElem? (i := 165) rfl) rfl
theorem ws_X9_readHouse : Cond.instanceMethod y_X9_readHouse ∈ TB := it_3 (List.mem_of_getElem? (i := 164) rfl) rfl
theorem hy_X9_readHouse : (y_X9_readHouse).cls ≠ "java/lang/invoke/MethodHandle" ∧ (y_X9_readHouse).cls ≠ "java/lang/invoke/VarHandle" ∧ (parseMethodDescriptor (y_X9_readHouse).desc).map (fun d => d.parameters.length) = some 1 := by decide +kernel
theorem wl_X9_readHouse : Cond.selects "SnowSentries$Text" y_X9_readHouse y_X9_readHouse ∈ TB := TB_in (List.mem_append_left _ (List.mem_of_getElem? (i := 20) rfl)) rfl
theorem wf_X9_74 : Cond.fieldLink "SnowSentries$Text" 74 "SnowSentries$Land" "scene" "LSnowSentries$Scene;" ∈ TB := it_2 (List.mem_of_getElem? (i := 158) rfl) rfl
theorem wf_X9_114 : Cond.fieldLink "SnowSentries$Text" 114 "SnowSentries$Scene" "fires" "LSnowSentries$Braziers;" ∈ TB := it_1 (List.mem_of_getElem? (i := 185) rfl) rfl
theorem wm_X9_118 : Cond.methodLink "SnowSentries$Text" 118 y_X9_readBrazier ∈ TB := it_3 (List.mem_of_getElem? (i := 148) rfl) rfl
theorem wc_X9_readBrazier : Cond.code y_X9_readBrazier prog_11_method_15_code 5 (some .boolean) ∈ TB := it_3 (List.mem_of_getElem? (i := 151) rfl) rfl
theorem ws_X9_readBrazier : Cond.instanceMethod y_X9_readBrazier ∈ TB := it_3 (List.mem_of_getElem? (i := 150) rfl) rfl
theorem hy_X9_readBrazier : (y_X9_readBrazier).cls ≠ "java/lang/invoke/MethodHandle" ∧ (y_X9_readBrazier).cls ≠ "java/lang/invoke/VarHandle" ∧ (parseMethodDescriptor (y_X9_readBrazier).desc).map (fun d => d.parameters.length) = some 1 := by decide +kernel
theorem wl_X9_readBrazier : Cond.selects "SnowSentries$Text" y_X9_readBrazier y_X9_readBrazier ∈ TB := TB_in (List.mem_append_left _ (List.mem_of_getElem? (i := 19) rfl)) rfl
theorem wm_X9_109 : Cond.methodLink "SnowSentries$Text" 109 y_X9_readMan ∈ TB := it_3 (List.mem_of_getElem? (i := 115) rfl) rfl
theorem wc_X9_readMan : Cond.code y_X9_readMan prog_11_method_11_code 4 (some .boolean) ∈ TB := it_3 (List.mem_of_getElem? (i := 118) rfl) rfl
theorem ws_X9_readMan : Cond.instanceMethod y_X9_readMan ∈ TB := it_3 (List.mem_of_getElem? (i := 117) rfl) rfl
theorem hy_X9_readMan : (y_X9_readMan).cls ≠ "java/lang/invoke/MethodHandle" ∧ (y_X9_readMan).cls ≠ "java/lang/invoke/VarHandle" ∧ (parseMethodDescriptor (y_X9_readMan).desc).map (fun d => d.parameters.length) = some 1 := by decide +kernel
theorem wl_X9_readMan : Cond.selects "SnowSentries$Text" y_X9_readMan y_X9_readMan ∈ TB := TB_in (List.mem_append_left _ (List.mem_of_getElem? (i := 14) rfl)) rfl
theorem wm_X9_103 : Cond.methodLink "SnowSentries$Text" 103 y_X9_readSnow ∈ TB := it_3 (List.mem_of_getElem? (i := 103) rfl) rfl
theorem wc_X9_readSnow : Cond.code y_X9_readSnow prog_11_method_10_code 3 (some .boolean) ∈ TB := it_3 (List.mem_of_getElem? (i := 106) rfl) rfl
theorem ws_X9_readSnow : Cond.instanceMethod y_X9_readSnow ∈ TB := it_3 (List.mem_of_getElem? (i := 105) rfl) rfl
theorem hy_X9_readSnow : (y_X9_readSnow).cls ≠ "java/lang/invoke/MethodHandle" ∧ (y_X9_readSnow).cls ≠ "java/lang/invoke/VarHandle" ∧ (parseMethodDescriptor (y_X9_readSnow).desc).map (fun d => d.parameters.length) = some 1 := by decide +kernel
theorem wl_X9_readSnow : Cond.selects "SnowSentries$Text" y_X9_readSnow y_X9_readSnow ∈ TB := TB_in (List.mem_append_left _ (List.mem_of_getElem? (i := 12) rfl)) rfl
theorem wf_X9_93 : Cond.fieldLink "SnowSentries$Text" 93 "SnowSentries$Land" "law" "LSnowSentries$Law;" ∈ TB := it_2 (List.mem_of_getElem? (i := 146) rfl) rfl
theorem wm_X9_97 : Cond.methodLink "SnowSentries$Text" 97 y_X9_readTreaty ∈ TB := it_3 (List.mem_of_getElem? (i := 98) rfl) rfl
theorem wc_X9_readTreaty : Cond.code y_X9_readTreaty prog_11_method_9_code 2 (some .boolean) ∈ TB := it_3 (List.mem_of_getElem? (i := 101) rfl) rfl
theorem ws_X9_readTreaty : Cond.instanceMethod y_X9_readTreaty ∈ TB := it_3 (List.mem_of_getElem? (i := 100) rfl) rfl
theorem hy_X9_readTreaty : (y_X9_readTreaty).cls ≠ "java/lang/invoke/MethodHandle" ∧ (y_X9_readTreaty).cls ≠ "java/lang/invoke/VarHandle" ∧ (parseMethodDescriptor (y_X9_readTreaty).desc).map (fun d => d.parameters.length) = some 1 := by decide +kernel
theorem wl_X9_readTreaty : Cond.selects "SnowSentries$Text" y_X9_readTreaty y_X9_readTreaty ∈ TB := TB_in (List.mem_append_left _ (List.mem_of_getElem? (i := 11) rfl)) rfl
theorem wf_X9_89 : Cond.fieldLink "SnowSentries$Text" 89 "SnowSentries$Land" "frost" "[I" ∈ TB := it_2 (List.mem_of_getElem? (i := 141) rfl) rfl
theorem wm_X9_83 : Cond.methodLink "SnowSentries$Text" 83 y_X9_readHours ∈ TB := it_3 (List.mem_of_getElem? (i := 92) rfl) rfl
theorem wc_X9_readHours : Cond.code y_X9_readHours prog_11_method_8_code 5 (some .boolean) ∈ TB := it_3 (List.mem_of_getElem? (i := 95) rfl) rfl
theorem ws_X9_readHours : Cond.instanceMethod y_X9_readHours ∈ TB := it_3 (List.mem_of_getElem? (i := 94) rfl) rfl
theorem hy_X9_readHours : (y_X9_readHours).cls ≠ "java/lang/invoke/MethodHandle" ∧ (y_X9_readHours).cls ≠ "java/lang/invoke/VarHandle" ∧ (parseMethodDescriptor (y_X9_readHours).desc).map (fun d => d.parameters.length) = some 3 := by decide +kernel
theorem wl_X9_readHours : Cond.selects "SnowSentries$Text" y_X9_readHours y_X9_readHours ∈ TB := TB_in (List.mem_append_left _ (List.mem_of_getElem? (i := 10) rfl)) rfl
theorem wf_X9_78 : Cond.fieldLink "SnowSentries$Text" 78 "SnowSentries$Scene" "sun" "[I" ∈ TB := it_1 (List.mem_of_getElem? (i := 180) rfl) rfl
theorem wm_X9_69 : Cond.methodLink "SnowSentries$Text" 69 y_X9_readFurlongs ∈ TB := it_3 (List.mem_of_getElem? (i := 67) rfl) rfl
theorem wc_X9_readFurlongs : Cond.code y_X9_readFurlongs prog_11_method_7_code 2 (some .boolean) ∈ TB := it_3 (List.mem_of_getElem? (i := 70) rfl) rfl
theorem ws_X9_readFurlongs : Cond.instanceMethod y_X9_readFurlongs ∈ TB := it_3 (List.mem_of_getElem? (i := 69) rfl) rfl
theorem hy_X9_readFurlongs : (y_X9_readFurlongs).cls ≠ "java/lang/invoke/MethodHandle" ∧ (y_X9_readFurlongs).cls ≠ "java/lang/invoke/VarHandle" ∧ (parseMethodDescriptor (y_X9_readFurlongs).desc).map (fun d => d.parameters.length) = some 1 := by decide +kernel
theorem wl_X9_readFurlongs : Cond.selects "SnowSentries$Text" y_X9_readFurlongs y_X9_readFurlongs ∈ TB := TB_in (List.mem_append_left _ (List.mem_of_getElem? (i := 4) rfl)) rfl
theorem wf_X9_23 : Cond.fieldLink "SnowSentries$Text" 23 "SnowSentries$Text" "lines" "I" ∈ TB := it_1 (List.mem_of_getElem? (i := 38) rfl) rfl
theorem wm_X9_51 : Cond.methodLink "SnowSentries$Text" 51 y_X9_readLine ∈ TB := it_3 (List.mem_of_getElem? (i := 10) rfl) rfl
theorem wc_X9_readLine : Cond.code y_X9_readLine prog_11_method_6_code 2 (some .boolean) ∈ TB := it_3 (List.mem_of_getElem? (i := 13) rfl) rfl
theorem ws_X9_readLine : Cond.instanceMethod y_X9_readLine ∈ TB := it_3 (List.mem_of_getElem? (i := 12) rfl) rfl
theorem hy_X9_readLine : (y_X9_readLine).cls ≠ "java/lang/invoke/MethodHandle" ∧ (y_X9_readLine).cls ≠ "java/lang/invoke/VarHandle" ∧ (parseMethodDescriptor (y_X9_readLine).desc).map (fun d => d.parameters.length) = some 1 := by decide +kernel
theorem wl_X9_readLine : Cond.selects "SnowSentries$Text" y_X9_readLine y_X9_readLine ∈ TB := TB_in (List.mem_append_left _ (List.mem_of_getElem? (i := 2) rfl)) rfl
theorem d_X9_append_0 : DD prog_11_method_2_code 0 (.aload_n 0) 1 1 := ⟨by decide +kernel, rfl⟩
theorem d_X9_append_1 : DD prog_11_method_2_code 1 (.getfield 15) 3 4 := ⟨by decide +kernel, rfl⟩
theorem d_X9_append_4 : DD prog_11_method_2_code 4 (.sipush 392) 3 7 := ⟨by decide +kernel, rfl⟩
theorem d_X9_append_7 : DJ prog_11_method_2_code 7 (fun o => .if_icmp .le o) 13 3 10 := ⟨by decide +kernel, rfl⟩
theorem d_X9_append_10 : DD prog_11_method_2_code 10 (.bipush (-3)) 2 12 := ⟨by decide +kernel, rfl⟩
theorem d_X9_append_12 : DD prog_11_method_2_code 12 (.ireturn) 1 13 := ⟨by decide +kernel, rfl⟩
theorem d_X9_append_13 : DD prog_11_method_2_code 13 (.iconst 0) 1 14 := ⟨by decide +kernel, rfl⟩
theorem d_X9_append_14 : DD prog_11_method_2_code 14 (.istore_n 3) 1 15 := ⟨by decide +kernel, rfl⟩
theorem d_X9_append_15 : DD prog_11_method_2_code 15 (.iload_n 3) 1 16 := ⟨by decide +kernel, rfl⟩
theorem d_X9_append_16 : DD prog_11_method_2_code 16 (.bipush 8) 2 18 := ⟨by decide +kernel, rfl⟩
theorem d_X9_append_18 : DJ prog_11_method_2_code 18 (fun o => .if_icmp .ge o) 49 3 21 := ⟨by decide +kernel, rfl⟩
theorem d_X9_append_21 : DD prog_11_method_2_code 21 (.aload_n 0) 1 22 := ⟨by decide +kernel, rfl⟩
theorem d_X9_append_22 : DD prog_11_method_2_code 22 (.getfield 11) 3 25 := ⟨by decide +kernel, rfl⟩
theorem d_X9_append_25 : DD prog_11_method_2_code 25 (.aload_n 0) 1 26 := ⟨by decide +kernel, rfl⟩
theorem d_X9_append_26 : DD prog_11_method_2_code 26 (.getfield 15) 3 29 := ⟨by decide +kernel, rfl⟩
theorem d_X9_append_29 : DD prog_11_method_2_code 29 (.iload_n 3) 1 30 := ⟨by decide +kernel, rfl⟩
theorem d_X9_append_30 : DD prog_11_method_2_code 30 (.iadd) 1 31 := ⟨by decide +kernel, rfl⟩
theorem d_X9_append_31 : DD prog_11_method_2_code 31 (.lload_n 1) 1 32 := ⟨by decide +kernel, rfl⟩
theorem d_X9_append_32 : DD prog_11_method_2_code 32 (.bipush 8) 2 34 := ⟨by decide +kernel, rfl⟩
theorem d_X9_append_34 : DD prog_11_method_2_code 34 (.bipush 7) 2 36 := ⟨by decide +kernel, rfl⟩
theorem d_X9_append_36 : DD prog_11_method_2_code 36 (.iload_n 3) 1 37 := ⟨by decide +kernel, rfl⟩
theorem d_X9_append_37 : DD prog_11_method_2_code 37 (.isub) 1 38 := ⟨by decide +kernel, rfl⟩
theorem d_X9_append_38 : DD prog_11_method_2_code 38 (.imul) 1 39 := ⟨by decide +kernel, rfl⟩
theorem d_X9_append_39 : DD prog_11_method_2_code 39 (.lushr) 1 40 := ⟨by decide +kernel, rfl⟩
theorem d_X9_append_40 : DD prog_11_method_2_code 40 (.l2i) 1 41 := ⟨by decide +kernel, rfl⟩
theorem d_X9_append_41 : DD prog_11_method_2_code 41 (.i2b) 1 42 := ⟨by decide +kernel, rfl⟩
theorem d_X9_append_42 : DD prog_11_method_2_code 42 (.bastore) 1 43 := ⟨by decide +kernel, rfl⟩
theorem d_X9_append_43 : DD prog_11_method_2_code 43 (.iinc 3 1) 3 46 := ⟨by decide +kernel, rfl⟩
theorem d_X9_append_46 : DJ prog_11_method_2_code 46 (fun o => .goto o) 15 3 49 := ⟨by decide +kernel, rfl⟩
theorem d_X9_append_49 : DD prog_11_method_2_code 49 (.aload_n 0) 1 50 := ⟨by decide +kernel, rfl⟩
theorem d_X9_append_50 : DD prog_11_method_2_code 50 (.dup) 1 51 := ⟨by decide +kernel, rfl⟩
theorem d_X9_append_51 : DD prog_11_method_2_code 51 (.getfield 15) 3 54 := ⟨by decide +kernel, rfl⟩
theorem d_X9_append_54 : DD prog_11_method_2_code 54 (.bipush 8) 2 56 := ⟨by decide +kernel, rfl⟩
theorem d_X9_append_56 : DD prog_11_method_2_code 56 (.iadd) 1 57 := ⟨by decide +kernel, rfl⟩
theorem d_X9_append_57 : DD prog_11_method_2_code 57 (.putfield 15) 3 60 := ⟨by decide +kernel, rfl⟩
theorem d_X9_append_60 : DD prog_11_method_2_code 60 (.aload_n 0) 1 61 := ⟨by decide +kernel, rfl⟩
theorem d_X9_append_61 : DD prog_11_method_2_code 61 (.getfield 15) 3 64 := ⟨by decide +kernel, rfl⟩
theorem d_X9_append_64 : DD prog_11_method_2_code 64 (.ireturn) 1 65 := ⟨by decide +kernel, rfl⟩
theorem d_X9_cut_0 : DD prog_11_method_3_code 0 (.iload_n 1) 1 1 := ⟨by decide +kernel, rfl⟩
theorem d_X9_cut_1 : DD prog_11_method_3_code 1 (.iconst 0) 1 2 := ⟨by decide +kernel, rfl⟩
theorem d_X9_cut_2 : DD prog_11_method_3_code 2 (.aload_n 0) 1 3 := ⟨by decide +kernel, rfl⟩
theorem d_X9_cut_3 : DD prog_11_method_3_code 3 (.getfield 15) 3 6 := ⟨by decide +kernel, rfl⟩
theorem d_X9_cut_6 : DD prog_11_method_3_code 6 (.invokestatic 19) 3 9 := ⟨by decide +kernel, rfl⟩
theorem d_X9_cut_9 : DJ prog_11_method_3_code 9 (fun o => .ifCond .ne o) 14 3 12 := ⟨by decide +kernel, rfl⟩
theorem d_X9_cut_12 : DD prog_11_method_3_code 12 (.iconst (-1)) 1 13 := ⟨by decide +kernel, rfl⟩
theorem d_X9_cut_13 : DD prog_11_method_3_code 13 (.ireturn) 1 14 := ⟨by decide +kernel, rfl⟩
theorem d_X9_cut_14 : DD prog_11_method_3_code 14 (.aload_n 0) 1 15 := ⟨by decide +kernel, rfl⟩
theorem d_X9_cut_15 : DD prog_11_method_3_code 15 (.getfield 15) 3 18 := ⟨by decide +kernel, rfl⟩
theorem d_X9_cut_18 : DD prog_11_method_3_code 18 (.istore_n 2) 1 19 := ⟨by decide +kernel, rfl⟩
theorem d_X9_cut_19 : DD prog_11_method_3_code 19 (.aload_n 0) 1 20 := ⟨by decide +kernel, rfl⟩
theorem d_X9_cut_20 : DD prog_11_method_3_code 20 (.iload_n 1) 1 21 := ⟨by decide +kernel, rfl⟩
theorem d_X9_cut_21 : DD prog_11_method_3_code 21 (.putfield 15) 3 24 := ⟨by decide +kernel, rfl⟩
theorem d_X9_cut_24 : DD prog_11_method_3_code 24 (.iload_n 2) 1 25 := ⟨by decide +kernel, rfl⟩
theorem d_X9_cut_25 : DD prog_11_method_3_code 25 (.ireturn) 1 26 := ⟨by decide +kernel, rfl⟩
theorem d_X9_refuse_0 : DD prog_11_method_5_code 0 (.aload_n 0) 1 1 := ⟨by decide +kernel, rfl⟩
theorem d_X9_refuse_1 : DD prog_11_method_5_code 1 (.iload_n 1) 1 2 := ⟨by decide +kernel, rfl⟩
theorem d_X9_refuse_2 : DD prog_11_method_5_code 2 (.putfield 26) 3 5 := ⟨by decide +kernel, rfl⟩
theorem d_X9_refuse_5 : DD prog_11_method_5_code 5 (.aload_n 0) 1 6 := ⟨by decide +kernel, rfl⟩
theorem d_X9_refuse_6 : DD prog_11_method_5_code 6 (.iload_n 2) 1 7 := ⟨by decide +kernel, rfl⟩
theorem d_X9_refuse_7 : DD prog_11_method_5_code 7 (.putfield 29) 3 10 := ⟨by decide +kernel, rfl⟩
theorem d_X9_refuse_10 : DD prog_11_method_5_code 10 (.iconst 0) 1 11 := ⟨by decide +kernel, rfl⟩
theorem d_X9_refuse_11 : DD prog_11_method_5_code 11 (.ireturn) 1 12 := ⟨by decide +kernel, rfl⟩
theorem d_X9_readToken_0 : DD prog_11_method_25_code 0 (.aload_n 0) 1 1 := ⟨by decide +kernel, rfl⟩
theorem d_X9_readToken_1 : DD prog_11_method_25_code 1 (.aload_n 0) 1 2 := ⟨by decide +kernel, rfl⟩
theorem d_X9_readToken_2 : DD prog_11_method_25_code 2 (.getfield 32) 3 5 := ⟨by decide +kernel, rfl⟩
theorem d_X9_readToken_5 : DD prog_11_method_25_code 5 (.putfield 127) 3 8 := ⟨by decide +kernel, rfl⟩
theorem d_X9_readToken_8 : DD prog_11_method_25_code 8 (.aload_n 0) 1 9 := ⟨by decide +kernel, rfl⟩
theorem d_X9_readToken_9 : DD prog_11_method_25_code 9 (.getfield 127) 3 12 := ⟨by decide +kernel, rfl⟩
theorem d_X9_readToken_12 : DD prog_11_method_25_code 12 (.aload_n 0) 1 13 := ⟨by decide +kernel, rfl⟩
theorem d_X9_readToken_13 : DD prog_11_method_25_code 13 (.getfield 15) 3 16 := ⟨by decide +kernel, rfl⟩
theorem d_X9_readToken_16 : DJ prog_11_method_25_code 16 (fun o => .if_icmp .ge o) 46 3 19 := ⟨by decide +kernel, rfl⟩
theorem d_X9_readToken_19 : DD prog_11_method_25_code 19 (.aload_n 0) 1 20 := ⟨by decide +kernel, rfl⟩
theorem d_X9_readToken_20 : DD prog_11_method_25_code 20 (.getfield 11) 3 23 := ⟨by decide +kernel, rfl⟩
theorem d_X9_readToken_23 : DD prog_11_method_25_code 23 (.aload_n 0) 1 24 := ⟨by decide +kernel, rfl⟩
theorem d_X9_readToken_24 : DD prog_11_method_25_code 24 (.getfield 127) 3 27 := ⟨by decide +kernel, rfl⟩
theorem d_X9_readToken_27 : DD prog_11_method_25_code 27 (.baload) 1 28 := ⟨by decide +kernel, rfl⟩
theorem d_X9_readToken_28 : DD prog_11_method_25_code 28 (.bipush 32) 2 30 := ⟨by decide +kernel, rfl⟩
theorem d_X9_readToken_30 : DJ prog_11_method_25_code 30 (fun o => .if_icmp .ne o) 46 3 33 := ⟨by decide +kernel, rfl⟩
theorem d_X9_readToken_33 : DD prog_11_method_25_code 33 (.aload_n 0) 1 34 := ⟨by decide +kernel, rfl⟩
theorem d_X9_readToken_34 : DD prog_11_method_25_code 34 (.dup) 1 35 := ⟨by decide +kernel, rfl⟩
theorem d_X9_readToken_35 : DD prog_11_method_25_code 35 (.getfield 127) 3 38 := ⟨by decide +kernel, rfl⟩
theorem d_X9_readToken_38 : DD prog_11_method_25_code 38 (.iconst 1) 1 39 := ⟨by decide +kernel, rfl⟩
theorem d_X9_readToken_39 : DD prog_11_method_25_code 39 (.iadd) 1 40 := ⟨by decide +kernel, rfl⟩
theorem d_X9_readToken_40 : DD prog_11_method_25_code 40 (.putfield 127) 3 43 := ⟨by decide +kernel, rfl⟩
theorem d_X9_readToken_43 : DJ prog_11_method_25_code 43 (fun o => .goto o) 8 3 46 := ⟨by decide +kernel, rfl⟩
theorem d_X9_readToken_46 : DD prog_11_method_25_code 46 (.aload_n 0) 1 47 := ⟨by decide +kernel, rfl⟩
theorem d_X9_readToken_47 : DD prog_11_method_25_code 47 (.aload_n 0) 1 48 := ⟨by decide +kernel, rfl⟩
theorem d_X9_readToken_48 : DD prog_11_method_25_code 48 (.getfield 127) 3 51 := ⟨by decide +kernel, rfl⟩
theorem d_X9_readToken_51 : DD prog_11_method_25_code 51 (.putfield 32) 3 54 := ⟨by decide +kernel, rfl⟩
theorem d_X9_readToken_54 : DD prog_11_method_25_code 54 (.aload_n 0) 1 55 := ⟨by decide +kernel, rfl⟩
theorem d_X9_readToken_55 : DD prog_11_method_25_code 55 (.getfield 127) 3 58 := ⟨by decide +kernel, rfl⟩
theorem d_X9_readToken_58 : DD prog_11_method_25_code 58 (.aload_n 0) 1 59 := ⟨by decide +kernel, rfl⟩
theorem d_X9_readToken_59 : DD prog_11_method_25_code 59 (.getfield 15) 3 62 := ⟨by decide +kernel, rfl⟩
theorem d_X9_readToken_62 : DJ prog_11_method_25_code 62 (fun o => .if_icmp .lt o) 72 3 65 := ⟨by decide +kernel, rfl⟩
theorem d_X9_readToken_65 : DD prog_11_method_25_code 65 (.aload_n 0) 1 66 := ⟨by decide +kernel, rfl⟩
theorem d_X9_readToken_66 : DD prog_11_method_25_code 66 (.iconst 0) 1 67 := ⟨by decide +kernel, rfl⟩
theorem d_X9_readToken_67 : DD prog_11_method_25_code 67 (.putfield 48) 3 70 := ⟨by decide +kernel, rfl⟩
theorem d_X9_readToken_70 : DD prog_11_method_25_code 70 (.iconst 1) 1 71 := ⟨by decide +kernel, rfl⟩
theorem d_X9_readToken_71 : DD prog_11_method_25_code 71 (.ireturn) 1 72 := ⟨by decide +kernel, rfl⟩
theorem d_X9_readToken_72 : DD prog_11_method_25_code 72 (.aload_n 0) 1 73 := ⟨by decide +kernel, rfl⟩
theorem d_X9_readToken_73 : DD prog_11_method_25_code 73 (.getfield 11) 3 76 := ⟨by decide +kernel, rfl⟩
theorem d_X9_readToken_76 : DD prog_11_method_25_code 76 (.aload_n 0) 1 77 := ⟨by decide +kernel, rfl⟩
theorem d_X9_readToken_77 : DD prog_11_method_25_code 77 (.getfield 127) 3 80 := ⟨by decide +kernel, rfl⟩
theorem d_X9_readToken_80 : DD prog_11_method_25_code 80 (.baload) 1 81 := ⟨by decide +kernel, rfl⟩
theorem d_X9_readToken_81 : DD prog_11_method_25_code 81 (.bipush 59) 2 83 := ⟨by decide +kernel, rfl⟩
theorem d_X9_readToken_83 : DJ prog_11_method_25_code 83 (fun o => .if_icmp .ne o) 103 3 86 := ⟨by decide +kernel, rfl⟩
theorem d_X9_readToken_86 : DD prog_11_method_25_code 86 (.aload_n 0) 1 87 := ⟨by decide +kernel, rfl⟩
theorem d_X9_readToken_87 : DD prog_11_method_25_code 87 (.iconst 3) 1 88 := ⟨by decide +kernel, rfl⟩
theorem d_X9_readToken_88 : DD prog_11_method_25_code 88 (.putfield 48) 3 91 := ⟨by decide +kernel, rfl⟩
theorem d_X9_readToken_91 : DD prog_11_method_25_code 91 (.aload_n 0) 1 92 := ⟨by decide +kernel, rfl⟩
theorem d_X9_readToken_92 : DD prog_11_method_25_code 92 (.aload_n 0) 1 93 := ⟨by decide +kernel, rfl⟩
theorem d_X9_readToken_93 : DD prog_11_method_25_code 93 (.getfield 127) 3 96 := ⟨by decide +kernel, rfl⟩
theorem d_X9_readToken_96 : DD prog_11_method_25_code 96 (.iconst 1) 1 97 := ⟨by decide +kernel, rfl⟩
theorem d_X9_readToken_97 : DD prog_11_method_25_code 97 (.iadd) 1 98 := ⟨by decide +kernel, rfl⟩
theorem d_X9_readToken_98 : DD prog_11_method_25_code 98 (.putfield 32) 3 101 := ⟨by decide +kernel, rfl⟩
theorem d_X9_readToken_101 : DD prog_11_method_25_code 101 (.iconst 1) 1 102 := ⟨by decide +kernel, rfl⟩
theorem d_X9_readToken_102 : DD prog_11_method_25_code 102 (.ireturn) 1 103 := ⟨by decide +kernel, rfl⟩
theorem d_X9_readToken_103 : DD prog_11_method_25_code 103 (.aload_n 0) 1 104 := ⟨by decide +kernel, rfl⟩
theorem d_X9_readToken_104 : DD prog_11_method_25_code 104 (.getfield 11) 3 107 := ⟨by decide +kernel, rfl⟩
theorem d_X9_readToken_107 : DD prog_11_method_25_code 107 (.aload_n 0) 1 108 := ⟨by decide +kernel, rfl⟩
theorem d_X9_readToken_108 : DD prog_11_method_25_code 108 (.getfield 127) 3 111 := ⟨by decide +kernel, rfl⟩
theorem d_X9_readToken_111 : DD prog_11_method_25_code 111 (.baload) 1 112 := ⟨by decide +kernel, rfl⟩
theorem d_X9_readToken_112 : DD prog_11_method_25_code 112 (.bipush 97) 2 114 := ⟨by decide +kernel, rfl⟩
theorem d_X9_readToken_114 : DD prog_11_method_25_code 114 (.bipush 122) 2 116 := ⟨by decide +kernel, rfl⟩
theorem d_X9_readToken_116 : DD prog_11_method_25_code 116 (.invokestatic 19) 3 119 := ⟨by decide +kernel, rfl⟩
theorem d_X9_readToken_119 : DD prog_11_method_25_code 119 (.istore_n 1) 1 120 := ⟨by decide +kernel, rfl⟩
theorem d_X9_readToken_120 : DD prog_11_method_25_code 120 (.iload_n 1) 1 121 := ⟨by decide +kernel, rfl⟩
theorem d_X9_readToken_121 : DJ prog_11_method_25_code 121 (fun o => .ifCond .eq o) 129 3 124 := ⟨by decide +kernel, rfl⟩
theorem d_X9_readToken_124 : DD prog_11_method_25_code 124 (.bipush 97) 2 126 := ⟨by decide +kernel, rfl⟩
theorem d_X9_readToken_126 : DJ prog_11_method_25_code 126 (fun o => .goto o) 131 3 129 := ⟨by decide +kernel, rfl⟩
theorem d_X9_readToken_129 : DD prog_11_method_25_code 129 (.bipush 48) 2 131 := ⟨by decide +kernel, rfl⟩
theorem d_X9_readToken_131 : DD prog_11_method_25_code 131 (.istore_n 2) 1 132 := ⟨by decide +kernel, rfl⟩
theorem d_X9_readToken_132 : DD prog_11_method_25_code 132 (.iload_n 1) 1 133 := ⟨by decide +kernel, rfl⟩
theorem d_X9_readToken_133 : DJ prog_11_method_25_code 133 (fun o => .ifCond .eq o) 141 3 136 := ⟨by decide +kernel, rfl⟩
theorem d_X9_readToken_136 : DD prog_11_method_25_code 136 (.bipush 122) 2 138 := ⟨by decide +kernel, rfl⟩
theorem d_X9_readToken_138 : DJ prog_11_method_25_code 138 (fun o => .goto o) 143 3 141 := ⟨by decide +kernel, rfl⟩
theorem d_X9_readToken_141 : DD prog_11_method_25_code 141 (.bipush 57) 2 143 := ⟨by decide +kernel, rfl⟩
theorem d_X9_readToken_143 : DD prog_11_method_25_code 143 (.istore_n 3) 1 144 := ⟨by decide +kernel, rfl⟩
theorem d_X9_readToken_144 : DD prog_11_method_25_code 144 (.aload_n 0) 1 145 := ⟨by decide +kernel, rfl⟩
theorem d_X9_readToken_145 : DD prog_11_method_25_code 145 (.getfield 32) 3 148 := ⟨by decide +kernel, rfl⟩
theorem d_X9_readToken_148 : DD prog_11_method_25_code 148 (.aload_n 0) 1 149 := ⟨by decide +kernel, rfl⟩
theorem d_X9_readToken_149 : DD prog_11_method_25_code 149 (.getfield 15) 3 152 := ⟨by decide +kernel, rfl⟩
theorem d_X9_readToken_152 : DJ prog_11_method_25_code 152 (fun o => .if_icmp .ge o) 194 3 155 := ⟨by decide +kernel, rfl⟩
theorem d_X9_readToken_155 : DD prog_11_method_25_code 155 (.aload_n 0) 1 156 := ⟨by decide +kernel, rfl⟩
theorem d_X9_readToken_156 : DD prog_11_method_25_code 156 (.getfield 11) 3 159 := ⟨by decide +kernel, rfl⟩
theorem d_X9_readToken_159 : DD prog_11_method_25_code 159 (.aload_n 0) 1 160 := ⟨by decide +kernel, rfl⟩
theorem d_X9_readToken_160 : DD prog_11_method_25_code 160 (.getfield 32) 3 163 := ⟨by decide +kernel, rfl⟩
theorem d_X9_readToken_163 : DD prog_11_method_25_code 163 (.baload) 1 164 := ⟨by decide +kernel, rfl⟩
theorem d_X9_readToken_164 : DD prog_11_method_25_code 164 (.iload_n 2) 1 165 := ⟨by decide +kernel, rfl⟩
theorem d_X9_readToken_165 : DJ prog_11_method_25_code 165 (fun o => .if_icmp .lt o) 194 3 168 := ⟨by decide +kernel, rfl⟩
theorem d_X9_readToken_168 : DD prog_11_method_25_code 168 (.aload_n 0) 1 169 := ⟨by decide +kernel, rfl⟩
theorem d_X9_readToken_169 : DD prog_11_method_25_code 169 (.getfield 11) 3 172 := ⟨by decide +kernel, rfl⟩
theorem d_X9_readToken_172 : DD prog_11_method_25_code 172 (.aload_n 0) 1 173 := ⟨by decide +kernel, rfl⟩
theorem d_X9_readToken_173 : DD prog_11_method_25_code 173 (.getfield 32) 3 176 := ⟨by decide +kernel, rfl⟩
theorem d_X9_readToken_176 : DD prog_11_method_25_code 176 (.baload) 1 177 := ⟨by decide +kernel, rfl⟩
theorem d_X9_readToken_177 : DD prog_11_method_25_code 177 (.iload_n 3) 1 178 := ⟨by decide +kernel, rfl⟩
theorem d_X9_readToken_178 : DJ prog_11_method_25_code 178 (fun o => .if_icmp .gt o) 194 3 181 := ⟨by decide +kernel, rfl⟩
theorem d_X9_readToken_181 : DD prog_11_method_25_code 181 (.aload_n 0) 1 182 := ⟨by decide +kernel, rfl⟩
theorem d_X9_readToken_182 : DD prog_11_method_25_code 182 (.dup) 1 183 := ⟨by decide +kernel, rfl⟩
theorem d_X9_readToken_183 : DD prog_11_method_25_code 183 (.getfield 32) 3 186 := ⟨by decide +kernel, rfl⟩
theorem d_X9_readToken_186 : DD prog_11_method_25_code 186 (.iconst 1) 1 187 := ⟨by decide +kernel, rfl⟩
theorem d_X9_readToken_187 : DD prog_11_method_25_code 187 (.iadd) 1 188 := ⟨by decide +kernel, rfl⟩
theorem d_X9_readToken_188 : DD prog_11_method_25_code 188 (.putfield 32) 3 191 := ⟨by decide +kernel, rfl⟩
theorem d_X9_readToken_191 : DJ prog_11_method_25_code 191 (fun o => .goto o) 144 3 194 := ⟨by decide +kernel, rfl⟩
theorem d_X9_readToken_194 : DD prog_11_method_25_code 194 (.aload_n 0) 1 195 := ⟨by decide +kernel, rfl⟩
theorem d_X9_readToken_195 : DD prog_11_method_25_code 195 (.iload_n 1) 1 196 := ⟨by decide +kernel, rfl⟩
theorem d_X9_readToken_196 : DJ prog_11_method_25_code 196 (fun o => .ifCond .eq o) 203 3 199 := ⟨by decide +kernel, rfl⟩
theorem d_X9_readToken_199 : DD prog_11_method_25_code 199 (.iconst 1) 1 200 := ⟨by decide +kernel, rfl⟩
theorem d_X9_readToken_200 : DJ prog_11_method_25_code 200 (fun o => .goto o) 204 3 203 := ⟨by decide +kernel, rfl⟩
theorem d_X9_readToken_203 : DD prog_11_method_25_code 203 (.iconst 2) 1 204 := ⟨by decide +kernel, rfl⟩
theorem d_X9_readToken_204 : DD prog_11_method_25_code 204 (.putfield 48) 3 207 := ⟨by decide +kernel, rfl⟩
theorem d_X9_readToken_207 : DD prog_11_method_25_code 207 (.aload_n 0) 1 208 := ⟨by decide +kernel, rfl⟩
theorem d_X9_readToken_208 : DD prog_11_method_25_code 208 (.iconst 0) 1 209 := ⟨by decide +kernel, rfl⟩
theorem d_X9_readToken_209 : DD prog_11_method_25_code 209 (.putfield 137) 3 212 := ⟨by decide +kernel, rfl⟩
theorem d_X9_readToken_212 : DD prog_11_method_25_code 212 (.aload_n 0) 1 213 := ⟨by decide +kernel, rfl⟩
theorem d_X9_readToken_213 : DD prog_11_method_25_code 213 (.getfield 127) 3 216 := ⟨by decide +kernel, rfl⟩
theorem d_X9_readToken_216 : DD prog_11_method_25_code 216 (.istore 4) 2 218 := ⟨by decide +kernel, rfl⟩
theorem d_X9_readToken_218 : DD prog_11_method_25_code 218 (.iload 4) 2 220 := ⟨by decide +kernel, rfl⟩
theorem d_X9_readToken_220 : DD prog_11_method_25_code 220 (.aload_n 0) 1 221 := ⟨by decide +kernel, rfl⟩
theorem d_X9_readToken_221 : DD prog_11_method_25_code 221 (.getfield 32) 3 224 := ⟨by decide +kernel, rfl⟩
theorem d_X9_readToken_224 : DJ prog_11_method_25_code 224 (fun o => .if_icmp .ge o) 259 3 227 := ⟨by decide +kernel, rfl⟩
theorem d_X9_readToken_227 : DD prog_11_method_25_code 227 (.iload_n 1) 1 228 := ⟨by decide +kernel, rfl⟩
theorem d_X9_readToken_228 : DJ prog_11_method_25_code 228 (fun o => .ifCond .ne o) 259 3 231 := ⟨by decide +kernel, rfl⟩
theorem d_X9_readToken_231 : DD prog_11_method_25_code 231 (.aload_n 0) 1 232 := ⟨by decide +kernel, rfl⟩
theorem d_X9_readToken_232 : DD prog_11_method_25_code 232 (.bipush 10) 2 234 := ⟨by decide +kernel, rfl⟩
theorem d_X9_readToken_234 : DD prog_11_method_25_code 234 (.aload_n 0) 1 235 := ⟨by decide +kernel, rfl⟩
theorem d_X9_readToken_235 : DD prog_11_method_25_code 235 (.getfield 137) 3 238 := ⟨by decide +kernel, rfl⟩
theorem d_X9_readToken_238 : DD prog_11_method_25_code 238 (.imul) 1 239 := ⟨by decide +kernel, rfl⟩
theorem d_X9_readToken_239 : DD prog_11_method_25_code 239 (.aload_n 0) 1 240 := ⟨by decide +kernel, rfl⟩
theorem d_X9_readToken_240 : DD prog_11_method_25_code 240 (.getfield 11) 3 243 := ⟨by decide +kernel, rfl⟩
theorem d_X9_readToken_243 : DD prog_11_method_25_code 243 (.iload 4) 2 245 := ⟨by decide +kernel, rfl⟩
theorem d_X9_readToken_245 : DD prog_11_method_25_code 245 (.baload) 1 246 := ⟨by decide +kernel, rfl⟩
theorem d_X9_readToken_246 : DD prog_11_method_25_code 246 (.iadd) 1 247 := ⟨by decide +kernel, rfl⟩
theorem d_X9_readToken_247 : DD prog_11_method_25_code 247 (.bipush 48) 2 249 := ⟨by decide +kernel, rfl⟩
theorem d_X9_readToken_249 : DD prog_11_method_25_code 249 (.isub) 1 250 := ⟨by decide +kernel, rfl⟩
theorem d_X9_readToken_250 : DD prog_11_method_25_code 250 (.putfield 137) 3 253 := ⟨by decide +kernel, rfl⟩
theorem d_X9_readToken_253 : DD prog_11_method_25_code 253 (.iinc 4 1) 3 256 := ⟨by decide +kernel, rfl⟩
theorem d_X9_readToken_256 : DJ prog_11_method_25_code 256 (fun o => .goto o) 218 3 259 := ⟨by decide +kernel, rfl⟩
theorem d_X9_readToken_259 : DD prog_11_method_25_code 259 (.iload_n 1) 1 260 := ⟨by decide +kernel, rfl⟩
theorem d_X9_readToken_260 : DJ prog_11_method_25_code 260 (fun o => .ifCond .ne o) 292 3 263 := ⟨by decide +kernel, rfl⟩
theorem d_X9_readToken_263 : DD prog_11_method_25_code 263 (.aload_n 0) 1 264 := ⟨by decide +kernel, rfl⟩
theorem d_X9_readToken_264 : DD prog_11_method_25_code 264 (.getfield 32) 3 267 := ⟨by decide +kernel, rfl⟩
theorem d_X9_readToken_267 : DD prog_11_method_25_code 267 (.aload_n 0) 1 268 := ⟨by decide +kernel, rfl⟩
theorem d_X9_readToken_268 : DD prog_11_method_25_code 268 (.getfield 127) 3 271 := ⟨by decide +kernel, rfl⟩
theorem d_X9_readToken_271 : DD prog_11_method_25_code 271 (.isub) 1 272 := ⟨by decide +kernel, rfl⟩
theorem d_X9_readToken_272 : DD prog_11_method_25_code 272 (.iconst 1) 1 273 := ⟨by decide +kernel, rfl⟩
theorem d_X9_readToken_273 : DD prog_11_method_25_code 273 (.iconst 3) 1 274 := ⟨by decide +kernel, rfl⟩
theorem d_X9_readToken_274 : DD prog_11_method_25_code 274 (.invokestatic 19) 3 277 := ⟨by decide +kernel, rfl⟩
theorem d_X9_readToken_277 : DJ prog_11_method_25_code 277 (fun o => .ifCond .ne o) 292 3 280 := ⟨by decide +kernel, rfl⟩
theorem d_X9_readToken_280 : DD prog_11_method_25_code 280 (.aload_n 0) 1 281 := ⟨by decide +kernel, rfl⟩
theorem d_X9_readToken_281 : DD prog_11_method_25_code 281 (.iconst 1) 1 282 := ⟨by decide +kernel, rfl⟩
theorem d_X9_readToken_282 : DD prog_11_method_25_code 282 (.aload_n 0) 1 283 := ⟨by decide +kernel, rfl⟩
theorem d_X9_readToken_283 : DD prog_11_method_25_code 283 (.getfield 127) 3 286 := ⟨by decide +kernel, rfl⟩
theorem d_X9_readToken_286 : DD prog_11_method_25_code 286 (.invokevirtual 60) 3 289 := ⟨by decide +kernel, rfl⟩
theorem d_X9_readToken_289 : DJ prog_11_method_25_code 289 (fun o => .ifCond .eq o) 296 3 292 := ⟨by decide +kernel, rfl⟩
theorem d_X9_readToken_292 : DD prog_11_method_25_code 292 (.iconst 1) 1 293 := ⟨by decide +kernel, rfl⟩
theorem d_X9_readToken_293 : DJ prog_11_method_25_code 293 (fun o => .goto o) 297 3 296 := ⟨by decide +kernel, rfl⟩
theorem d_X9_readToken_296 : DD prog_11_method_25_code 296 (.iconst 0) 1 297 := ⟨by decide +kernel, rfl⟩
theorem d_X9_readToken_297 : DD prog_11_method_25_code 297 (.ireturn) 1 298 := ⟨by decide +kernel, rfl⟩
theorem d_X9_isNamed_0 : DD prog_11_method_24_code 0 (.aload_n 0) 1 1 := ⟨by decide +kernel, rfl⟩
theorem d_X9_isNamed_1 : DD prog_11_method_24_code 1 (.getfield 48) 3 4 := ⟨by decide +kernel, rfl⟩
theorem d_X9_isNamed_4 : DD prog_11_method_24_code 4 (.iconst 1) 1 5 := ⟨by decide +kernel, rfl⟩
theorem d_X9_isNamed_5 : DJ prog_11_method_24_code 5 (fun o => .if_icmp .ne o) 24 3 8 := ⟨by decide +kernel, rfl⟩
theorem d_X9_isNamed_8 : DD prog_11_method_24_code 8 (.aload_n 0) 1 9 := ⟨by decide +kernel, rfl⟩
theorem d_X9_isNamed_9 : DD prog_11_method_24_code 9 (.getfield 32) 3 12 := ⟨by decide +kernel, rfl⟩
theorem d_X9_isNamed_12 : DD prog_11_method_24_code 12 (.aload_n 0) 1 13 := ⟨by decide +kernel, rfl⟩
theorem d_X9_isNamed_13 : DD prog_11_method_24_code 13 (.getfield 127) 3 16 := ⟨by decide +kernel, rfl⟩
theorem d_X9_isNamed_16 : DD prog_11_method_24_code 16 (.isub) 1 17 := ⟨by decide +kernel, rfl⟩
theorem d_X9_isNamed_17 : DD prog_11_method_24_code 17 (.aload_n 1) 1 18 := ⟨by decide +kernel, rfl⟩
theorem d_X9_isNamed_18 : DD prog_11_method_24_code 18 (.invokevirtual 237) 3 21 := ⟨by decide +kernel, rfl⟩
theorem d_X9_isNamed_21 : DJ prog_11_method_24_code 21 (fun o => .if_icmp .eq o) 26 3 24 := ⟨by decide +kernel, rfl⟩
theorem d_X9_isNamed_24 : DD prog_11_method_24_code 24 (.iconst 0) 1 25 := ⟨by decide +kernel, rfl⟩
theorem d_X9_isNamed_25 : DD prog_11_method_24_code 25 (.ireturn) 1 26 := ⟨by decide +kernel, rfl⟩
theorem d_X9_isNamed_26 : DD prog_11_method_24_code 26 (.iconst 0) 1 27 := ⟨by decide +kernel, rfl⟩
theorem d_X9_isNamed_27 : DD prog_11_method_24_code 27 (.istore_n 2) 1 28 := ⟨by decide +kernel, rfl⟩
theorem d_X9_isNamed_28 : DD prog_11_method_24_code 28 (.iload_n 2) 1 29 := ⟨by decide +kernel, rfl⟩
theorem d_X9_isNamed_29 : DD prog_11_method_24_code 29 (.aload_n 1) 1 30 := ⟨by decide +kernel, rfl⟩
theorem d_X9_isNamed_30 : DD prog_11_method_24_code 30 (.invokevirtual 237) 3 33 := ⟨by decide +kernel, rfl⟩
theorem d_X9_isNamed_33 : DJ prog_11_method_24_code 33 (fun o => .if_icmp .ge o) 63 3 36 := ⟨by decide +kernel, rfl⟩
theorem d_X9_isNamed_36 : DD prog_11_method_24_code 36 (.aload_n 0) 1 37 := ⟨by decide +kernel, rfl⟩
theorem d_X9_isNamed_37 : DD prog_11_method_24_code 37 (.getfield 11) 3 40 := ⟨by decide +kernel, rfl⟩
theorem d_X9_isNamed_40 : DD prog_11_method_24_code 40 (.aload_n 0) 1 41 := ⟨by decide +kernel, rfl⟩
theorem d_X9_isNamed_41 : DD prog_11_method_24_code 41 (.getfield 127) 3 44 := ⟨by decide +kernel, rfl⟩
theorem d_X9_isNamed_44 : DD prog_11_method_24_code 44 (.iload_n 2) 1 45 := ⟨by decide +kernel, rfl⟩
theorem d_X9_isNamed_45 : DD prog_11_method_24_code 45 (.iadd) 1 46 := ⟨by decide +kernel, rfl⟩
theorem d_X9_isNamed_46 : DD prog_11_method_24_code 46 (.baload) 1 47 := ⟨by decide +kernel, rfl⟩
theorem d_X9_isNamed_47 : DD prog_11_method_24_code 47 (.aload_n 1) 1 48 := ⟨by decide +kernel, rfl⟩
theorem d_X9_isNamed_48 : DD prog_11_method_24_code 48 (.iload_n 2) 1 49 := ⟨by decide +kernel, rfl⟩
theorem d_X9_isNamed_49 : DD prog_11_method_24_code 49 (.invokevirtual 242) 3 52 := ⟨by decide +kernel, rfl⟩
theorem d_X9_isNamed_52 : DJ prog_11_method_24_code 52 (fun o => .if_icmp .eq o) 57 3 55 := ⟨by decide +kernel, rfl⟩
theorem d_X9_isNamed_55 : DD prog_11_method_24_code 55 (.iconst 0) 1 56 := ⟨by decide +kernel, rfl⟩
theorem d_X9_isNamed_56 : DD prog_11_method_24_code 56 (.ireturn) 1 57 := ⟨by decide +kernel, rfl⟩
theorem d_X9_isNamed_57 : DD prog_11_method_24_code 57 (.iinc 2 1) 3 60 := ⟨by decide +kernel, rfl⟩
theorem d_X9_isNamed_60 : DJ prog_11_method_24_code 60 (fun o => .goto o) 28 3 63 := ⟨by decide +kernel, rfl⟩
theorem d_X9_isNamed_63 : DD prog_11_method_24_code 63 (.iconst 1) 1 64 := ⟨by decide +kernel, rfl⟩
theorem d_X9_isNamed_64 : DD prog_11_method_24_code 64 (.ireturn) 1 65 := ⟨by decide +kernel, rfl⟩
theorem d_X9_isFirst_0 : DD prog_11_method_21_code 0 (.aload_n 0) 1 1 := ⟨by decide +kernel, rfl⟩
theorem d_X9_isFirst_1 : DD prog_11_method_21_code 1 (.getfield 35) 3 4 := ⟨by decide +kernel, rfl⟩
theorem d_X9_isFirst_4 : DD prog_11_method_21_code 4 (.iload_n 1) 1 5 := ⟨by decide +kernel, rfl⟩
theorem d_X9_isFirst_5 : DD prog_11_method_21_code 5 (.iand) 1 6 := ⟨by decide +kernel, rfl⟩
theorem d_X9_isFirst_6 : DJ prog_11_method_21_code 6 (fun o => .ifCond .eq o) 19 3 9 := ⟨by decide +kernel, rfl⟩
theorem d_X9_isFirst_9 : DD prog_11_method_21_code 9 (.aload_n 0) 1 10 := ⟨by decide +kernel, rfl⟩
theorem d_X9_isFirst_10 : DD prog_11_method_21_code 10 (.iconst 4) 1 11 := ⟨by decide +kernel, rfl⟩
theorem d_X9_isFirst_11 : DD prog_11_method_21_code 11 (.aload_n 0) 1 12 := ⟨by decide +kernel, rfl⟩
theorem d_X9_isFirst_12 : DD prog_11_method_21_code 12 (.getfield 127) 3 15 := ⟨by decide +kernel, rfl⟩
theorem d_X9_isFirst_15 : DD prog_11_method_21_code 15 (.invokevirtual 60) 3 18 := ⟨by decide +kernel, rfl⟩
theorem d_X9_isFirst_18 : DD prog_11_method_21_code 18 (.ireturn) 1 19 := ⟨by decide +kernel, rfl⟩
theorem d_X9_isFirst_19 : DD prog_11_method_21_code 19 (.aload_n 0) 1 20 := ⟨by decide +kernel, rfl⟩
theorem d_X9_isFirst_20 : DD prog_11_method_21_code 20 (.dup) 1 21 := ⟨by decide +kernel, rfl⟩
theorem d_X9_isFirst_21 : DD prog_11_method_21_code 21 (.getfield 35) 3 24 := ⟨by decide +kernel, rfl⟩
theorem d_X9_isFirst_24 : DD prog_11_method_21_code 24 (.iload_n 1) 1 25 := ⟨by decide +kernel, rfl⟩
theorem d_X9_isFirst_25 : DD prog_11_method_21_code 25 (.ior) 1 26 := ⟨by decide +kernel, rfl⟩
theorem d_X9_isFirst_26 : DD prog_11_method_21_code 26 (.putfield 35) 3 29 := ⟨by decide +kernel, rfl⟩
theorem d_X9_isFirst_29 : DD prog_11_method_21_code 29 (.iconst 1) 1 30 := ⟨by decide +kernel, rfl⟩
theorem d_X9_isFirst_30 : DD prog_11_method_21_code 30 (.ireturn) 1 31 := ⟨by decide +kernel, rfl⟩
theorem d_X9_isNumber_0 : DD prog_11_method_22_code 0 (.aload_n 0) 1 1 := ⟨by decide +kernel, rfl⟩
theorem d_X9_isNumber_1 : DD prog_11_method_22_code 1 (.getfield 48) 3 4 := ⟨by decide +kernel, rfl⟩
theorem d_X9_isNumber_4 : DD prog_11_method_22_code 4 (.iconst 2) 1 5 := ⟨by decide +kernel, rfl⟩
theorem d_X9_isNumber_5 : DJ prog_11_method_22_code 5 (fun o => .if_icmp .eq o) 18 3 8 := ⟨by decide +kernel, rfl⟩
theorem d_X9_isNumber_8 : DD prog_11_method_22_code 8 (.aload_n 0) 1 9 := ⟨by decide +kernel, rfl⟩
theorem d_X9_isNumber_9 : DD prog_11_method_22_code 9 (.iconst 2) 1 10 := ⟨by decide +kernel, rfl⟩
theorem d_X9_isNumber_10 : DD prog_11_method_22_code 10 (.aload_n 0) 1 11 := ⟨by decide +kernel, rfl⟩
theorem d_X9_isNumber_11 : DD prog_11_method_22_code 11 (.getfield 127) 3 14 := ⟨by decide +kernel, rfl⟩
theorem d_X9_isNumber_14 : DD prog_11_method_22_code 14 (.invokevirtual 60) 3 17 := ⟨by decide +kernel, rfl⟩
theorem d_X9_isNumber_17 : DD prog_11_method_22_code 17 (.ireturn) 1 18 := ⟨by decide +kernel, rfl⟩
theorem d_X9_isNumber_18 : DD prog_11_method_22_code 18 (.aload_n 0) 1 19 := ⟨by decide +kernel, rfl⟩
theorem d_X9_isNumber_19 : DD prog_11_method_22_code 19 (.getfield 137) 3 22 := ⟨by decide +kernel, rfl⟩
theorem d_X9_isNumber_22 : DD prog_11_method_22_code 22 (.iload_n 1) 1 23 := ⟨by decide +kernel, rfl⟩
theorem d_X9_isNumber_23 : DD prog_11_method_22_code 23 (.iload_n 2) 1 24 := ⟨by decide +kernel, rfl⟩
theorem d_X9_isNumber_24 : DD prog_11_method_22_code 24 (.invokestatic 19) 3 27 := ⟨by decide +kernel, rfl⟩
theorem d_X9_isNumber_27 : DJ prog_11_method_22_code 27 (fun o => .ifCond .ne o) 42 3 30 := ⟨by decide +kernel, rfl⟩
theorem d_X9_isNumber_30 : DD prog_11_method_22_code 30 (.aload_n 0) 1 31 := ⟨by decide +kernel, rfl⟩
theorem d_X9_isNumber_31 : DD prog_11_method_22_code 31 (.iconst 3) 1 32 := ⟨by decide +kernel, rfl⟩
theorem d_X9_isNumber_32 : DD prog_11_method_22_code 32 (.aload_n 0) 1 33 := ⟨by decide +kernel, rfl⟩
theorem d_X9_isNumber_33 : DD prog_11_method_22_code 33 (.getfield 127) 3 36 := ⟨by decide +kernel, rfl⟩
theorem d_X9_isNumber_36 : DD prog_11_method_22_code 36 (.invokevirtual 60) 3 39 := ⟨by decide +kernel, rfl⟩
theorem d_X9_isNumber_39 : DJ prog_11_method_22_code 39 (fun o => .ifCond .eq o) 46 3 42 := ⟨by decide +kernel, rfl⟩
theorem d_X9_isNumber_42 : DD prog_11_method_22_code 42 (.iconst 1) 1 43 := ⟨by decide +kernel, rfl⟩
theorem d_X9_isNumber_43 : DJ prog_11_method_22_code 43 (fun o => .goto o) 47 3 46 := ⟨by decide +kernel, rfl⟩
theorem d_X9_isNumber_46 : DD prog_11_method_22_code 46 (.iconst 0) 1 47 := ⟨by decide +kernel, rfl⟩
theorem d_X9_isNumber_47 : DD prog_11_method_22_code 47 (.ireturn) 1 48 := ⟨by decide +kernel, rfl⟩
theorem d_X9_readNumber_0 : DD prog_11_method_19_code 0 (.aload_n 0) 1 1 := ⟨by decide +kernel, rfl⟩
theorem d_X9_readNumber_1 : DD prog_11_method_19_code 1 (.invokevirtual 44) 3 4 := ⟨by decide +kernel, rfl⟩
theorem d_X9_readNumber_4 : DJ prog_11_method_19_code 4 (fun o => .ifCond .eq o) 20 3 7 := ⟨by decide +kernel, rfl⟩
theorem d_X9_readNumber_7 : DD prog_11_method_19_code 7 (.aload_n 0) 1 8 := ⟨by decide +kernel, rfl⟩
theorem d_X9_readNumber_8 : DD prog_11_method_19_code 8 (.iload_n 1) 1 9 := ⟨by decide +kernel, rfl⟩
theorem d_X9_readNumber_9 : DD prog_11_method_19_code 9 (.iload_n 2) 1 10 := ⟨by decide +kernel, rfl⟩
theorem d_X9_readNumber_10 : DD prog_11_method_19_code 10 (.invokevirtual 143) 3 13 := ⟨by decide +kernel, rfl⟩
theorem d_X9_readNumber_13 : DJ prog_11_method_19_code 13 (fun o => .ifCond .eq o) 20 3 16 := ⟨by decide +kernel, rfl⟩
theorem d_X9_readNumber_16 : DD prog_11_method_19_code 16 (.iconst 1) 1 17 := ⟨by decide +kernel, rfl⟩
theorem d_X9_readNumber_17 : DJ prog_11_method_19_code 17 (fun o => .goto o) 21 3 20 := ⟨by decide +kernel, rfl⟩
theorem d_X9_readNumber_20 : DD prog_11_method_19_code 20 (.iconst 0) 1 21 := ⟨by decide +kernel, rfl⟩
theorem d_X9_readNumber_21 : DD prog_11_method_19_code 21 (.ireturn) 1 22 := ⟨by decide +kernel, rfl⟩
theorem d_X9_isSemicolon_0 : DD prog_11_method_23_code 0 (.aload_n 0) 1 1 := ⟨by decide +kernel, rfl⟩
theorem d_X9_isSemicolon_1 : DD prog_11_method_23_code 1 (.getfield 48) 3 4 := ⟨by decide +kernel, rfl⟩
theorem d_X9_isSemicolon_4 : DD prog_11_method_23_code 4 (.iconst 3) 1 5 := ⟨by decide +kernel, rfl⟩
theorem d_X9_isSemicolon_5 : DJ prog_11_method_23_code 5 (fun o => .if_icmp .eq o) 20 3 8 := ⟨by decide +kernel, rfl⟩
theorem d_X9_isSemicolon_8 : DD prog_11_method_23_code 8 (.aload_n 0) 1 9 := ⟨by decide +kernel, rfl⟩
theorem d_X9_isSemicolon_9 : DD prog_11_method_23_code 9 (.iconst 2) 1 10 := ⟨by decide +kernel, rfl⟩
theorem d_X9_isSemicolon_10 : DD prog_11_method_23_code 10 (.aload_n 0) 1 11 := ⟨by decide +kernel, rfl⟩
theorem d_X9_isSemicolon_11 : DD prog_11_method_23_code 11 (.getfield 127) 3 14 := ⟨by decide +kernel, rfl⟩
theorem d_X9_isSemicolon_14 : DD prog_11_method_23_code 14 (.invokevirtual 60) 3 17 := ⟨by decide +kernel, rfl⟩
theorem d_X9_isSemicolon_17 : DJ prog_11_method_23_code 17 (fun o => .ifCond .eq o) 24 3 20 := ⟨by decide +kernel, rfl⟩
theorem d_X9_isSemicolon_20 : DD prog_11_method_23_code 20 (.iconst 1) 1 21 := ⟨by decide +kernel, rfl⟩
theorem d_X9_isSemicolon_21 : DJ prog_11_method_23_code 21 (fun o => .goto o) 25 3 24 := ⟨by decide +kernel, rfl⟩
theorem d_X9_isSemicolon_24 : DD prog_11_method_23_code 24 (.iconst 0) 1 25 := ⟨by decide +kernel, rfl⟩
theorem d_X9_isSemicolon_25 : DD prog_11_method_23_code 25 (.ireturn) 1 26 := ⟨by decide +kernel, rfl⟩
theorem d_X9_readSemicolon_0 : DD prog_11_method_20_code 0 (.aload_n 0) 1 1 := ⟨by decide +kernel, rfl⟩
theorem d_X9_readSemicolon_1 : DD prog_11_method_20_code 1 (.invokevirtual 44) 3 4 := ⟨by decide +kernel, rfl⟩
theorem d_X9_readSemicolon_4 : DJ prog_11_method_20_code 4 (fun o => .ifCond .eq o) 18 3 7 := ⟨by decide +kernel, rfl⟩
theorem d_X9_readSemicolon_7 : DD prog_11_method_20_code 7 (.aload_n 0) 1 8 := ⟨by decide +kernel, rfl⟩
theorem d_X9_readSemicolon_8 : DD prog_11_method_20_code 8 (.invokevirtual 146) 3 11 := ⟨by decide +kernel, rfl⟩
theorem d_X9_readSemicolon_11 : DJ prog_11_method_20_code 11 (fun o => .ifCond .eq o) 18 3 14 := ⟨by decide +kernel, rfl⟩
theorem d_X9_readSemicolon_14 : DD prog_11_method_20_code 14 (.iconst 1) 1 15 := ⟨by decide +kernel, rfl⟩
theorem d_X9_readSemicolon_15 : DJ prog_11_method_20_code 15 (fun o => .goto o) 19 3 18 := ⟨by decide +kernel, rfl⟩
theorem d_X9_readSemicolon_18 : DD prog_11_method_20_code 18 (.iconst 0) 1 19 := ⟨by decide +kernel, rfl⟩
theorem d_X9_readSemicolon_19 : DD prog_11_method_20_code 19 (.ireturn) 1 20 := ⟨by decide +kernel, rfl⟩
theorem d_X9_readFurlongs_0 : DD prog_11_method_7_code 0 (.aload_n 0) 1 1 := ⟨by decide +kernel, rfl⟩
theorem d_X9_readFurlongs_1 : DD prog_11_method_7_code 1 (.iconst 1) 1 2 := ⟨by decide +kernel, rfl⟩
theorem d_X9_readFurlongs_2 : DD prog_11_method_7_code 2 (.invokevirtual 130) 3 5 := ⟨by decide +kernel, rfl⟩
theorem d_X9_readFurlongs_5 : DJ prog_11_method_7_code 5 (fun o => .ifCond .eq o) 18 3 8 := ⟨by decide +kernel, rfl⟩
theorem d_X9_readFurlongs_8 : DD prog_11_method_7_code 8 (.aload_n 0) 1 9 := ⟨by decide +kernel, rfl⟩
theorem d_X9_readFurlongs_9 : DD prog_11_method_7_code 9 (.iconst 1) 1 10 := ⟨by decide +kernel, rfl⟩
theorem d_X9_readFurlongs_10 : DD prog_11_method_7_code 10 (.bipush 10) 2 12 := ⟨by decide +kernel, rfl⟩
theorem d_X9_readFurlongs_12 : DD prog_11_method_7_code 12 (.invokevirtual 134) 3 15 := ⟨by decide +kernel, rfl⟩
theorem d_X9_readFurlongs_15 : DJ prog_11_method_7_code 15 (fun o => .ifCond .ne o) 20 3 18 := ⟨by decide +kernel, rfl⟩
theorem d_X9_readFurlongs_18 : DD prog_11_method_7_code 18 (.iconst 0) 1 19 := ⟨by decide +kernel, rfl⟩
theorem d_X9_readFurlongs_19 : DD prog_11_method_7_code 19 (.ireturn) 1 20 := ⟨by decide +kernel, rfl⟩
theorem d_X9_readFurlongs_20 : DD prog_11_method_7_code 20 (.aload_n 1) 1 21 := ⟨by decide +kernel, rfl⟩
theorem d_X9_readFurlongs_21 : DD prog_11_method_7_code 21 (.aload_n 0) 1 22 := ⟨by decide +kernel, rfl⟩
theorem d_X9_readFurlongs_22 : DD prog_11_method_7_code 22 (.getfield 137) 3 25 := ⟨by decide +kernel, rfl⟩
theorem d_X9_readFurlongs_25 : DD prog_11_method_7_code 25 (.putfield 55) 3 28 := ⟨by decide +kernel, rfl⟩
theorem d_X9_readFurlongs_28 : DD prog_11_method_7_code 28 (.aload_n 0) 1 29 := ⟨by decide +kernel, rfl⟩
theorem d_X9_readFurlongs_29 : DD prog_11_method_7_code 29 (.invokevirtual 140) 3 32 := ⟨by decide +kernel, rfl⟩
theorem d_X9_readFurlongs_32 : DD prog_11_method_7_code 32 (.ireturn) 1 33 := ⟨by decide +kernel, rfl⟩
theorem d_X9_readHours_0 : DD prog_11_method_8_code 0 (.aload_n 0) 1 1 := ⟨by decide +kernel, rfl⟩
theorem d_X9_readHours_1 : DD prog_11_method_8_code 1 (.iload_n 1) 1 2 := ⟨by decide +kernel, rfl⟩
theorem d_X9_readHours_2 : DD prog_11_method_8_code 2 (.invokevirtual 130) 3 5 := ⟨by decide +kernel, rfl⟩
theorem d_X9_readHours_5 : DJ prog_11_method_8_code 5 (fun o => .ifCond .eq o) 17 3 8 := ⟨by decide +kernel, rfl⟩
theorem d_X9_readHours_8 : DD prog_11_method_8_code 8 (.aload_n 0) 1 9 := ⟨by decide +kernel, rfl⟩
theorem d_X9_readHours_9 : DD prog_11_method_8_code 9 (.iconst 0) 1 10 := ⟨by decide +kernel, rfl⟩
theorem d_X9_readHours_10 : DD prog_11_method_8_code 10 (.iload_n 3) 1 11 := ⟨by decide +kernel, rfl⟩
theorem d_X9_readHours_11 : DD prog_11_method_8_code 11 (.invokevirtual 134) 3 14 := ⟨by decide +kernel, rfl⟩
theorem d_X9_readHours_14 : DJ prog_11_method_8_code 14 (fun o => .ifCond .ne o) 19 3 17 := ⟨by decide +kernel, rfl⟩
theorem d_X9_readHours_17 : DD prog_11_method_8_code 17 (.iconst 0) 1 18 := ⟨by decide +kernel, rfl⟩
theorem d_X9_readHours_18 : DD prog_11_method_8_code 18 (.ireturn) 1 19 := ⟨by decide +kernel, rfl⟩
theorem d_X9_readHours_19 : DD prog_11_method_8_code 19 (.aload_n 2) 1 20 := ⟨by decide +kernel, rfl⟩
theorem d_X9_readHours_20 : DD prog_11_method_8_code 20 (.iconst 0) 1 21 := ⟨by decide +kernel, rfl⟩
theorem d_X9_readHours_21 : DD prog_11_method_8_code 21 (.aload_n 0) 1 22 := ⟨by decide +kernel, rfl⟩
theorem d_X9_readHours_22 : DD prog_11_method_8_code 22 (.getfield 137) 3 25 := ⟨by decide +kernel, rfl⟩
theorem d_X9_readHours_25 : DD prog_11_method_8_code 25 (.iastore) 1 26 := ⟨by decide +kernel, rfl⟩
theorem d_X9_readHours_26 : DD prog_11_method_8_code 26 (.iconst 1) 1 27 := ⟨by decide +kernel, rfl⟩
theorem d_X9_readHours_27 : DD prog_11_method_8_code 27 (.istore 4) 2 29 := ⟨by decide +kernel, rfl⟩
theorem d_X9_readHours_29 : DD prog_11_method_8_code 29 (.iload 4) 2 31 := ⟨by decide +kernel, rfl⟩
theorem d_X9_readHours_31 : DD prog_11_method_8_code 31 (.bipush 12) 2 33 := ⟨by decide +kernel, rfl⟩
theorem d_X9_readHours_33 : DJ prog_11_method_8_code 33 (fun o => .if_icmp .ge o) 80 3 36 := ⟨by decide +kernel, rfl⟩
theorem d_X9_readHours_36 : DD prog_11_method_8_code 36 (.aload_n 0) 1 37 := ⟨by decide +kernel, rfl⟩
theorem d_X9_readHours_37 : DD prog_11_method_8_code 37 (.invokevirtual 44) 3 40 := ⟨by decide +kernel, rfl⟩
theorem d_X9_readHours_40 : DJ prog_11_method_8_code 40 (fun o => .ifCond .ne o) 45 3 43 := ⟨by decide +kernel, rfl⟩
theorem d_X9_readHours_43 : DD prog_11_method_8_code 43 (.iconst 0) 1 44 := ⟨by decide +kernel, rfl⟩
theorem d_X9_readHours_44 : DD prog_11_method_8_code 44 (.ireturn) 1 45 := ⟨by decide +kernel, rfl⟩
theorem d_X9_readHours_45 : DD prog_11_method_8_code 45 (.aload_n 0) 1 46 := ⟨by decide +kernel, rfl⟩
theorem d_X9_readHours_46 : DD prog_11_method_8_code 46 (.getfield 48) 3 49 := ⟨by decide +kernel, rfl⟩
theorem d_X9_readHours_49 : DD prog_11_method_8_code 49 (.iconst 3) 1 50 := ⟨by decide +kernel, rfl⟩
theorem d_X9_readHours_50 : DJ prog_11_method_8_code 50 (fun o => .if_icmp .ne o) 55 3 53 := ⟨by decide +kernel, rfl⟩
theorem d_X9_readHours_53 : DD prog_11_method_8_code 53 (.iconst 1) 1 54 := ⟨by decide +kernel, rfl⟩
theorem d_X9_readHours_54 : DD prog_11_method_8_code 54 (.ireturn) 1 55 := ⟨by decide +kernel, rfl⟩
theorem d_X9_readHours_55 : DD prog_11_method_8_code 55 (.aload_n 0) 1 56 := ⟨by decide +kernel, rfl⟩
theorem d_X9_readHours_56 : DD prog_11_method_8_code 56 (.iconst 0) 1 57 := ⟨by decide +kernel, rfl⟩
theorem d_X9_readHours_57 : DD prog_11_method_8_code 57 (.iload_n 3) 1 58 := ⟨by decide +kernel, rfl⟩
theorem d_X9_readHours_58 : DD prog_11_method_8_code 58 (.invokevirtual 143) 3 61 := ⟨by decide +kernel, rfl⟩
theorem d_X9_readHours_61 : DJ prog_11_method_8_code 61 (fun o => .ifCond .ne o) 66 3 64 := ⟨by decide +kernel, rfl⟩
theorem d_X9_readHours_64 : DD prog_11_method_8_code 64 (.iconst 0) 1 65 := ⟨by decide +kernel, rfl⟩
theorem d_X9_readHours_65 : DD prog_11_method_8_code 65 (.ireturn) 1 66 := ⟨by decide +kernel, rfl⟩
theorem d_X9_readHours_66 : DD prog_11_method_8_code 66 (.aload_n 2) 1 67 := ⟨by decide +kernel, rfl⟩
theorem d_X9_readHours_67 : DD prog_11_method_8_code 67 (.iload 4) 2 69 := ⟨by decide +kernel, rfl⟩
theorem d_X9_readHours_69 : DD prog_11_method_8_code 69 (.aload_n 0) 1 70 := ⟨by decide +kernel, rfl⟩
theorem d_X9_readHours_70 : DD prog_11_method_8_code 70 (.getfield 137) 3 73 := ⟨by decide +kernel, rfl⟩
theorem d_X9_readHours_73 : DD prog_11_method_8_code 73 (.iastore) 1 74 := ⟨by decide +kernel, rfl⟩
theorem d_X9_readHours_74 : DD prog_11_method_8_code 74 (.iinc 4 1) 3 77 := ⟨by decide +kernel, rfl⟩
theorem d_X9_readHours_77 : DJ prog_11_method_8_code 77 (fun o => .goto o) 29 3 80 := ⟨by decide +kernel, rfl⟩
theorem d_X9_readHours_80 : DD prog_11_method_8_code 80 (.aload_n 0) 1 81 := ⟨by decide +kernel, rfl⟩
theorem d_X9_readHours_81 : DD prog_11_method_8_code 81 (.invokevirtual 44) 3 84 := ⟨by decide +kernel, rfl⟩
theorem d_X9_readHours_84 : DJ prog_11_method_8_code 84 (fun o => .ifCond .ne o) 89 3 87 := ⟨by decide +kernel, rfl⟩
theorem d_X9_readHours_87 : DD prog_11_method_8_code 87 (.iconst 0) 1 88 := ⟨by decide +kernel, rfl⟩
theorem d_X9_readHours_88 : DD prog_11_method_8_code 88 (.ireturn) 1 89 := ⟨by decide +kernel, rfl⟩
theorem d_X9_readHours_89 : DD prog_11_method_8_code 89 (.aload_n 0) 1 90 := ⟨by decide +kernel, rfl⟩
theorem d_X9_readHours_90 : DD prog_11_method_8_code 90 (.getfield 48) 3 93 := ⟨by decide +kernel, rfl⟩
theorem d_X9_readHours_93 : DD prog_11_method_8_code 93 (.iconst 2) 1 94 := ⟨by decide +kernel, rfl⟩
theorem d_X9_readHours_94 : DJ prog_11_method_8_code 94 (fun o => .if_icmp .ne o) 109 3 97 := ⟨by decide +kernel, rfl⟩
theorem d_X9_readHours_97 : DD prog_11_method_8_code 97 (.aload_n 0) 1 98 := ⟨by decide +kernel, rfl⟩
theorem d_X9_readHours_98 : DD prog_11_method_8_code 98 (.iconst 5) 1 99 := ⟨by decide +kernel, rfl⟩
theorem d_X9_readHours_99 : DD prog_11_method_8_code 99 (.aload_n 0) 1 100 := ⟨by decide +kernel, rfl⟩
theorem d_X9_readHours_100 : DD prog_11_method_8_code 100 (.getfield 127) 3 103 := ⟨by decide +kernel, rfl⟩
theorem d_X9_readHours_103 : DD prog_11_method_8_code 103 (.invokevirtual 60) 3 106 := ⟨by decide +kernel, rfl⟩
theorem d_X9_readHours_106 : DJ prog_11_method_8_code 106 (fun o => .goto o) 113 3 109 := ⟨by decide +kernel, rfl⟩
theorem d_X9_readHours_109 : DD prog_11_method_8_code 109 (.aload_n 0) 1 110 := ⟨by decide +kernel, rfl⟩
theorem d_X9_readHours_110 : DD prog_11_method_8_code 110 (.invokevirtual 146) 3 113 := ⟨by decide +kernel, rfl⟩
theorem d_X9_readHours_113 : DD prog_11_method_8_code 113 (.ireturn) 1 114 := ⟨by decide +kernel, rfl⟩
theorem d_X9_readTreaty_0 : DD prog_11_method_9_code 0 (.aload_n 0) 1 1 := ⟨by decide +kernel, rfl⟩
theorem d_X9_readTreaty_1 : DD prog_11_method_9_code 1 (.bipush 8) 2 3 := ⟨by decide +kernel, rfl⟩
theorem d_X9_readTreaty_3 : DD prog_11_method_9_code 3 (.invokevirtual 130) 3 6 := ⟨by decide +kernel, rfl⟩
theorem d_X9_readTreaty_6 : DJ prog_11_method_9_code 6 (fun o => .ifCond .eq o) 19 3 9 := ⟨by decide +kernel, rfl⟩
theorem d_X9_readTreaty_9 : DD prog_11_method_9_code 9 (.aload_n 0) 1 10 := ⟨by decide +kernel, rfl⟩
theorem d_X9_readTreaty_10 : DD prog_11_method_9_code 10 (.iconst 1) 1 11 := ⟨by decide +kernel, rfl⟩
theorem d_X9_readTreaty_11 : DD prog_11_method_9_code 11 (.bipush 99) 2 13 := ⟨by decide +kernel, rfl⟩
theorem d_X9_readTreaty_13 : DD prog_11_method_9_code 13 (.invokevirtual 134) 3 16 := ⟨by decide +kernel, rfl⟩
theorem d_X9_readTreaty_16 : DJ prog_11_method_9_code 16 (fun o => .ifCond .ne o) 21 3 19 := ⟨by decide +kernel, rfl⟩
theorem d_X9_readTreaty_19 : DD prog_11_method_9_code 19 (.iconst 0) 1 20 := ⟨by decide +kernel, rfl⟩
theorem d_X9_readTreaty_20 : DD prog_11_method_9_code 20 (.ireturn) 1 21 := ⟨by decide +kernel, rfl⟩
theorem d_X9_readTreaty_21 : DD prog_11_method_9_code 21 (.aload_n 1) 1 22 := ⟨by decide +kernel, rfl⟩
theorem d_X9_readTreaty_22 : DD prog_11_method_9_code 22 (.aload_n 0) 1 23 := ⟨by decide +kernel, rfl⟩
theorem d_X9_readTreaty_23 : DD prog_11_method_9_code 23 (.getfield 137) 3 26 := ⟨by decide +kernel, rfl⟩
theorem d_X9_readTreaty_26 : DD prog_11_method_9_code 26 (.putfield 149) 3 29 := ⟨by decide +kernel, rfl⟩
theorem d_X9_readTreaty_29 : DD prog_11_method_9_code 29 (.aload_n 0) 1 30 := ⟨by decide +kernel, rfl⟩
theorem d_X9_readTreaty_30 : DD prog_11_method_9_code 30 (.iconst 0) 1 31 := ⟨by decide +kernel, rfl⟩
theorem d_X9_readTreaty_31 : DD prog_11_method_9_code 31 (.iconst 3) 1 32 := ⟨by decide +kernel, rfl⟩
theorem d_X9_readTreaty_32 : DD prog_11_method_9_code 32 (.invokevirtual 134) 3 35 := ⟨by decide +kernel, rfl⟩
theorem d_X9_readTreaty_35 : DJ prog_11_method_9_code 35 (fun o => .ifCond .ne o) 40 3 38 := ⟨by decide +kernel, rfl⟩
theorem d_X9_readTreaty_38 : DD prog_11_method_9_code 38 (.iconst 0) 1 39 := ⟨by decide +kernel, rfl⟩
theorem d_X9_readTreaty_39 : DD prog_11_method_9_code 39 (.ireturn) 1 40 := ⟨by decide +kernel, rfl⟩
theorem d_X9_readTreaty_40 : DD prog_11_method_9_code 40 (.aload_n 1) 1 41 := ⟨by decide +kernel, rfl⟩
theorem d_X9_readTreaty_41 : DD prog_11_method_9_code 41 (.aload_n 0) 1 42 := ⟨by decide +kernel, rfl⟩
theorem d_X9_readTreaty_42 : DD prog_11_method_9_code 42 (.getfield 137) 3 45 := ⟨by decide +kernel, rfl⟩
theorem d_X9_readTreaty_45 : DD prog_11_method_9_code 45 (.putfield 154) 3 48 := ⟨by decide +kernel, rfl⟩
theorem d_X9_readTreaty_48 : DD prog_11_method_9_code 48 (.aload_n 0) 1 49 := ⟨by decide +kernel, rfl⟩
theorem d_X9_readTreaty_49 : DD prog_11_method_9_code 49 (.iconst 0) 1 50 := ⟨by decide +kernel, rfl⟩
theorem d_X9_readTreaty_50 : DD prog_11_method_9_code 50 (.iconst 1) 1 51 := ⟨by decide +kernel, rfl⟩
theorem d_X9_readTreaty_51 : DD prog_11_method_9_code 51 (.invokevirtual 134) 3 54 := ⟨by decide +kernel, rfl⟩
theorem d_X9_readTreaty_54 : DJ prog_11_method_9_code 54 (fun o => .ifCond .ne o) 59 3 57 := ⟨by decide +kernel, rfl⟩
theorem d_X9_readTreaty_57 : DD prog_11_method_9_code 57 (.iconst 0) 1 58 := ⟨by decide +kernel, rfl⟩
theorem d_X9_readTreaty_58 : DD prog_11_method_9_code 58 (.ireturn) 1 59 := ⟨by decide +kernel, rfl⟩
theorem d_X9_readTreaty_59 : DD prog_11_method_9_code 59 (.aload_n 1) 1 60 := ⟨by decide +kernel, rfl⟩
theorem d_X9_readTreaty_60 : DD prog_11_method_9_code 60 (.aload_n 0) 1 61 := ⟨by decide +kernel, rfl⟩
theorem d_X9_readTreaty_61 : DD prog_11_method_9_code 61 (.getfield 137) 3 64 := ⟨by decide +kernel, rfl⟩
theorem d_X9_readTreaty_64 : DD prog_11_method_9_code 64 (.putfield 157) 3 67 := ⟨by decide +kernel, rfl⟩
theorem d_X9_readTreaty_67 : DD prog_11_method_9_code 67 (.aload_n 0) 1 68 := ⟨by decide +kernel, rfl⟩
theorem d_X9_readTreaty_68 : DD prog_11_method_9_code 68 (.invokevirtual 140) 3 71 := ⟨by decide +kernel, rfl⟩
theorem d_X9_readTreaty_71 : DD prog_11_method_9_code 71 (.ireturn) 1 72 := ⟨by decide +kernel, rfl⟩
theorem d_X9_readFurlong_0 : DD prog_11_method_17_code 0 (.aload_n 0) 1 1 := ⟨by decide +kernel, rfl⟩
theorem d_X9_readFurlong_1 : DD prog_11_method_17_code 1 (.iconst 0) 1 2 := ⟨by decide +kernel, rfl⟩
theorem d_X9_readFurlong_2 : DD prog_11_method_17_code 2 (.bipush 9) 2 4 := ⟨by decide +kernel, rfl⟩
theorem d_X9_readFurlong_4 : DD prog_11_method_17_code 4 (.invokevirtual 134) 3 7 := ⟨by decide +kernel, rfl⟩
theorem d_X9_readFurlong_7 : DJ prog_11_method_17_code 7 (fun o => .ifCond .ne o) 12 3 10 := ⟨by decide +kernel, rfl⟩
theorem d_X9_readFurlong_10 : DD prog_11_method_17_code 10 (.iconst 0) 1 11 := ⟨by decide +kernel, rfl⟩
theorem d_X9_readFurlong_11 : DD prog_11_method_17_code 11 (.ireturn) 1 12 := ⟨by decide +kernel, rfl⟩
theorem d_X9_readFurlong_12 : DD prog_11_method_17_code 12 (.aload_n 0) 1 13 := ⟨by decide +kernel, rfl⟩
theorem d_X9_readFurlong_13 : DD prog_11_method_17_code 13 (.aload_n 0) 1 14 := ⟨by decide +kernel, rfl⟩
theorem d_X9_readFurlong_14 : DD prog_11_method_17_code 14 (.getfield 41) 3 17 := ⟨by decide +kernel, rfl⟩
theorem d_X9_readFurlong_17 : DD prog_11_method_17_code 17 (.aload_n 0) 1 18 := ⟨by decide +kernel, rfl⟩
theorem d_X9_readFurlong_18 : DD prog_11_method_17_code 18 (.getfield 137) 3 21 := ⟨by decide +kernel, rfl⟩
theorem d_X9_readFurlong_21 : DD prog_11_method_17_code 21 (.invokestatic 227) 3 24 := ⟨by decide +kernel, rfl⟩
theorem d_X9_readFurlong_24 : DD prog_11_method_17_code 24 (.putfield 41) 3 27 := ⟨by decide +kernel, rfl⟩
theorem d_X9_readFurlong_27 : DD prog_11_method_17_code 27 (.iconst 1) 1 28 := ⟨by decide +kernel, rfl⟩
theorem d_X9_readFurlong_28 : DD prog_11_method_17_code 28 (.ireturn) 1 29 := ⟨by decide +kernel, rfl⟩
theorem d_X9_readSnow_0 : DD prog_11_method_10_code 0 (.aload_n 0) 1 1 := ⟨by decide +kernel, rfl⟩
theorem d_X9_readSnow_1 : DD prog_11_method_10_code 1 (.invokevirtual 160) 3 4 := ⟨by decide +kernel, rfl⟩
theorem d_X9_readSnow_4 : DJ prog_11_method_10_code 4 (fun o => .ifCond .ne o) 9 3 7 := ⟨by decide +kernel, rfl⟩
theorem d_X9_readSnow_7 : DD prog_11_method_10_code 7 (.iconst 0) 1 8 := ⟨by decide +kernel, rfl⟩
theorem d_X9_readSnow_8 : DD prog_11_method_10_code 8 (.ireturn) 1 9 := ⟨by decide +kernel, rfl⟩
theorem d_X9_readSnow_9 : DD prog_11_method_10_code 9 (.aload_n 0) 1 10 := ⟨by decide +kernel, rfl⟩
theorem d_X9_readSnow_10 : DD prog_11_method_10_code 10 (.getfield 137) 3 13 := ⟨by decide +kernel, rfl⟩
theorem d_X9_readSnow_13 : DD prog_11_method_10_code 13 (.istore_n 2) 1 14 := ⟨by decide +kernel, rfl⟩
theorem d_X9_readSnow_14 : DD prog_11_method_10_code 14 (.aload_n 0) 1 15 := ⟨by decide +kernel, rfl⟩
theorem d_X9_readSnow_15 : DD prog_11_method_10_code 15 (.getfield 38) 3 18 := ⟨by decide +kernel, rfl⟩
theorem d_X9_readSnow_18 : DD prog_11_method_10_code 18 (.iload_n 2) 1 19 := ⟨by decide +kernel, rfl⟩
theorem d_X9_readSnow_19 : DD prog_11_method_10_code 19 (.ishr) 1 20 := ⟨by decide +kernel, rfl⟩
theorem d_X9_readSnow_20 : DD prog_11_method_10_code 20 (.iconst 1) 1 21 := ⟨by decide +kernel, rfl⟩
theorem d_X9_readSnow_21 : DD prog_11_method_10_code 21 (.iand) 1 22 := ⟨by decide +kernel, rfl⟩
theorem d_X9_readSnow_22 : DJ prog_11_method_10_code 22 (fun o => .ifCond .eq o) 35 3 25 := ⟨by decide +kernel, rfl⟩
theorem d_X9_readSnow_25 : DD prog_11_method_10_code 25 (.aload_n 0) 1 26 := ⟨by decide +kernel, rfl⟩
theorem d_X9_readSnow_26 : DD prog_11_method_10_code 26 (.iconst 4) 1 27 := ⟨by decide +kernel, rfl⟩
theorem d_X9_readSnow_27 : DD prog_11_method_10_code 27 (.aload_n 0) 1 28 := ⟨by decide +kernel, rfl⟩
theorem d_X9_readSnow_28 : DD prog_11_method_10_code 28 (.getfield 127) 3 31 := ⟨by decide +kernel, rfl⟩
theorem d_X9_readSnow_31 : DD prog_11_method_10_code 31 (.invokevirtual 60) 3 34 := ⟨by decide +kernel, rfl⟩
theorem d_X9_readSnow_34 : DD prog_11_method_10_code 34 (.ireturn) 1 35 := ⟨by decide +kernel, rfl⟩
theorem d_X9_readSnow_35 : DD prog_11_method_10_code 35 (.aload_n 0) 1 36 := ⟨by decide +kernel, rfl⟩
theorem d_X9_readSnow_36 : DD prog_11_method_10_code 36 (.dup) 1 37 := ⟨by decide +kernel, rfl⟩
theorem d_X9_readSnow_37 : DD prog_11_method_10_code 37 (.getfield 38) 3 40 := ⟨by decide +kernel, rfl⟩
theorem d_X9_readSnow_40 : DD prog_11_method_10_code 40 (.iconst 1) 1 41 := ⟨by decide +kernel, rfl⟩
theorem d_X9_readSnow_41 : DD prog_11_method_10_code 41 (.iload_n 2) 1 42 := ⟨by decide +kernel, rfl⟩
theorem d_X9_readSnow_42 : DD prog_11_method_10_code 42 (.ishl) 1 43 := ⟨by decide +kernel, rfl⟩
theorem d_X9_readSnow_43 : DD prog_11_method_10_code 43 (.ior) 1 44 := ⟨by decide +kernel, rfl⟩
theorem d_X9_readSnow_44 : DD prog_11_method_10_code 44 (.putfield 38) 3 47 := ⟨by decide +kernel, rfl⟩
theorem d_X9_readSnow_47 : DD prog_11_method_10_code 47 (.aload_n 0) 1 48 := ⟨by decide +kernel, rfl⟩
theorem d_X9_readSnow_48 : DD prog_11_method_10_code 48 (.iconst 0) 1 49 := ⟨by decide +kernel, rfl⟩
theorem d_X9_readSnow_49 : DD prog_11_method_10_code 49 (.sipush 200) 3 52 := ⟨by decide +kernel, rfl⟩
theorem d_X9_readSnow_52 : DD prog_11_method_10_code 52 (.invokevirtual 134) 3 55 := ⟨by decide +kernel, rfl⟩
theorem d_X9_readSnow_55 : DJ prog_11_method_10_code 55 (fun o => .ifCond .ne o) 60 3 58 := ⟨by decide +kernel, rfl⟩
theorem d_X9_readSnow_58 : DD prog_11_method_10_code 58 (.iconst 0) 1 59 := ⟨by decide +kernel, rfl⟩
theorem d_X9_readSnow_59 : DD prog_11_method_10_code 59 (.ireturn) 1 60 := ⟨by decide +kernel, rfl⟩
theorem d_X9_readSnow_60 : DD prog_11_method_10_code 60 (.aload_n 1) 1 61 := ⟨by decide +kernel, rfl⟩
theorem d_X9_readSnow_61 : DD prog_11_method_10_code 61 (.getfield 163) 3 64 := ⟨by decide +kernel, rfl⟩
theorem d_X9_readSnow_64 : DD prog_11_method_10_code 64 (.iload_n 2) 1 65 := ⟨by decide +kernel, rfl⟩
theorem d_X9_readSnow_65 : DD prog_11_method_10_code 65 (.aload_n 0) 1 66 := ⟨by decide +kernel, rfl⟩
theorem d_X9_readSnow_66 : DD prog_11_method_10_code 66 (.getfield 137) 3 69 := ⟨by decide +kernel, rfl⟩
theorem d_X9_readSnow_69 : DD prog_11_method_10_code 69 (.iastore) 1 70 := ⟨by decide +kernel, rfl⟩
theorem d_X9_readSnow_70 : DD prog_11_method_10_code 70 (.aload_n 0) 1 71 := ⟨by decide +kernel, rfl⟩
theorem d_X9_readSnow_71 : DD prog_11_method_10_code 71 (.invokevirtual 140) 3 74 := ⟨by decide +kernel, rfl⟩
theorem d_X9_readSnow_74 : DD prog_11_method_10_code 74 (.ireturn) 1 75 := ⟨by decide +kernel, rfl⟩
theorem d_X9_readSide_0 : DD prog_11_method_18_code 0 (.aload_n 0) 1 1 := ⟨by decide +kernel, rfl⟩
theorem d_X9_readSide_1 : DD prog_11_method_18_code 1 (.invokevirtual 44) 3 4 := ⟨by decide +kernel, rfl⟩
theorem d_X9_readSide_4 : DJ prog_11_method_18_code 4 (fun o => .ifCond .ne o) 9 3 7 := ⟨by decide +kernel, rfl⟩
theorem d_X9_readSide_7 : DD prog_11_method_18_code 7 (.iconst 0) 1 8 := ⟨by decide +kernel, rfl⟩
theorem d_X9_readSide_8 : DD prog_11_method_18_code 8 (.ireturn) 1 9 := ⟨by decide +kernel, rfl⟩
theorem d_X9_readSide_9 : DD prog_11_method_18_code 9 (.aload_n 0) 1 10 := ⟨by decide +kernel, rfl⟩
theorem d_X9_readSide_10 : DD prog_11_method_18_code 10 (.ldc 233) 2 12 := ⟨by decide +kernel, rfl⟩
theorem d_X9_readSide_12 : DD prog_11_method_18_code 12 (.invokevirtual 65) 3 15 := ⟨by decide +kernel, rfl⟩
theorem d_X9_readSide_15 : DJ prog_11_method_18_code 15 (fun o => .ifCond .eq o) 25 3 18 := ⟨by decide +kernel, rfl⟩
theorem d_X9_readSide_18 : DD prog_11_method_18_code 18 (.aload_n 0) 1 19 := ⟨by decide +kernel, rfl⟩
theorem d_X9_readSide_19 : DD prog_11_method_18_code 19 (.iconst 0) 1 20 := ⟨by decide +kernel, rfl⟩
theorem d_X9_readSide_20 : DD prog_11_method_18_code 20 (.putfield 137) 3 23 := ⟨by decide +kernel, rfl⟩
theorem d_X9_readSide_23 : DD prog_11_method_18_code 23 (.iconst 1) 1 24 := ⟨by decide +kernel, rfl⟩
theorem d_X9_readSide_24 : DD prog_11_method_18_code 24 (.ireturn) 1 25 := ⟨by decide +kernel, rfl⟩
theorem d_X9_readSide_25 : DD prog_11_method_18_code 25 (.aload_n 0) 1 26 := ⟨by decide +kernel, rfl⟩
theorem d_X9_readSide_26 : DD prog_11_method_18_code 26 (.ldc 235) 2 28 := ⟨by decide +kernel, rfl⟩
theorem d_X9_readSide_28 : DD prog_11_method_18_code 28 (.invokevirtual 65) 3 31 := ⟨by decide +kernel, rfl⟩
theorem d_X9_readSide_31 : DJ prog_11_method_18_code 31 (fun o => .ifCond .eq o) 41 3 34 := ⟨by decide +kernel, rfl⟩
theorem d_X9_readSide_34 : DD prog_11_method_18_code 34 (.aload_n 0) 1 35 := ⟨by decide +kernel, rfl⟩
theorem d_X9_readSide_35 : DD prog_11_method_18_code 35 (.iconst 1) 1 36 := ⟨by decide +kernel, rfl⟩
theorem d_X9_readSide_36 : DD prog_11_method_18_code 36 (.putfield 137) 3 39 := ⟨by decide +kernel, rfl⟩
theorem d_X9_readSide_39 : DD prog_11_method_18_code 39 (.iconst 1) 1 40 := ⟨by decide +kernel, rfl⟩
theorem d_X9_readSide_40 : DD prog_11_method_18_code 40 (.ireturn) 1 41 := ⟨by decide +kernel, rfl⟩
theorem d_X9_readSide_41 : DD prog_11_method_18_code 41 (.aload_n 0) 1 42 := ⟨by decide +kernel, rfl⟩
theorem d_X9_readSide_42 : DD prog_11_method_18_code 42 (.iconst 2) 1 43 := ⟨by decide +kernel, rfl⟩
theorem d_X9_readSide_43 : DD prog_11_method_18_code 43 (.aload_n 0) 1 44 := ⟨by decide +kernel, rfl⟩
theorem d_X9_readSide_44 : DD prog_11_method_18_code 44 (.getfield 127) 3 47 := ⟨by decide +kernel, rfl⟩
theorem d_X9_readSide_47 : DD prog_11_method_18_code 47 (.invokevirtual 60) 3 50 := ⟨by decide +kernel, rfl⟩
theorem d_X9_readSide_50 : DD prog_11_method_18_code 50 (.ireturn) 1 51 := ⟨by decide +kernel, rfl⟩
theorem d_X9_readKind_0 : DD prog_11_method_12_code 0 (.aload_n 0) 1 1 := ⟨by decide +kernel, rfl⟩
theorem d_X9_readKind_1 : DD prog_11_method_12_code 1 (.invokevirtual 44) 3 4 := ⟨by decide +kernel, rfl⟩
theorem d_X9_readKind_4 : DJ prog_11_method_12_code 4 (fun o => .ifCond .ne o) 9 3 7 := ⟨by decide +kernel, rfl⟩
theorem d_X9_readKind_7 : DD prog_11_method_12_code 7 (.iconst 0) 1 8 := ⟨by decide +kernel, rfl⟩
theorem d_X9_readKind_8 : DD prog_11_method_12_code 8 (.ireturn) 1 9 := ⟨by decide +kernel, rfl⟩
theorem d_X9_readKind_9 : DD prog_11_method_12_code 9 (.aload_n 0) 1 10 := ⟨by decide +kernel, rfl⟩
theorem d_X9_readKind_10 : DD prog_11_method_12_code 10 (.ldc 188) 2 12 := ⟨by decide +kernel, rfl⟩
theorem d_X9_readKind_12 : DD prog_11_method_12_code 12 (.invokevirtual 65) 3 15 := ⟨by decide +kernel, rfl⟩
theorem d_X9_readKind_15 : DJ prog_11_method_12_code 15 (fun o => .ifCond .eq o) 26 3 18 := ⟨by decide +kernel, rfl⟩
theorem d_X9_readKind_18 : DD prog_11_method_12_code 18 (.aload_n 1) 1 19 := ⟨by decide +kernel, rfl⟩
theorem d_X9_readKind_19 : DD prog_11_method_12_code 19 (.iconst 0) 1 20 := ⟨by decide +kernel, rfl⟩
theorem d_X9_readKind_20 : DD prog_11_method_12_code 20 (.putfield 190) 3 23 := ⟨by decide +kernel, rfl⟩
theorem d_X9_readKind_23 : DJ prog_11_method_12_code 23 (fun o => .goto o) 104 3 26 := ⟨by decide +kernel, rfl⟩
theorem d_X9_readKind_26 : DD prog_11_method_12_code 26 (.aload_n 0) 1 27 := ⟨by decide +kernel, rfl⟩
theorem d_X9_readKind_27 : DD prog_11_method_12_code 27 (.ldc 191) 2 29 := ⟨by decide +kernel, rfl⟩
theorem d_X9_readKind_29 : DD prog_11_method_12_code 29 (.invokevirtual 65) 3 32 := ⟨by decide +kernel, rfl⟩
theorem d_X9_readKind_32 : DJ prog_11_method_12_code 32 (fun o => .ifCond .eq o) 43 3 35 := ⟨by decide +kernel, rfl⟩
theorem d_X9_readKind_35 : DD prog_11_method_12_code 35 (.aload_n 1) 1 36 := ⟨by decide +kernel, rfl⟩
theorem d_X9_readKind_36 : DD prog_11_method_12_code 36 (.iconst 1) 1 37 := ⟨by decide +kernel, rfl⟩
theorem d_X9_readKind_37 : DD prog_11_method_12_code 37 (.putfield 190) 3 40 := ⟨by decide +kernel, rfl⟩
theorem d_X9_readKind_40 : DJ prog_11_method_12_code 40 (fun o => .goto o) 104 3 43 := ⟨by decide +kernel, rfl⟩
theorem d_X9_readKind_43 : DD prog_11_method_12_code 43 (.aload_n 0) 1 44 := ⟨by decide +kernel, rfl⟩
theorem d_X9_readKind_44 : DD prog_11_method_12_code 44 (.ldc 193) 2 46 := ⟨by decide +kernel, rfl⟩
theorem d_X9_readKind_46 : DD prog_11_method_12_code 46 (.invokevirtual 65) 3 49 := ⟨by decide +kernel, rfl⟩
theorem d_X9_readKind_49 : DJ prog_11_method_12_code 49 (fun o => .ifCond .eq o) 60 3 52 := ⟨by decide +kernel, rfl⟩
theorem d_X9_readKind_52 : DD prog_11_method_12_code 52 (.aload_n 1) 1 53 := ⟨by decide +kernel, rfl⟩
theorem d_X9_readKind_53 : DD prog_11_method_12_code 53 (.iconst 2) 1 54 := ⟨by decide +kernel, rfl⟩
theorem d_X9_readKind_54 : DD prog_11_method_12_code 54 (.putfield 190) 3 57 := ⟨by decide +kernel, rfl⟩
theorem d_X9_readKind_57 : DJ prog_11_method_12_code 57 (fun o => .goto o) 104 3 60 := ⟨by decide +kernel, rfl⟩
theorem d_X9_readKind_60 : DD prog_11_method_12_code 60 (.aload_n 0) 1 61 := ⟨by decide +kernel, rfl⟩
theorem d_X9_readKind_61 : DD prog_11_method_12_code 61 (.ldc 195) 2 63 := ⟨by decide +kernel, rfl⟩
theorem d_X9_readKind_63 : DD prog_11_method_12_code 63 (.invokevirtual 65) 3 66 := ⟨by decide +kernel, rfl⟩
theorem d_X9_readKind_66 : DJ prog_11_method_12_code 66 (fun o => .ifCond .eq o) 77 3 69 := ⟨by decide +kernel, rfl⟩
theorem d_X9_readKind_69 : DD prog_11_method_12_code 69 (.aload_n 1) 1 70 := ⟨by decide +kernel, rfl⟩
theorem d_X9_readKind_70 : DD prog_11_method_12_code 70 (.iconst 3) 1 71 := ⟨by decide +kernel, rfl⟩
theorem d_X9_readKind_71 : DD prog_11_method_12_code 71 (.putfield 190) 3 74 := ⟨by decide +kernel, rfl⟩
theorem d_X9_readKind_74 : DJ prog_11_method_12_code 74 (fun o => .goto o) 104 3 77 := ⟨by decide +kernel, rfl⟩
theorem d_X9_readKind_77 : DD prog_11_method_12_code 77 (.aload_n 0) 1 78 := ⟨by decide +kernel, rfl⟩
theorem d_X9_readKind_78 : DD prog_11_method_12_code 78 (.ldc 197) 2 80 := ⟨by decide +kernel, rfl⟩
theorem d_X9_readKind_80 : DD prog_11_method_12_code 80 (.invokevirtual 65) 3 83 := ⟨by decide +kernel, rfl⟩
theorem d_X9_readKind_83 : DJ prog_11_method_12_code 83 (fun o => .ifCond .eq o) 94 3 86 := ⟨by decide +kernel, rfl⟩
theorem d_X9_readKind_86 : DD prog_11_method_12_code 86 (.aload_n 1) 1 87 := ⟨by decide +kernel, rfl⟩
theorem d_X9_readKind_87 : DD prog_11_method_12_code 87 (.iconst 4) 1 88 := ⟨by decide +kernel, rfl⟩
theorem d_X9_readKind_88 : DD prog_11_method_12_code 88 (.putfield 190) 3 91 := ⟨by decide +kernel, rfl⟩
theorem d_X9_readKind_91 : DJ prog_11_method_12_code 91 (fun o => .goto o) 104 3 94 := ⟨by decide +kernel, rfl⟩
theorem d_X9_readKind_94 : DD prog_11_method_12_code 94 (.aload_n 0) 1 95 := ⟨by decide +kernel, rfl⟩
theorem d_X9_readKind_95 : DD prog_11_method_12_code 95 (.iconst 2) 1 96 := ⟨by decide +kernel, rfl⟩
theorem d_X9_readKind_96 : DD prog_11_method_12_code 96 (.aload_n 0) 1 97 := ⟨by decide +kernel, rfl⟩
theorem d_X9_readKind_97 : DD prog_11_method_12_code 97 (.getfield 127) 3 100 := ⟨by decide +kernel, rfl⟩
theorem d_X9_readKind_100 : DD prog_11_method_12_code 100 (.invokevirtual 60) 3 103 := ⟨by decide +kernel, rfl⟩
theorem d_X9_readKind_103 : DD prog_11_method_12_code 103 (.ireturn) 1 104 := ⟨by decide +kernel, rfl⟩
theorem d_X9_readKind_104 : DD prog_11_method_12_code 104 (.iconst 1) 1 105 := ⟨by decide +kernel, rfl⟩
theorem d_X9_readKind_105 : DD prog_11_method_12_code 105 (.ireturn) 1 106 := ⟨by decide +kernel, rfl⟩
theorem d_X9_readParts_0 : DD prog_11_method_13_code 0 (.aload_n 0) 1 1 := ⟨by decide +kernel, rfl⟩
theorem d_X9_readParts_1 : DD prog_11_method_13_code 1 (.iconst 0) 1 2 := ⟨by decide +kernel, rfl⟩
theorem d_X9_readParts_2 : DD prog_11_method_13_code 2 (.bipush 99) 2 4 := ⟨by decide +kernel, rfl⟩
theorem d_X9_readParts_4 : DD prog_11_method_13_code 4 (.invokevirtual 134) 3 7 := ⟨by decide +kernel, rfl⟩
theorem d_X9_readParts_7 : DJ prog_11_method_13_code 7 (fun o => .ifCond .ne o) 12 3 10 := ⟨by decide +kernel, rfl⟩
theorem d_X9_readParts_10 : DD prog_11_method_13_code 10 (.iconst 0) 1 11 := ⟨by decide +kernel, rfl⟩
theorem d_X9_readParts_11 : DD prog_11_method_13_code 11 (.ireturn) 1 12 := ⟨by decide +kernel, rfl⟩
theorem d_X9_readParts_12 : DD prog_11_method_13_code 12 (.aload_n 1) 1 13 := ⟨by decide +kernel, rfl⟩
theorem d_X9_readParts_13 : DD prog_11_method_13_code 13 (.aload_n 0) 1 14 := ⟨by decide +kernel, rfl⟩
theorem d_X9_readParts_14 : DD prog_11_method_13_code 14 (.getfield 137) 3 17 := ⟨by decide +kernel, rfl⟩
theorem d_X9_readParts_17 : DD prog_11_method_13_code 17 (.putfield 199) 3 20 := ⟨by decide +kernel, rfl⟩
theorem d_X9_readParts_20 : DD prog_11_method_13_code 20 (.aload_n 0) 1 21 := ⟨by decide +kernel, rfl⟩
theorem d_X9_readParts_21 : DD prog_11_method_13_code 21 (.iconst 0) 1 22 := ⟨by decide +kernel, rfl⟩
theorem d_X9_readParts_22 : DD prog_11_method_13_code 22 (.bipush 99) 2 24 := ⟨by decide +kernel, rfl⟩
theorem d_X9_readParts_24 : DD prog_11_method_13_code 24 (.invokevirtual 134) 3 27 := ⟨by decide +kernel, rfl⟩
theorem d_X9_readParts_27 : DJ prog_11_method_13_code 27 (fun o => .ifCond .ne o) 32 3 30 := ⟨by decide +kernel, rfl⟩
theorem d_X9_readParts_30 : DD prog_11_method_13_code 30 (.iconst 0) 1 31 := ⟨by decide +kernel, rfl⟩
theorem d_X9_readParts_31 : DD prog_11_method_13_code 31 (.ireturn) 1 32 := ⟨by decide +kernel, rfl⟩
theorem d_X9_readParts_32 : DD prog_11_method_13_code 32 (.aload_n 1) 1 33 := ⟨by decide +kernel, rfl⟩
theorem d_X9_readParts_33 : DD prog_11_method_13_code 33 (.aload_n 0) 1 34 := ⟨by decide +kernel, rfl⟩
theorem d_X9_readParts_34 : DD prog_11_method_13_code 34 (.getfield 137) 3 37 := ⟨by decide +kernel, rfl⟩
theorem d_X9_readParts_37 : DD prog_11_method_13_code 37 (.putfield 202) 3 40 := ⟨by decide +kernel, rfl⟩
theorem d_X9_readParts_40 : DD prog_11_method_13_code 40 (.aload_n 0) 1 41 := ⟨by decide +kernel, rfl⟩
theorem d_X9_readParts_41 : DD prog_11_method_13_code 41 (.iconst 0) 1 42 := ⟨by decide +kernel, rfl⟩
theorem d_X9_readParts_42 : DD prog_11_method_13_code 42 (.bipush 99) 2 44 := ⟨by decide +kernel, rfl⟩
theorem d_X9_readParts_44 : DD prog_11_method_13_code 44 (.invokevirtual 134) 3 47 := ⟨by decide +kernel, rfl⟩
theorem d_X9_readParts_47 : DJ prog_11_method_13_code 47 (fun o => .ifCond .ne o) 52 3 50 := ⟨by decide +kernel, rfl⟩
theorem d_X9_readParts_50 : DD prog_11_method_13_code 50 (.iconst 0) 1 51 := ⟨by decide +kernel, rfl⟩
theorem d_X9_readParts_51 : DD prog_11_method_13_code 51 (.ireturn) 1 52 := ⟨by decide +kernel, rfl⟩
theorem d_X9_readParts_52 : DD prog_11_method_13_code 52 (.aload_n 1) 1 53 := ⟨by decide +kernel, rfl⟩
theorem d_X9_readParts_53 : DD prog_11_method_13_code 53 (.aload_n 0) 1 54 := ⟨by decide +kernel, rfl⟩
theorem d_X9_readParts_54 : DD prog_11_method_13_code 54 (.getfield 137) 3 57 := ⟨by decide +kernel, rfl⟩
theorem d_X9_readParts_57 : DD prog_11_method_13_code 57 (.putfield 205) 3 60 := ⟨by decide +kernel, rfl⟩
theorem d_X9_readParts_60 : DD prog_11_method_13_code 60 (.aload_n 0) 1 61 := ⟨by decide +kernel, rfl⟩
theorem d_X9_readParts_61 : DD prog_11_method_13_code 61 (.iconst 0) 1 62 := ⟨by decide +kernel, rfl⟩
theorem d_X9_readParts_62 : DD prog_11_method_13_code 62 (.iconst 3) 1 63 := ⟨by decide +kernel, rfl⟩
theorem d_X9_readParts_63 : DD prog_11_method_13_code 63 (.invokevirtual 134) 3 66 := ⟨by decide +kernel, rfl⟩
theorem d_X9_readParts_66 : DJ prog_11_method_13_code 66 (fun o => .ifCond .ne o) 71 3 69 := ⟨by decide +kernel, rfl⟩
theorem d_X9_readParts_69 : DD prog_11_method_13_code 69 (.iconst 0) 1 70 := ⟨by decide +kernel, rfl⟩
theorem d_X9_readParts_70 : DD prog_11_method_13_code 70 (.ireturn) 1 71 := ⟨by decide +kernel, rfl⟩
theorem d_X9_readParts_71 : DD prog_11_method_13_code 71 (.aload_n 1) 1 72 := ⟨by decide +kernel, rfl⟩
theorem d_X9_readParts_72 : DD prog_11_method_13_code 72 (.aload_n 0) 1 73 := ⟨by decide +kernel, rfl⟩
theorem d_X9_readParts_73 : DD prog_11_method_13_code 73 (.getfield 137) 3 76 := ⟨by decide +kernel, rfl⟩
theorem d_X9_readParts_76 : DD prog_11_method_13_code 76 (.putfield 206) 3 79 := ⟨by decide +kernel, rfl⟩
theorem d_X9_readParts_79 : DD prog_11_method_13_code 79 (.iconst 1) 1 80 := ⟨by decide +kernel, rfl⟩
theorem d_X9_readParts_80 : DD prog_11_method_13_code 80 (.ireturn) 1 81 := ⟨by decide +kernel, rfl⟩
theorem d_X9_readDress_0 : DD prog_11_method_14_code 0 (.aload_n 0) 1 1 := ⟨by decide +kernel, rfl⟩
theorem d_X9_readDress_1 : DD prog_11_method_14_code 1 (.invokevirtual 44) 3 4 := ⟨by decide +kernel, rfl⟩
theorem d_X9_readDress_4 : DJ prog_11_method_14_code 4 (fun o => .ifCond .ne o) 9 3 7 := ⟨by decide +kernel, rfl⟩
theorem d_X9_readDress_7 : DD prog_11_method_14_code 7 (.iconst 0) 1 8 := ⟨by decide +kernel, rfl⟩
theorem d_X9_readDress_8 : DD prog_11_method_14_code 8 (.ireturn) 1 9 := ⟨by decide +kernel, rfl⟩
theorem d_X9_readDress_9 : DD prog_11_method_14_code 9 (.aload_n 1) 1 10 := ⟨by decide +kernel, rfl⟩
theorem d_X9_readDress_10 : DD prog_11_method_14_code 10 (.aload_n 0) 1 11 := ⟨by decide +kernel, rfl⟩
theorem d_X9_readDress_11 : DD prog_11_method_14_code 11 (.ldc 207) 2 13 := ⟨by decide +kernel, rfl⟩
theorem d_X9_readDress_13 : DD prog_11_method_14_code 13 (.invokevirtual 65) 3 16 := ⟨by decide +kernel, rfl⟩
theorem d_X9_readDress_16 : DJ prog_11_method_14_code 16 (fun o => .ifCond .ne o) 23 3 19 := ⟨by decide +kernel, rfl⟩
theorem d_X9_readDress_19 : DD prog_11_method_14_code 19 (.iconst 1) 1 20 := ⟨by decide +kernel, rfl⟩
theorem d_X9_readDress_20 : DJ prog_11_method_14_code 20 (fun o => .goto o) 24 3 23 := ⟨by decide +kernel, rfl⟩
theorem d_X9_readDress_23 : DD prog_11_method_14_code 23 (.iconst 0) 1 24 := ⟨by decide +kernel, rfl⟩
theorem d_X9_readDress_24 : DD prog_11_method_14_code 24 (.putfield 209) 3 27 := ⟨by decide +kernel, rfl⟩
theorem d_X9_readDress_27 : DD prog_11_method_14_code 27 (.aload_n 1) 1 28 := ⟨by decide +kernel, rfl⟩
theorem d_X9_readDress_28 : DD prog_11_method_14_code 28 (.getfield 209) 3 31 := ⟨by decide +kernel, rfl⟩
theorem d_X9_readDress_31 : DJ prog_11_method_14_code 31 (fun o => .ifCond .eq o) 41 3 34 := ⟨by decide +kernel, rfl⟩
theorem d_X9_readDress_34 : DD prog_11_method_14_code 34 (.aload_n 0) 1 35 := ⟨by decide +kernel, rfl⟩
theorem d_X9_readDress_35 : DD prog_11_method_14_code 35 (.invokevirtual 146) 3 38 := ⟨by decide +kernel, rfl⟩
theorem d_X9_readDress_38 : DJ prog_11_method_14_code 38 (fun o => .goto o) 45 3 41 := ⟨by decide +kernel, rfl⟩
theorem d_X9_readDress_41 : DD prog_11_method_14_code 41 (.aload_n 0) 1 42 := ⟨by decide +kernel, rfl⟩
theorem d_X9_readDress_42 : DD prog_11_method_14_code 42 (.invokevirtual 140) 3 45 := ⟨by decide +kernel, rfl⟩
theorem d_X9_readDress_45 : DD prog_11_method_14_code 45 (.ireturn) 1 46 := ⟨by decide +kernel, rfl⟩
theorem d_X9_readMan_0 : DD prog_11_method_11_code 0 (.aload_n 0) 1 1 := ⟨by decide +kernel, rfl⟩
theorem d_X9_readMan_1 : DD prog_11_method_11_code 1 (.invokevirtual 165) 3 4 := ⟨by decide +kernel, rfl⟩
theorem d_X9_readMan_4 : DJ prog_11_method_11_code 4 (fun o => .ifCond .ne o) 9 3 7 := ⟨by decide +kernel, rfl⟩
theorem d_X9_readMan_7 : DD prog_11_method_11_code 7 (.iconst 0) 1 8 := ⟨by decide +kernel, rfl⟩
theorem d_X9_readMan_8 : DD prog_11_method_11_code 8 (.ireturn) 1 9 := ⟨by decide +kernel, rfl⟩
theorem d_X9_readMan_9 : DD prog_11_method_11_code 9 (.aload_n 0) 1 10 := ⟨by decide +kernel, rfl⟩
theorem d_X9_readMan_10 : DD prog_11_method_11_code 10 (.getfield 137) 3 13 := ⟨by decide +kernel, rfl⟩
theorem d_X9_readMan_13 : DD prog_11_method_11_code 13 (.istore_n 2) 1 14 := ⟨by decide +kernel, rfl⟩
theorem d_X9_readMan_14 : DD prog_11_method_11_code 14 (.aload_n 0) 1 15 := ⟨by decide +kernel, rfl⟩
theorem d_X9_readMan_15 : DD prog_11_method_11_code 15 (.invokevirtual 160) 3 18 := ⟨by decide +kernel, rfl⟩
theorem d_X9_readMan_18 : DJ prog_11_method_11_code 18 (fun o => .ifCond .ne o) 23 3 21 := ⟨by decide +kernel, rfl⟩
theorem d_X9_readMan_21 : DD prog_11_method_11_code 21 (.iconst 0) 1 22 := ⟨by decide +kernel, rfl⟩
theorem d_X9_readMan_22 : DD prog_11_method_11_code 22 (.ireturn) 1 23 := ⟨by decide +kernel, rfl⟩
theorem d_X9_readMan_23 : DD prog_11_method_11_code 23 (.aload_n 1) 1 24 := ⟨by decide +kernel, rfl⟩
theorem d_X9_readMan_24 : DD prog_11_method_11_code 24 (.iload_n 2) 1 25 := ⟨by decide +kernel, rfl⟩
theorem d_X9_readMan_25 : DD prog_11_method_11_code 25 (.aload_n 0) 1 26 := ⟨by decide +kernel, rfl⟩
theorem d_X9_readMan_26 : DD prog_11_method_11_code 26 (.getfield 137) 3 29 := ⟨by decide +kernel, rfl⟩
theorem d_X9_readMan_29 : DD prog_11_method_11_code 29 (.invokevirtual 168) 3 32 := ⟨by decide +kernel, rfl⟩
theorem d_X9_readMan_32 : DD prog_11_method_11_code 32 (.astore_n 3) 1 33 := ⟨by decide +kernel, rfl⟩
theorem d_X9_readMan_33 : DD prog_11_method_11_code 33 (.aload_n 3) 1 34 := ⟨by decide +kernel, rfl⟩
theorem d_X9_readMan_34 : DD prog_11_method_11_code 34 (.getfield 172) 3 37 := ⟨by decide +kernel, rfl⟩
theorem d_X9_readMan_37 : DJ prog_11_method_11_code 37 (fun o => .ifCond .eq o) 50 3 40 := ⟨by decide +kernel, rfl⟩
theorem d_X9_readMan_40 : DD prog_11_method_11_code 40 (.aload_n 0) 1 41 := ⟨by decide +kernel, rfl⟩
theorem d_X9_readMan_41 : DD prog_11_method_11_code 41 (.iconst 4) 1 42 := ⟨by decide +kernel, rfl⟩
theorem d_X9_readMan_42 : DD prog_11_method_11_code 42 (.aload_n 0) 1 43 := ⟨by decide +kernel, rfl⟩
theorem d_X9_readMan_43 : DD prog_11_method_11_code 43 (.getfield 127) 3 46 := ⟨by decide +kernel, rfl⟩
theorem d_X9_readMan_46 : DD prog_11_method_11_code 46 (.invokevirtual 60) 3 49 := ⟨by decide +kernel, rfl⟩
theorem d_X9_readMan_49 : DD prog_11_method_11_code 49 (.ireturn) 1 50 := ⟨by decide +kernel, rfl⟩
theorem d_X9_readMan_50 : DD prog_11_method_11_code 50 (.aload_n 3) 1 51 := ⟨by decide +kernel, rfl⟩
theorem d_X9_readMan_51 : DD prog_11_method_11_code 51 (.iconst 1) 1 52 := ⟨by decide +kernel, rfl⟩
theorem d_X9_readMan_52 : DD prog_11_method_11_code 52 (.putfield 172) 3 55 := ⟨by decide +kernel, rfl⟩
theorem d_X9_readMan_55 : DD prog_11_method_11_code 55 (.aload_n 0) 1 56 := ⟨by decide +kernel, rfl⟩
theorem d_X9_readMan_56 : DD prog_11_method_11_code 56 (.aload_n 3) 1 57 := ⟨by decide +kernel, rfl⟩
theorem d_X9_readMan_57 : DD prog_11_method_11_code 57 (.invokevirtual 178) 3 60 := ⟨by decide +kernel, rfl⟩
theorem d_X9_readMan_60 : DJ prog_11_method_11_code 60 (fun o => .ifCond .eq o) 83 3 63 := ⟨by decide +kernel, rfl⟩
theorem d_X9_readMan_63 : DD prog_11_method_11_code 63 (.aload_n 0) 1 64 := ⟨by decide +kernel, rfl⟩
theorem d_X9_readMan_64 : DD prog_11_method_11_code 64 (.aload_n 3) 1 65 := ⟨by decide +kernel, rfl⟩
theorem d_X9_readMan_65 : DD prog_11_method_11_code 65 (.invokevirtual 182) 3 68 := ⟨by decide +kernel, rfl⟩
theorem d_X9_readMan_68 : DJ prog_11_method_11_code 68 (fun o => .ifCond .eq o) 83 3 71 := ⟨by decide +kernel, rfl⟩
theorem d_X9_readMan_71 : DD prog_11_method_11_code 71 (.aload_n 0) 1 72 := ⟨by decide +kernel, rfl⟩
theorem d_X9_readMan_72 : DD prog_11_method_11_code 72 (.aload_n 3) 1 73 := ⟨by decide +kernel, rfl⟩
theorem d_X9_readMan_73 : DD prog_11_method_11_code 73 (.invokevirtual 185) 3 76 := ⟨by decide +kernel, rfl⟩
theorem d_X9_readMan_76 : DJ prog_11_method_11_code 76 (fun o => .ifCond .eq o) 83 3 79 := ⟨by decide +kernel, rfl⟩
theorem d_X9_readMan_79 : DD prog_11_method_11_code 79 (.iconst 1) 1 80 := ⟨by decide +kernel, rfl⟩
theorem d_X9_readMan_80 : DJ prog_11_method_11_code 80 (fun o => .goto o) 84 3 83 := ⟨by decide +kernel, rfl⟩
theorem d_X9_readMan_83 : DD prog_11_method_11_code 83 (.iconst 0) 1 84 := ⟨by decide +kernel, rfl⟩
theorem d_X9_readMan_84 : DD prog_11_method_11_code 84 (.ireturn) 1 85 := ⟨by decide +kernel, rfl⟩
theorem d_X9_readBrazier_0 : DD prog_11_method_15_code 0 (.aload_n 1) 1 1 := ⟨by decide +kernel, rfl⟩
theorem d_X9_readBrazier_1 : DD prog_11_method_15_code 1 (.invokevirtual 211) 3 4 := ⟨by decide +kernel, rfl⟩
theorem d_X9_readBrazier_4 : DJ prog_11_method_15_code 4 (fun o => .ifCond .eq o) 17 3 7 := ⟨by decide +kernel, rfl⟩
theorem d_X9_readBrazier_7 : DD prog_11_method_15_code 7 (.aload_n 0) 1 8 := ⟨by decide +kernel, rfl⟩
theorem d_X9_readBrazier_8 : DD prog_11_method_15_code 8 (.iconst 5) 1 9 := ⟨by decide +kernel, rfl⟩
theorem d_X9_readBrazier_9 : DD prog_11_method_15_code 9 (.aload_n 0) 1 10 := ⟨by decide +kernel, rfl⟩
theorem d_X9_readBrazier_10 : DD prog_11_method_15_code 10 (.getfield 127) 3 13 := ⟨by decide +kernel, rfl⟩
theorem d_X9_readBrazier_13 : DD prog_11_method_15_code 13 (.invokevirtual 60) 3 16 := ⟨by decide +kernel, rfl⟩
theorem d_X9_readBrazier_16 : DD prog_11_method_15_code 16 (.ireturn) 1 17 := ⟨by decide +kernel, rfl⟩
theorem d_X9_readBrazier_17 : DD prog_11_method_15_code 17 (.aload_n 0) 1 18 := ⟨by decide +kernel, rfl⟩
theorem d_X9_readBrazier_18 : DD prog_11_method_15_code 18 (.invokevirtual 160) 3 21 := ⟨by decide +kernel, rfl⟩
theorem d_X9_readBrazier_21 : DJ prog_11_method_15_code 21 (fun o => .ifCond .ne o) 26 3 24 := ⟨by decide +kernel, rfl⟩
theorem d_X9_readBrazier_24 : DD prog_11_method_15_code 24 (.iconst 0) 1 25 := ⟨by decide +kernel, rfl⟩
theorem d_X9_readBrazier_25 : DD prog_11_method_15_code 25 (.ireturn) 1 26 := ⟨by decide +kernel, rfl⟩
theorem d_X9_readBrazier_26 : DD prog_11_method_15_code 26 (.aload_n 0) 1 27 := ⟨by decide +kernel, rfl⟩
theorem d_X9_readBrazier_27 : DD prog_11_method_15_code 27 (.getfield 137) 3 30 := ⟨by decide +kernel, rfl⟩
theorem d_X9_readBrazier_30 : DD prog_11_method_15_code 30 (.istore_n 2) 1 31 := ⟨by decide +kernel, rfl⟩
theorem d_X9_readBrazier_31 : DD prog_11_method_15_code 31 (.aload_n 0) 1 32 := ⟨by decide +kernel, rfl⟩
theorem d_X9_readBrazier_32 : DD prog_11_method_15_code 32 (.iconst 1) 1 33 := ⟨by decide +kernel, rfl⟩
theorem d_X9_readBrazier_33 : DD prog_11_method_15_code 33 (.bipush 20) 2 35 := ⟨by decide +kernel, rfl⟩
theorem d_X9_readBrazier_35 : DD prog_11_method_15_code 35 (.invokevirtual 134) 3 38 := ⟨by decide +kernel, rfl⟩
theorem d_X9_readBrazier_38 : DJ prog_11_method_15_code 38 (fun o => .ifCond .ne o) 43 3 41 := ⟨by decide +kernel, rfl⟩
theorem d_X9_readBrazier_41 : DD prog_11_method_15_code 41 (.iconst 0) 1 42 := ⟨by decide +kernel, rfl⟩
theorem d_X9_readBrazier_42 : DD prog_11_method_15_code 42 (.ireturn) 1 43 := ⟨by decide +kernel, rfl⟩
theorem d_X9_readBrazier_43 : DD prog_11_method_15_code 43 (.aload_n 0) 1 44 := ⟨by decide +kernel, rfl⟩
theorem d_X9_readBrazier_44 : DD prog_11_method_15_code 44 (.getfield 137) 3 47 := ⟨by decide +kernel, rfl⟩
theorem d_X9_readBrazier_47 : DD prog_11_method_15_code 47 (.istore_n 3) 1 48 := ⟨by decide +kernel, rfl⟩
theorem d_X9_readBrazier_48 : DD prog_11_method_15_code 48 (.aload_n 0) 1 49 := ⟨by decide +kernel, rfl⟩
theorem d_X9_readBrazier_49 : DD prog_11_method_15_code 49 (.iconst 0) 1 50 := ⟨by decide +kernel, rfl⟩
theorem d_X9_readBrazier_50 : DD prog_11_method_15_code 50 (.bipush 11) 2 52 := ⟨by decide +kernel, rfl⟩
theorem d_X9_readBrazier_52 : DD prog_11_method_15_code 52 (.invokevirtual 134) 3 55 := ⟨by decide +kernel, rfl⟩
theorem d_X9_readBrazier_55 : DJ prog_11_method_15_code 55 (fun o => .ifCond .ne o) 60 3 58 := ⟨by decide +kernel, rfl⟩
theorem d_X9_readBrazier_58 : DD prog_11_method_15_code 58 (.iconst 0) 1 59 := ⟨by decide +kernel, rfl⟩
theorem d_X9_readBrazier_59 : DD prog_11_method_15_code 59 (.ireturn) 1 60 := ⟨by decide +kernel, rfl⟩
theorem d_X9_readBrazier_60 : DD prog_11_method_15_code 60 (.aload_n 0) 1 61 := ⟨by decide +kernel, rfl⟩
theorem d_X9_readBrazier_61 : DD prog_11_method_15_code 61 (.getfield 137) 3 64 := ⟨by decide +kernel, rfl⟩
theorem d_X9_readBrazier_64 : DD prog_11_method_15_code 64 (.istore 4) 2 66 := ⟨by decide +kernel, rfl⟩
theorem d_X9_readBrazier_66 : DD prog_11_method_15_code 66 (.aload_n 0) 1 67 := ⟨by decide +kernel, rfl⟩
theorem d_X9_readBrazier_67 : DD prog_11_method_15_code 67 (.iload 4) 2 69 := ⟨by decide +kernel, rfl⟩
theorem d_X9_readBrazier_69 : DD prog_11_method_15_code 69 (.bipush 11) 2 71 := ⟨by decide +kernel, rfl⟩
theorem d_X9_readBrazier_71 : DD prog_11_method_15_code 71 (.invokevirtual 134) 3 74 := ⟨by decide +kernel, rfl⟩
theorem d_X9_readBrazier_74 : DJ prog_11_method_15_code 74 (fun o => .ifCond .ne o) 79 3 77 := ⟨by decide +kernel, rfl⟩
theorem d_X9_readBrazier_77 : DD prog_11_method_15_code 77 (.iconst 0) 1 78 := ⟨by decide +kernel, rfl⟩
theorem d_X9_readBrazier_78 : DD prog_11_method_15_code 78 (.ireturn) 1 79 := ⟨by decide +kernel, rfl⟩
theorem d_X9_readBrazier_79 : DD prog_11_method_15_code 79 (.aload_n 1) 1 80 := ⟨by decide +kernel, rfl⟩
theorem d_X9_readBrazier_80 : DD prog_11_method_15_code 80 (.iload_n 2) 1 81 := ⟨by decide +kernel, rfl⟩
theorem d_X9_readBrazier_81 : DD prog_11_method_15_code 81 (.iload_n 3) 1 82 := ⟨by decide +kernel, rfl⟩
theorem d_X9_readBrazier_82 : DD prog_11_method_15_code 82 (.iload 4) 2 84 := ⟨by decide +kernel, rfl⟩
theorem d_X9_readBrazier_84 : DD prog_11_method_15_code 84 (.aload_n 0) 1 85 := ⟨by decide +kernel, rfl⟩
theorem d_X9_readBrazier_85 : DD prog_11_method_15_code 85 (.getfield 137) 3 88 := ⟨by decide +kernel, rfl⟩
theorem d_X9_readBrazier_88 : DD prog_11_method_15_code 88 (.invokevirtual 216) 3 91 := ⟨by decide +kernel, rfl⟩
theorem d_X9_readBrazier_91 : DD prog_11_method_15_code 91 (.aload_n 0) 1 92 := ⟨by decide +kernel, rfl⟩
theorem d_X9_readBrazier_92 : DD prog_11_method_15_code 92 (.invokevirtual 140) 3 95 := ⟨by decide +kernel, rfl⟩
theorem d_X9_readBrazier_95 : DD prog_11_method_15_code 95 (.ireturn) 1 96 := ⟨by decide +kernel, rfl⟩
theorem d_X9_readHouse_0 : DD prog_11_method_16_code 0 (.aload_n 1) 1 1 := ⟨by decide +kernel, rfl⟩
theorem d_X9_readHouse_1 : DD prog_11_method_16_code 1 (.getfield 220) 3 4 := ⟨by decide +kernel, rfl⟩
theorem d_X9_readHouse_4 : DD prog_11_method_16_code 4 (.bipush 8) 2 6 := ⟨by decide +kernel, rfl⟩
theorem d_X9_readHouse_6 : DJ prog_11_method_16_code 6 (fun o => .if_icmp .lt o) 19 3 9 := ⟨by decide +kernel, rfl⟩
theorem d_X9_readHouse_9 : DD prog_11_method_16_code 9 (.aload_n 0) 1 10 := ⟨by decide +kernel, rfl⟩
theorem d_X9_readHouse_10 : DD prog_11_method_16_code 10 (.iconst 5) 1 11 := ⟨by decide +kernel, rfl⟩
theorem d_X9_readHouse_11 : DD prog_11_method_16_code 11 (.aload_n 0) 1 12 := ⟨by decide +kernel, rfl⟩
theorem d_X9_readHouse_12 : DD prog_11_method_16_code 12 (.getfield 127) 3 15 := ⟨by decide +kernel, rfl⟩
theorem d_X9_readHouse_15 : DD prog_11_method_16_code 15 (.invokevirtual 60) 3 18 := ⟨by decide +kernel, rfl⟩
theorem d_X9_readHouse_18 : DD prog_11_method_16_code 18 (.ireturn) 1 19 := ⟨by decide +kernel, rfl⟩
theorem d_X9_readHouse_19 : DD prog_11_method_16_code 19 (.aload_n 0) 1 20 := ⟨by decide +kernel, rfl⟩
theorem d_X9_readHouse_20 : DD prog_11_method_16_code 20 (.invokevirtual 160) 3 23 := ⟨by decide +kernel, rfl⟩
theorem d_X9_readHouse_23 : DJ prog_11_method_16_code 23 (fun o => .ifCond .ne o) 28 3 26 := ⟨by decide +kernel, rfl⟩
theorem d_X9_readHouse_26 : DD prog_11_method_16_code 26 (.iconst 0) 1 27 := ⟨by decide +kernel, rfl⟩
theorem d_X9_readHouse_27 : DD prog_11_method_16_code 27 (.ireturn) 1 28 := ⟨by decide +kernel, rfl⟩
theorem d_X9_readHouse_28 : DD prog_11_method_16_code 28 (.aload_n 0) 1 29 := ⟨by decide +kernel, rfl⟩
theorem d_X9_readHouse_29 : DD prog_11_method_16_code 29 (.getfield 137) 3 32 := ⟨by decide +kernel, rfl⟩
theorem d_X9_readHouse_32 : DD prog_11_method_16_code 32 (.istore_n 2) 1 33 := ⟨by decide +kernel, rfl⟩
theorem d_X9_readHouse_33 : DD prog_11_method_16_code 33 (.aload_n 0) 1 34 := ⟨by decide +kernel, rfl⟩
theorem d_X9_readHouse_34 : DD prog_11_method_16_code 34 (.iconst 0) 1 35 := ⟨by decide +kernel, rfl⟩
theorem d_X9_readHouse_35 : DD prog_11_method_16_code 35 (.bipush 9) 2 37 := ⟨by decide +kernel, rfl⟩
theorem d_X9_readHouse_37 : DD prog_11_method_16_code 37 (.invokevirtual 134) 3 40 := ⟨by decide +kernel, rfl⟩
theorem d_X9_readHouse_40 : DJ prog_11_method_16_code 40 (fun o => .ifCond .ne o) 45 3 43 := ⟨by decide +kernel, rfl⟩
theorem d_X9_readHouse_43 : DD prog_11_method_16_code 43 (.iconst 0) 1 44 := ⟨by decide +kernel, rfl⟩
theorem d_X9_readHouse_44 : DD prog_11_method_16_code 44 (.ireturn) 1 45 := ⟨by decide +kernel, rfl⟩
theorem d_X9_readHouse_45 : DD prog_11_method_16_code 45 (.aload_n 0) 1 46 := ⟨by decide +kernel, rfl⟩
theorem d_X9_readHouse_46 : DD prog_11_method_16_code 46 (.getfield 137) 3 49 := ⟨by decide +kernel, rfl⟩
theorem d_X9_readHouse_49 : DD prog_11_method_16_code 49 (.istore_n 3) 1 50 := ⟨by decide +kernel, rfl⟩
theorem d_X9_readHouse_50 : DD prog_11_method_16_code 50 (.aload_n 0) 1 51 := ⟨by decide +kernel, rfl⟩
theorem d_X9_readHouse_51 : DD prog_11_method_16_code 51 (.invokevirtual 165) 3 54 := ⟨by decide +kernel, rfl⟩
theorem d_X9_readHouse_54 : DJ prog_11_method_16_code 54 (fun o => .ifCond .ne o) 59 3 57 := ⟨by decide +kernel, rfl⟩
theorem d_X9_readHouse_57 : DD prog_11_method_16_code 57 (.iconst 0) 1 58 := ⟨by decide +kernel, rfl⟩
theorem d_X9_readHouse_58 : DD prog_11_method_16_code 58 (.ireturn) 1 59 := ⟨by decide +kernel, rfl⟩
theorem d_X9_readHouse_59 : DD prog_11_method_16_code 59 (.aload_n 1) 1 60 := ⟨by decide +kernel, rfl⟩
theorem d_X9_readHouse_60 : DD prog_11_method_16_code 60 (.iload_n 2) 1 61 := ⟨by decide +kernel, rfl⟩
theorem d_X9_readHouse_61 : DD prog_11_method_16_code 61 (.aload_n 0) 1 62 := ⟨by decide +kernel, rfl⟩
theorem d_X9_readHouse_62 : DD prog_11_method_16_code 62 (.getfield 137) 3 65 := ⟨by decide +kernel, rfl⟩
theorem d_X9_readHouse_65 : DJ prog_11_method_16_code 65 (fun o => .ifCond .ne o) 73 3 68 := ⟨by decide +kernel, rfl⟩
theorem d_X9_readHouse_68 : DD prog_11_method_16_code 68 (.iload_n 3) 1 69 := ⟨by decide +kernel, rfl⟩
theorem d_X9_readHouse_69 : DD prog_11_method_16_code 69 (.ineg) 1 70 := ⟨by decide +kernel, rfl⟩
theorem d_X9_readHouse_70 : DJ prog_11_method_16_code 70 (fun o => .goto o) 74 3 73 := ⟨by decide +kernel, rfl⟩
theorem d_X9_readHouse_73 : DD prog_11_method_16_code 73 (.iload_n 3) 1 74 := ⟨by decide +kernel, rfl⟩
theorem d_X9_readHouse_74 : DD prog_11_method_16_code 74 (.invokevirtual 223) 3 77 := ⟨by decide +kernel, rfl⟩
theorem d_X9_readHouse_77 : DD prog_11_method_16_code 77 (.aload_n 0) 1 78 := ⟨by decide +kernel, rfl⟩
theorem d_X9_readHouse_78 : DD prog_11_method_16_code 78 (.invokevirtual 140) 3 81 := ⟨by decide +kernel, rfl⟩
theorem d_X9_readHouse_81 : DD prog_11_method_16_code 81 (.ireturn) 1 82 := ⟨by decide +kernel, rfl⟩
theorem d_X9_readLine_0 : DD prog_11_method_6_code 0 (.aload_n 0) 1 1 := ⟨by decide +kernel, rfl⟩
theorem d_X9_readLine_1 : DD prog_11_method_6_code 1 (.ldc 64) 2 3 := ⟨by decide +kernel, rfl⟩
theorem d_X9_readLine_3 : DD prog_11_method_6_code 3 (.invokevirtual 65) 3 6 := ⟨by decide +kernel, rfl⟩
theorem d_X9_readLine_6 : DJ prog_11_method_6_code 6 (fun o => .ifCond .eq o) 15 3 9 := ⟨by decide +kernel, rfl⟩
theorem d_X9_readLine_9 : DD prog_11_method_6_code 9 (.aload_n 0) 1 10 := ⟨by decide +kernel, rfl⟩
theorem d_X9_readLine_10 : DD prog_11_method_6_code 10 (.aload_n 1) 1 11 := ⟨by decide +kernel, rfl⟩
theorem d_X9_readLine_11 : DD prog_11_method_6_code 11 (.invokevirtual 69) 3 14 := ⟨by decide +kernel, rfl⟩
theorem d_X9_readLine_14 : DD prog_11_method_6_code 14 (.ireturn) 1 15 := ⟨by decide +kernel, rfl⟩
theorem d_X9_readLine_15 : DD prog_11_method_6_code 15 (.aload_n 0) 1 16 := ⟨by decide +kernel, rfl⟩
theorem d_X9_readLine_16 : DD prog_11_method_6_code 16 (.ldc 72) 2 18 := ⟨by decide +kernel, rfl⟩
theorem d_X9_readLine_18 : DD prog_11_method_6_code 18 (.invokevirtual 65) 3 21 := ⟨by decide +kernel, rfl⟩
theorem d_X9_readLine_21 : DJ prog_11_method_6_code 21 (fun o => .ifCond .eq o) 39 3 24 := ⟨by decide +kernel, rfl⟩
theorem d_X9_readLine_24 : DD prog_11_method_6_code 24 (.aload_n 0) 1 25 := ⟨by decide +kernel, rfl⟩
theorem d_X9_readLine_25 : DD prog_11_method_6_code 25 (.iconst 2) 1 26 := ⟨by decide +kernel, rfl⟩
theorem d_X9_readLine_26 : DD prog_11_method_6_code 26 (.aload_n 1) 1 27 := ⟨by decide +kernel, rfl⟩
theorem d_X9_readLine_27 : DD prog_11_method_6_code 27 (.getfield 74) 3 30 := ⟨by decide +kernel, rfl⟩
theorem d_X9_readLine_30 : DD prog_11_method_6_code 30 (.getfield 78) 3 33 := ⟨by decide +kernel, rfl⟩
theorem d_X9_readLine_33 : DD prog_11_method_6_code 33 (.bipush 9) 2 35 := ⟨by decide +kernel, rfl⟩
theorem d_X9_readLine_35 : DD prog_11_method_6_code 35 (.invokevirtual 83) 3 38 := ⟨by decide +kernel, rfl⟩
theorem d_X9_readLine_38 : DD prog_11_method_6_code 38 (.ireturn) 1 39 := ⟨by decide +kernel, rfl⟩
theorem d_X9_readLine_39 : DD prog_11_method_6_code 39 (.aload_n 0) 1 40 := ⟨by decide +kernel, rfl⟩
theorem d_X9_readLine_40 : DD prog_11_method_6_code 40 (.ldc 87) 2 42 := ⟨by decide +kernel, rfl⟩
theorem d_X9_readLine_42 : DD prog_11_method_6_code 42 (.invokevirtual 65) 3 45 := ⟨by decide +kernel, rfl⟩
theorem d_X9_readLine_45 : DJ prog_11_method_6_code 45 (fun o => .ifCond .eq o) 60 3 48 := ⟨by decide +kernel, rfl⟩
theorem d_X9_readLine_48 : DD prog_11_method_6_code 48 (.aload_n 0) 1 49 := ⟨by decide +kernel, rfl⟩
theorem d_X9_readLine_49 : DD prog_11_method_6_code 49 (.iconst 4) 1 50 := ⟨by decide +kernel, rfl⟩
theorem d_X9_readLine_50 : DD prog_11_method_6_code 50 (.aload_n 1) 1 51 := ⟨by decide +kernel, rfl⟩
theorem d_X9_readLine_51 : DD prog_11_method_6_code 51 (.getfield 89) 3 54 := ⟨by decide +kernel, rfl⟩
theorem d_X9_readLine_54 : DD prog_11_method_6_code 54 (.bipush 9) 2 56 := ⟨by decide +kernel, rfl⟩
theorem d_X9_readLine_56 : DD prog_11_method_6_code 56 (.invokevirtual 83) 3 59 := ⟨by decide +kernel, rfl⟩
theorem d_X9_readLine_59 : DD prog_11_method_6_code 59 (.ireturn) 1 60 := ⟨by decide +kernel, rfl⟩
theorem d_X9_readLine_60 : DD prog_11_method_6_code 60 (.aload_n 0) 1 61 := ⟨by decide +kernel, rfl⟩
theorem d_X9_readLine_61 : DD prog_11_method_6_code 61 (.ldc 91) 2 63 := ⟨by decide +kernel, rfl⟩
theorem d_X9_readLine_63 : DD prog_11_method_6_code 63 (.invokevirtual 65) 3 66 := ⟨by decide +kernel, rfl⟩
theorem d_X9_readLine_66 : DJ prog_11_method_6_code 66 (fun o => .ifCond .eq o) 78 3 69 := ⟨by decide +kernel, rfl⟩
theorem d_X9_readLine_69 : DD prog_11_method_6_code 69 (.aload_n 0) 1 70 := ⟨by decide +kernel, rfl⟩
theorem d_X9_readLine_70 : DD prog_11_method_6_code 70 (.aload_n 1) 1 71 := ⟨by decide +kernel, rfl⟩
theorem d_X9_readLine_71 : DD prog_11_method_6_code 71 (.getfield 93) 3 74 := ⟨by decide +kernel, rfl⟩
theorem d_X9_readLine_74 : DD prog_11_method_6_code 74 (.invokevirtual 97) 3 77 := ⟨by decide +kernel, rfl⟩
theorem d_X9_readLine_77 : DD prog_11_method_6_code 77 (.ireturn) 1 78 := ⟨by decide +kernel, rfl⟩
theorem d_X9_readLine_78 : DD prog_11_method_6_code 78 (.aload_n 0) 1 79 := ⟨by decide +kernel, rfl⟩
theorem d_X9_readLine_79 : DD prog_11_method_6_code 79 (.ldc 101) 2 81 := ⟨by decide +kernel, rfl⟩
theorem d_X9_readLine_81 : DD prog_11_method_6_code 81 (.invokevirtual 65) 3 84 := ⟨by decide +kernel, rfl⟩
theorem d_X9_readLine_84 : DJ prog_11_method_6_code 84 (fun o => .ifCond .eq o) 96 3 87 := ⟨by decide +kernel, rfl⟩
theorem d_X9_readLine_87 : DD prog_11_method_6_code 87 (.aload_n 0) 1 88 := ⟨by decide +kernel, rfl⟩
theorem d_X9_readLine_88 : DD prog_11_method_6_code 88 (.aload_n 1) 1 89 := ⟨by decide +kernel, rfl⟩
theorem d_X9_readLine_89 : DD prog_11_method_6_code 89 (.getfield 74) 3 92 := ⟨by decide +kernel, rfl⟩
theorem d_X9_readLine_92 : DD prog_11_method_6_code 92 (.invokevirtual 103) 3 95 := ⟨by decide +kernel, rfl⟩
theorem d_X9_readLine_95 : DD prog_11_method_6_code 95 (.ireturn) 1 96 := ⟨by decide +kernel, rfl⟩
theorem d_X9_readLine_96 : DD prog_11_method_6_code 96 (.aload_n 0) 1 97 := ⟨by decide +kernel, rfl⟩
theorem d_X9_readLine_97 : DD prog_11_method_6_code 97 (.ldc 107) 2 99 := ⟨by decide +kernel, rfl⟩
theorem d_X9_readLine_99 : DD prog_11_method_6_code 99 (.invokevirtual 65) 3 102 := ⟨by decide +kernel, rfl⟩
theorem d_X9_readLine_102 : DJ prog_11_method_6_code 102 (fun o => .ifCond .eq o) 114 3 105 := ⟨by decide +kernel, rfl⟩
theorem d_X9_readLine_105 : DD prog_11_method_6_code 105 (.aload_n 0) 1 106 := ⟨by decide +kernel, rfl⟩
theorem d_X9_readLine_106 : DD prog_11_method_6_code 106 (.aload_n 1) 1 107 := ⟨by decide +kernel, rfl⟩
theorem d_X9_readLine_107 : DD prog_11_method_6_code 107 (.getfield 74) 3 110 := ⟨by decide +kernel, rfl⟩
theorem d_X9_readLine_110 : DD prog_11_method_6_code 110 (.invokevirtual 109) 3 113 := ⟨by decide +kernel, rfl⟩
theorem d_X9_readLine_113 : DD prog_11_method_6_code 113 (.ireturn) 1 114 := ⟨by decide +kernel, rfl⟩
theorem d_X9_readLine_114 : DD prog_11_method_6_code 114 (.aload_n 0) 1 115 := ⟨by decide +kernel, rfl⟩
theorem d_X9_readLine_115 : DD prog_11_method_6_code 115 (.ldc 112) 2 117 := ⟨by decide +kernel, rfl⟩
theorem d_X9_readLine_117 : DD prog_11_method_6_code 117 (.invokevirtual 65) 3 120 := ⟨by decide +kernel, rfl⟩
theorem d_X9_readLine_120 : DJ prog_11_method_6_code 120 (fun o => .ifCond .eq o) 135 3 123 := ⟨by decide +kernel, rfl⟩
theorem d_X9_readLine_123 : DD prog_11_method_6_code 123 (.aload_n 0) 1 124 := ⟨by decide +kernel, rfl⟩
theorem d_X9_readLine_124 : DD prog_11_method_6_code 124 (.aload_n 1) 1 125 := ⟨by decide +kernel, rfl⟩
theorem d_X9_readLine_125 : DD prog_11_method_6_code 125 (.getfield 74) 3 128 := ⟨by decide +kernel, rfl⟩
theorem d_X9_readLine_128 : DD prog_11_method_6_code 128 (.getfield 114) 3 131 := ⟨by decide +kernel, rfl⟩
theorem d_X9_readLine_131 : DD prog_11_method_6_code 131 (.invokevirtual 118) 3 134 := ⟨by decide +kernel, rfl⟩
theorem d_X9_readLine_134 : DD prog_11_method_6_code 134 (.ireturn) 1 135 := ⟨by decide +kernel, rfl⟩
theorem d_X9_readLine_135 : DD prog_11_method_6_code 135 (.aload_n 0) 1 136 := ⟨by decide +kernel, rfl⟩
theorem d_X9_readLine_136 : DD prog_11_method_6_code 136 (.ldc 122) 2 138 := ⟨by decide +kernel, rfl⟩
theorem d_X9_readLine_138 : DD prog_11_method_6_code 138 (.invokevirtual 65) 3 141 := ⟨by decide +kernel, rfl⟩
theorem d_X9_readLine_141 : DJ prog_11_method_6_code 141 (fun o => .ifCond .eq o) 150 3 144 := ⟨by decide +kernel, rfl⟩
theorem d_X9_readLine_144 : DD prog_11_method_6_code 144 (.aload_n 0) 1 145 := ⟨by decide +kernel, rfl⟩
theorem d_X9_readLine_145 : DD prog_11_method_6_code 145 (.aload_n 1) 1 146 := ⟨by decide +kernel, rfl⟩
theorem d_X9_readLine_146 : DD prog_11_method_6_code 146 (.invokevirtual 124) 3 149 := ⟨by decide +kernel, rfl⟩
theorem d_X9_readLine_149 : DD prog_11_method_6_code 149 (.ireturn) 1 150 := ⟨by decide +kernel, rfl⟩
theorem d_X9_readLine_150 : DD prog_11_method_6_code 150 (.aload_n 0) 1 151 := ⟨by decide +kernel, rfl⟩
theorem d_X9_readLine_151 : DD prog_11_method_6_code 151 (.iconst 2) 1 152 := ⟨by decide +kernel, rfl⟩
theorem d_X9_readLine_152 : DD prog_11_method_6_code 152 (.aload_n 0) 1 153 := ⟨by decide +kernel, rfl⟩
theorem d_X9_readLine_153 : DD prog_11_method_6_code 153 (.getfield 127) 3 156 := ⟨by decide +kernel, rfl⟩
theorem d_X9_readLine_156 : DD prog_11_method_6_code 156 (.invokevirtual 60) 3 159 := ⟨by decide +kernel, rfl⟩
theorem d_X9_readLine_159 : DD prog_11_method_6_code 159 (.ireturn) 1 160 := ⟨by decide +kernel, rfl⟩
theorem d_X9_tell_0 : DD prog_11_method_4_code 0 (.aload_n 0) 1 1 := ⟨by decide +kernel, rfl⟩
theorem d_X9_tell_1 : DD prog_11_method_4_code 1 (.iconst 0) 1 2 := ⟨by decide +kernel, rfl⟩
theorem d_X9_tell_2 : DD prog_11_method_4_code 2 (.putfield 23) 3 5 := ⟨by decide +kernel, rfl⟩
theorem d_X9_tell_5 : DD prog_11_method_4_code 5 (.aload_n 0) 1 6 := ⟨by decide +kernel, rfl⟩
theorem d_X9_tell_6 : DD prog_11_method_4_code 6 (.iconst 0) 1 7 := ⟨by decide +kernel, rfl⟩
theorem d_X9_tell_7 : DD prog_11_method_4_code 7 (.putfield 26) 3 10 := ⟨by decide +kernel, rfl⟩
theorem d_X9_tell_10 : DD prog_11_method_4_code 10 (.aload_n 0) 1 11 := ⟨by decide +kernel, rfl⟩
theorem d_X9_tell_11 : DD prog_11_method_4_code 11 (.iconst 0) 1 12 := ⟨by decide +kernel, rfl⟩
theorem d_X9_tell_12 : DD prog_11_method_4_code 12 (.putfield 29) 3 15 := ⟨by decide +kernel, rfl⟩
theorem d_X9_tell_15 : DD prog_11_method_4_code 15 (.aload_n 0) 1 16 := ⟨by decide +kernel, rfl⟩
theorem d_X9_tell_16 : DD prog_11_method_4_code 16 (.iconst 0) 1 17 := ⟨by decide +kernel, rfl⟩
theorem d_X9_tell_17 : DD prog_11_method_4_code 17 (.putfield 32) 3 20 := ⟨by decide +kernel, rfl⟩
theorem d_X9_tell_20 : DD prog_11_method_4_code 20 (.aload_n 0) 1 21 := ⟨by decide +kernel, rfl⟩
theorem d_X9_tell_21 : DD prog_11_method_4_code 21 (.iconst 0) 1 22 := ⟨by decide +kernel, rfl⟩
theorem d_X9_tell_22 : DD prog_11_method_4_code 22 (.putfield 35) 3 25 := ⟨by decide +kernel, rfl⟩
theorem d_X9_tell_25 : DD prog_11_method_4_code 25 (.aload_n 0) 1 26 := ⟨by decide +kernel, rfl⟩
theorem d_X9_tell_26 : DD prog_11_method_4_code 26 (.iconst 0) 1 27 := ⟨by decide +kernel, rfl⟩
theorem d_X9_tell_27 : DD prog_11_method_4_code 27 (.putfield 38) 3 30 := ⟨by decide +kernel, rfl⟩
theorem d_X9_tell_30 : DD prog_11_method_4_code 30 (.aload_n 0) 1 31 := ⟨by decide +kernel, rfl⟩
theorem d_X9_tell_31 : DD prog_11_method_4_code 31 (.iconst 0) 1 32 := ⟨by decide +kernel, rfl⟩
theorem d_X9_tell_32 : DD prog_11_method_4_code 32 (.putfield 41) 3 35 := ⟨by decide +kernel, rfl⟩
theorem d_X9_tell_35 : DD prog_11_method_4_code 35 (.aload_n 0) 1 36 := ⟨by decide +kernel, rfl⟩
theorem d_X9_tell_36 : DD prog_11_method_4_code 36 (.invokevirtual 44) 3 39 := ⟨by decide +kernel, rfl⟩
theorem d_X9_tell_39 : DD prog_11_method_4_code 39 (.istore_n 2) 1 40 := ⟨by decide +kernel, rfl⟩
theorem d_X9_tell_40 : DD prog_11_method_4_code 40 (.aload_n 0) 1 41 := ⟨by decide +kernel, rfl⟩
theorem d_X9_tell_41 : DD prog_11_method_4_code 41 (.getfield 23) 3 44 := ⟨by decide +kernel, rfl⟩
theorem d_X9_tell_44 : DD prog_11_method_4_code 44 (.sipush 400) 3 47 := ⟨by decide +kernel, rfl⟩
theorem d_X9_tell_47 : DJ prog_11_method_4_code 47 (fun o => .if_icmp .ge o) 95 3 50 := ⟨by decide +kernel, rfl⟩
theorem d_X9_tell_50 : DD prog_11_method_4_code 50 (.iload_n 2) 1 51 := ⟨by decide +kernel, rfl⟩
theorem d_X9_tell_51 : DJ prog_11_method_4_code 51 (fun o => .ifCond .eq o) 95 3 54 := ⟨by decide +kernel, rfl⟩
theorem d_X9_tell_54 : DD prog_11_method_4_code 54 (.aload_n 0) 1 55 := ⟨by decide +kernel, rfl⟩
theorem d_X9_tell_55 : DD prog_11_method_4_code 55 (.getfield 48) 3 58 := ⟨by decide +kernel, rfl⟩
theorem d_X9_tell_58 : DJ prog_11_method_4_code 58 (fun o => .ifCond .eq o) 95 3 61 := ⟨by decide +kernel, rfl⟩
theorem d_X9_tell_61 : DD prog_11_method_4_code 61 (.aload_n 0) 1 62 := ⟨by decide +kernel, rfl⟩
theorem d_X9_tell_62 : DD prog_11_method_4_code 62 (.aload_n 1) 1 63 := ⟨by decide +kernel, rfl⟩
theorem d_X9_tell_63 : DD prog_11_method_4_code 63 (.invokevirtual 51) 3 66 := ⟨by decide +kernel, rfl⟩
theorem d_X9_tell_66 : DJ prog_11_method_4_code 66 (fun o => .ifCond .eq o) 80 3 69 := ⟨by decide +kernel, rfl⟩
theorem d_X9_tell_69 : DD prog_11_method_4_code 69 (.aload_n 0) 1 70 := ⟨by decide +kernel, rfl⟩
theorem d_X9_tell_70 : DD prog_11_method_4_code 70 (.invokevirtual 44) 3 73 := ⟨by decide +kernel, rfl⟩
theorem d_X9_tell_73 : DJ prog_11_method_4_code 73 (fun o => .ifCond .eq o) 80 3 76 := ⟨by decide +kernel, rfl⟩
theorem d_X9_tell_76 : DD prog_11_method_4_code 76 (.iconst 1) 1 77 := ⟨by decide +kernel, rfl⟩
theorem d_X9_tell_77 : DJ prog_11_method_4_code 77 (fun o => .goto o) 81 3 80 := ⟨by decide +kernel, rfl⟩
theorem d_X9_tell_80 : DD prog_11_method_4_code 80 (.iconst 0) 1 81 := ⟨by decide +kernel, rfl⟩
theorem d_X9_tell_81 : DD prog_11_method_4_code 81 (.istore_n 2) 1 82 := ⟨by decide +kernel, rfl⟩
theorem d_X9_tell_82 : DD prog_11_method_4_code 82 (.aload_n 0) 1 83 := ⟨by decide +kernel, rfl⟩
theorem d_X9_tell_83 : DD prog_11_method_4_code 83 (.dup) 1 84 := ⟨by decide +kernel, rfl⟩
theorem d_X9_tell_84 : DD prog_11_method_4_code 84 (.getfield 23) 3 87 := ⟨by decide +kernel, rfl⟩
theorem d_X9_tell_87 : DD prog_11_method_4_code 87 (.iconst 1) 1 88 := ⟨by decide +kernel, rfl⟩
theorem d_X9_tell_88 : DD prog_11_method_4_code 88 (.iadd) 1 89 := ⟨by decide +kernel, rfl⟩
theorem d_X9_tell_89 : DD prog_11_method_4_code 89 (.putfield 23) 3 92 := ⟨by decide +kernel, rfl⟩
theorem d_X9_tell_92 : DJ prog_11_method_4_code 92 (fun o => .goto o) 40 3 95 := ⟨by decide +kernel, rfl⟩
theorem d_X9_tell_95 : DD prog_11_method_4_code 95 (.iload_n 2) 1 96 := ⟨by decide +kernel, rfl⟩
theorem d_X9_tell_96 : DJ prog_11_method_4_code 96 (fun o => .ifCond .eq o) 121 3 99 := ⟨by decide +kernel, rfl⟩
theorem d_X9_tell_99 : DD prog_11_method_4_code 99 (.aload_n 0) 1 100 := ⟨by decide +kernel, rfl⟩
theorem d_X9_tell_100 : DD prog_11_method_4_code 100 (.getfield 41) 3 103 := ⟨by decide +kernel, rfl⟩
theorem d_X9_tell_103 : DD prog_11_method_4_code 103 (.aload_n 1) 1 104 := ⟨by decide +kernel, rfl⟩
theorem d_X9_tell_104 : DD prog_11_method_4_code 104 (.getfield 55) 3 107 := ⟨by decide +kernel, rfl⟩
theorem d_X9_tell_107 : DJ prog_11_method_4_code 107 (fun o => .if_icmp .lt o) 121 3 110 := ⟨by decide +kernel, rfl⟩
theorem d_X9_tell_110 : DD prog_11_method_4_code 110 (.aload_n 0) 1 111 := ⟨by decide +kernel, rfl⟩
theorem d_X9_tell_111 : DD prog_11_method_4_code 111 (.bipush 6) 2 113 := ⟨by decide +kernel, rfl⟩
theorem d_X9_tell_113 : DD prog_11_method_4_code 113 (.aload_n 0) 1 114 := ⟨by decide +kernel, rfl⟩
theorem d_X9_tell_114 : DD prog_11_method_4_code 114 (.getfield 15) 3 117 := ⟨by decide +kernel, rfl⟩
theorem d_X9_tell_117 : DD prog_11_method_4_code 117 (.invokevirtual 60) 3 120 := ⟨by decide +kernel, rfl⟩
theorem d_X9_tell_120 : DD prog_11_method_4_code 120 (.pop) 1 121 := ⟨by decide +kernel, rfl⟩
theorem d_X9_tell_121 : DD prog_11_method_4_code 121 (.return_) 1 122 := ⟨by decide +kernel, rfl⟩
def f_X9_append_49 (M : Mm) : Option (Int32 × Mm) :=
wr (wI M 1 1 ((M.1 1 1) + (8 : Int32))) fun M1 =>
some ((M1.1 1 1), M1)
def b_X9_append_15 (k15 : Mm → Int32 → Option (Int32 × Mm)) (j1 : Int64) (M : Mm) (x3 : Int32) : Option (Int32 × Mm) :=
if (8 : Int32) ≤ x3 then
(f_X9_append_49 M)
else
(ck (inn ((M.1 1 1) + x3) 400) <|
wr (wI M 2 ((M.1 1 1) + x3).toNatClampNeg (vp_nar .byte (((((j1).toUInt64 >>> ((((8 : Int32) * ((7 : Int32) - x3))).toInt64.toUInt64 &&& Int64.toUInt64 63)).toInt64).toInt32).toInt8.toInt32))) fun M2 =>
k15 M2 (x3 + (1 : Int32)))
def f_X9_append_15 (j1 : Int64) : Nat → Mm → Int32 → Option (Int32 × Mm)
  | 0, _, _ => none
  | n + 1, M, x3 => b_X9_append_15 (fun M x3 => f_X9_append_15 j1 n M x3) j1 M x3
def f_X9_append (M : Mm) (j1 : Int64) : Option (Int32 × Mm) :=
if (M.1 1 1) ≤ (392 : Int32) then
(f_X9_append_15 j1 FU M (0 : Int32))
else
(some ((-3 : Int32), M))
def f_X9_cut (M : Mm) (x1 : Int32) : Option (Int32 × Mm) :=
bd (f_X11_isAmong x1 (0 : Int32) (M.1 1 1)) fun p2 =>
if p2 = 0 then
(some ((-1 : Int32), M))
else
(nm ((M.1 1 1)) fun v4 =>
wr (wI M 1 1 x1) fun M6 =>
some (v4, M6))
def f_X9_refuse (M : Mm) (x1 : Int32) (x2 : Int32) : Option (Int32 × Mm) :=
wr (wI M 1 3 x1) fun M1 =>
wr (wI M1 1 4 x2) fun M3 =>
some ((0 : Int32), M3)
def f_X9_readToken_297 (M : Mm) (s_0 : Int32) : Option (Int32 × Mm) :=
ck (isB s_0) <|
some (s_0, M)
def f_X9_readToken_292 (M : Mm) : Option (Int32 × Mm) :=
f_X9_readToken_297 M (1 : Int32)
def f_X9_readToken_259 (M : Mm) (x1 : Int32) : Option (Int32 × Mm) :=
if x1 = 0 then
(bd (f_X11_isAmong ((M.1 1 7) - (M.1 1 6)) (1 : Int32) (3 : Int32)) fun p3 =>
if p3 = 0 then
(bd (f_X9_refuse M (1 : Int32) (M.1 1 6)) fun p6 =>
if p6.1 = 0 then
(f_X9_readToken_297 p6.2 (0 : Int32))
else
(f_X9_readToken_292 p6.2))
else
(f_X9_readToken_292 M))
else
(f_X9_readToken_292 M)
def b_X9_readToken_218 (k218 : Mm → Int32 → Option (Int32 × Mm)) (x1 : Int32) (M : Mm) (x4 : Int32) : Option (Int32 × Mm) :=
if (M.1 1 7) ≤ x4 then
(f_X9_readToken_259 M x1)
else
(if x1 = 0 then
(ck (inn x4 400) <|
wr (wI M 1 8 ((((10 : Int32) * (M.1 1 8)) + (M.1 2 x4.toNatClampNeg)) - (48 : Int32))) fun M4 =>
k218 M4 (x4 + (1 : Int32)))
else
(f_X9_readToken_259 M x1))
def f_X9_readToken_218 (x1 : Int32) : Nat → Mm → Int32 → Option (Int32 × Mm)
  | 0, _, _ => none
  | n + 1, M, x4 => b_X9_readToken_218 (fun M x4 => f_X9_readToken_218 x1 n M x4) x1 M x4
def f_X9_readToken_204 (M : Mm) (x1 : Int32) (s_1 : Int32) : Option (Int32 × Mm) :=
wr (wI M 1 5 s_1) fun M1 =>
wr (wI M1 1 8 (0 : Int32)) fun M3 =>
nm ((M3.1 1 6)) fun v5 =>
f_X9_readToken_218 x1 FU M3 v5
def f_X9_readToken_194 (M : Mm) (x1 : Int32) : Option (Int32 × Mm) :=
if x1 = 0 then
(f_X9_readToken_204 M x1 (2 : Int32))
else
(f_X9_readToken_204 M x1 (1 : Int32))
def b_X9_readToken_144 (k144 : Mm → Option (Int32 × Mm)) (x1 : Int32) (x2 : Int32) (x3 : Int32) (M : Mm) : Option (Int32 × Mm) :=
if (M.1 1 1) ≤ (M.1 1 7) then
(f_X9_readToken_194 M x1)
else
(ck (inn (M.1 1 7) 400) <|
if (M.1 2 (M.1 1 7).toNatClampNeg) < x2 then
(f_X9_readToken_194 M x1)
else
(if x3 < (M.1 2 (M.1 1 7).toNatClampNeg) then
(f_X9_readToken_194 M x1)
else
(wr (wI M 1 7 ((M.1 1 7) + (1 : Int32))) fun M5 =>
k144 M5)))
def f_X9_readToken_144 (x1 : Int32) (x2 : Int32) (x3 : Int32) : Nat → Mm → Option (Int32 × Mm)
  | 0, _ => none
  | n + 1, M => b_X9_readToken_144 (fun M => f_X9_readToken_144 x1 x2 x3 n M) x1 x2 x3 M
def f_X9_readToken_143 (M : Mm) (x1 : Int32) (x2 : Int32) (s_0 : Int32) : Option (Int32 × Mm) :=
f_X9_readToken_144 x1 x2 s_0 FU M
def f_X9_readToken_131 (M : Mm) (x1 : Int32) (s_0 : Int32) : Option (Int32 × Mm) :=
if x1 = 0 then
(f_X9_readToken_143 M x1 s_0 (57 : Int32))
else
(f_X9_readToken_143 M x1 s_0 (122 : Int32))
def f_X9_readToken_46 (M : Mm) : Option (Int32 × Mm) :=
wr (wI M 1 7 (M.1 1 6)) fun M1 =>
if (M1.1 1 6) < (M1.1 1 1) then
(ck (inn (M1.1 1 6) 400) <|
if (M1.1 2 (M1.1 1 6).toNatClampNeg) = (59 : Int32) then
(wr (wI M1 1 5 (3 : Int32)) fun M9 =>
wr (wI M9 1 7 ((M9.1 1 6) + (1 : Int32))) fun M11 =>
some ((1 : Int32), M11))
else
(bd (f_X11_isAmong (M1.1 2 (M1.1 1 6).toNatClampNeg) (97 : Int32) (122 : Int32)) fun p7 =>
if p7 = 0 then
(f_X9_readToken_131 M1 p7 (48 : Int32))
else
(f_X9_readToken_131 M1 p7 (97 : Int32))))
else
(wr (wI M1 1 5 (0 : Int32)) fun M13 =>
some ((1 : Int32), M13))
def b_X9_readToken_8 (k8 : Mm → Option (Int32 × Mm)) (M : Mm) : Option (Int32 × Mm) :=
if (M.1 1 1) ≤ (M.1 1 6) then
(f_X9_readToken_46 M)
else
(ck (inn (M.1 1 6) 400) <|
if (M.1 2 (M.1 1 6).toNatClampNeg) = (32 : Int32) then
(wr (wI M 1 6 ((M.1 1 6) + (1 : Int32))) fun M4 =>
k8 M4)
else
(f_X9_readToken_46 M))
def f_X9_readToken_8 : Nat → Mm → Option (Int32 × Mm)
  | 0, _ => none
  | n + 1, M => b_X9_readToken_8 (fun M => f_X9_readToken_8 n M) M
def f_X9_readToken (M : Mm) : Option (Int32 × Mm) :=
wr (wI M 1 6 (M.1 1 7)) fun M1 =>
f_X9_readToken_8 FU M1
def f_X9_isNamed_24 (M : Mm) : Option Int32 :=
some (0 : Int32)
def b_X9_isNamed_28 (k28 : Int32 → Option Int32) (M : Mm) (a1 : Nat) (x2 : Int32) : Option Int32 :=
if (sl a1) ≤ x2 then
(some (1 : Int32))
else
(ck (inn ((M.1 1 6) + x2) 400) <|
ck (inn x2 (sLen.getD a1 0)) <|
if (M.1 2 ((M.1 1 6) + x2).toNatClampNeg) = (sc a1 x2.toNatClampNeg) then
(k28 (x2 + (1 : Int32)))
else
(some (0 : Int32)))
def f_X9_isNamed_28 (M : Mm) (a1 : Nat) : Nat → Int32 → Option Int32
  | 0, _ => none
  | n + 1, x2 => b_X9_isNamed_28 (fun x2 => f_X9_isNamed_28 M a1 n x2) M a1 x2
def f_X9_isNamed (M : Mm) (a1 : Nat) : Option Int32 :=
if (M.1 1 5) = (1 : Int32) then
(if ((M.1 1 7) - (M.1 1 6)) = (sl a1) then
(f_X9_isNamed_28 M a1 FU (0 : Int32))
else
(f_X9_isNamed_24 M))
else
(f_X9_isNamed_24 M)
def f_X9_isFirst (M : Mm) (x1 : Int32) : Option (Int32 × Mm) :=
if ((M.1 1 9) &&& x1) = 0 then
(wr (wI M 1 9 ((M.1 1 9) ||| x1)) fun M2 =>
some ((1 : Int32), M2))
else
(bd (f_X9_refuse M (4 : Int32) (M.1 1 6)) fun p5 =>
ck (isB p5.1) <|
some (p5.1, p5.2))
def f_X9_isNumber_47 (M : Mm) (s_0 : Int32) : Option (Int32 × Mm) :=
ck (isB s_0) <|
some (s_0, M)
def f_X9_isNumber_42 (M : Mm) : Option (Int32 × Mm) :=
f_X9_isNumber_47 M (1 : Int32)
def f_X9_isNumber (M : Mm) (x1 : Int32) (x2 : Int32) : Option (Int32 × Mm) :=
if (M.1 1 5) = (2 : Int32) then
(bd (f_X11_isAmong (M.1 1 8) x1 x2) fun p3 =>
if p3 = 0 then
(bd (f_X9_refuse M (3 : Int32) (M.1 1 6)) fun p6 =>
if p6.1 = 0 then
(f_X9_isNumber_47 p6.2 (0 : Int32))
else
(f_X9_isNumber_42 p6.2))
else
(f_X9_isNumber_42 M))
else
(bd (f_X9_refuse M (2 : Int32) (M.1 1 6)) fun p9 =>
ck (isB p9.1) <|
some (p9.1, p9.2))
def f_X9_readNumber_21 (M : Mm) (s_0 : Int32) : Option (Int32 × Mm) :=
ck (isB s_0) <|
some (s_0, M)
def f_X9_readNumber_20 (M : Mm) : Option (Int32 × Mm) :=
f_X9_readNumber_21 M (0 : Int32)
def f_X9_readNumber (M : Mm) (x1 : Int32) (x2 : Int32) : Option (Int32 × Mm) :=
bd (f_X9_readToken M) fun p2 =>
if p2.1 = 0 then
(f_X9_readNumber_20 p2.2)
else
(bd (f_X9_isNumber p2.2 x1 x2) fun p5 =>
if p5.1 = 0 then
(f_X9_readNumber_20 p5.2)
else
(f_X9_readNumber_21 p5.2 (1 : Int32)))
def f_X9_isSemicolon_25 (M : Mm) (s_0 : Int32) : Option (Int32 × Mm) :=
ck (isB s_0) <|
some (s_0, M)
def f_X9_isSemicolon_20 (M : Mm) : Option (Int32 × Mm) :=
f_X9_isSemicolon_25 M (1 : Int32)
def f_X9_isSemicolon (M : Mm) : Option (Int32 × Mm) :=
if (M.1 1 5) = (3 : Int32) then
(f_X9_isSemicolon_20 M)
else
(bd (f_X9_refuse M (2 : Int32) (M.1 1 6)) fun p3 =>
if p3.1 = 0 then
(f_X9_isSemicolon_25 p3.2 (0 : Int32))
else
(f_X9_isSemicolon_20 p3.2))
def f_X9_readSemicolon_19 (M : Mm) (s_0 : Int32) : Option (Int32 × Mm) :=
ck (isB s_0) <|
some (s_0, M)
def f_X9_readSemicolon_18 (M : Mm) : Option (Int32 × Mm) :=
f_X9_readSemicolon_19 M (0 : Int32)
def f_X9_readSemicolon (M : Mm) : Option (Int32 × Mm) :=
bd (f_X9_readToken M) fun p2 =>
if p2.1 = 0 then
(f_X9_readSemicolon_18 p2.2)
else
(bd (f_X9_isSemicolon p2.2) fun p5 =>
if p5.1 = 0 then
(f_X9_readSemicolon_18 p5.2)
else
(f_X9_readSemicolon_19 p5.2 (1 : Int32)))
def f_X9_readFurlongs_18 (M : Mm) : Option (Int32 × Mm) :=
some ((0 : Int32), M)
def f_X9_readFurlongs (M : Mm) (a1 : Nat) : Option (Int32 × Mm) :=
bd (f_X9_isFirst M (1 : Int32)) fun p2 =>
if p2.1 = 0 then
(f_X9_readFurlongs_18 p2.2)
else
(bd (f_X9_readNumber p2.2 (1 : Int32) (10 : Int32)) fun p5 =>
if p5.1 = 0 then
(f_X9_readFurlongs_18 p5.2)
else
(wr (wI p5.2 a1 0 (p5.2.1 1 8)) fun M7 =>
bd (f_X9_readSemicolon M7) fun p10 =>
ck (isB p10.1) <|
some (p10.1, p10.2)))
def f_X9_readHours_17 (M : Mm) : Option (Int32 × Mm) :=
some ((0 : Int32), M)
def f_X9_readHours_113 (M : Mm) (s_0 : Int32) : Option (Int32 × Mm) :=
ck (isB s_0) <|
some (s_0, M)
def f_X9_readHours_80 (M : Mm) : Option (Int32 × Mm) :=
bd (f_X9_readToken M) fun p2 =>
if p2.1 = 0 then
(some ((0 : Int32), p2.2))
else
(if (p2.2.1 1 5) = (2 : Int32) then
(bd (f_X9_refuse p2.2 (5 : Int32) (p2.2.1 1 6)) fun p8 =>
f_X9_readHours_113 p8.2 p8.1)
else
(bd (f_X9_isSemicolon p2.2) fun p6 =>
f_X9_readHours_113 p6.2 p6.1))
def b_X9_readHours_29 (k29 : Mm → Int32 → Option (Int32 × Mm)) (a2 : Nat) (x3 : Int32) (M : Mm) (x4 : Int32) : Option (Int32 × Mm) :=
if (12 : Int32) ≤ x4 then
(f_X9_readHours_80 M)
else
(bd (f_X9_readToken M) fun p3 =>
if p3.1 = 0 then
(some ((0 : Int32), p3.2))
else
(if (p3.2.1 1 5) = (3 : Int32) then
(some ((1 : Int32), p3.2))
else
(bd (f_X9_isNumber p3.2 (0 : Int32) x3) fun p7 =>
if p7.1 = 0 then
(some ((0 : Int32), p7.2))
else
(ck (inn x4 12) <|
wr (wI p7.2 a2 x4.toNatClampNeg (p7.2.1 1 8)) fun M9 =>
k29 M9 (x4 + (1 : Int32))))))
def f_X9_readHours_29 (a2 : Nat) (x3 : Int32) : Nat → Mm → Int32 → Option (Int32 × Mm)
  | 0, _, _ => none
  | n + 1, M, x4 => b_X9_readHours_29 (fun M x4 => f_X9_readHours_29 a2 x3 n M x4) a2 x3 M x4
def f_X9_readHours (M : Mm) (x1 : Int32) (a2 : Nat) (x3 : Int32) : Option (Int32 × Mm) :=
bd (f_X9_isFirst M x1) fun p2 =>
if p2.1 = 0 then
(f_X9_readHours_17 p2.2)
else
(bd (f_X9_readNumber p2.2 (0 : Int32) x3) fun p5 =>
if p5.1 = 0 then
(f_X9_readHours_17 p5.2)
else
(wr (wI p5.2 a2 (0 : Int32).toNatClampNeg (p5.2.1 1 8)) fun M7 =>
f_X9_readHours_29 a2 x3 FU M7 (1 : Int32)))
def f_X9_readTreaty_19 (M : Mm) : Option (Int32 × Mm) :=
some ((0 : Int32), M)
def f_X9_readTreaty (M : Mm) (a1 : Nat) : Option (Int32 × Mm) :=
bd (f_X9_isFirst M (8 : Int32)) fun p2 =>
if p2.1 = 0 then
(f_X9_readTreaty_19 p2.2)
else
(bd (f_X9_readNumber p2.2 (1 : Int32) (99 : Int32)) fun p5 =>
if p5.1 = 0 then
(f_X9_readTreaty_19 p5.2)
else
(wr (wI p5.2 a1 0 (p5.2.1 1 8)) fun M7 =>
bd (f_X9_readNumber M7 (0 : Int32) (3 : Int32)) fun p10 =>
if p10.1 = 0 then
(some ((0 : Int32), p10.2))
else
(wr (wI p10.2 a1 1 (p10.2.1 1 8)) fun M12 =>
bd (f_X9_readNumber M12 (0 : Int32) (1 : Int32)) fun p15 =>
if p15.1 = 0 then
(some ((0 : Int32), p15.2))
else
(wr (wI p15.2 a1 2 (p15.2.1 1 8)) fun M17 =>
bd (f_X9_readSemicolon M17) fun p20 =>
ck (isB p20.1) <|
some (p20.1, p20.2)))))
def f_X9_readFurlong (M : Mm) : Option (Int32 × Mm) :=
bd (f_X9_readNumber M (0 : Int32) (9 : Int32)) fun p2 =>
if p2.1 = 0 then
(some ((0 : Int32), p2.2))
else
(wr (wI p2.2 1 11 (iMax (p2.2.1 1 11) (p2.2.1 1 8))) fun M4 =>
some ((1 : Int32), M4))
def f_X9_readSnow (M : Mm) (a1 : Nat) : Option (Int32 × Mm) :=
bd (f_X9_readFurlong M) fun p2 =>
if p2.1 = 0 then
(some ((0 : Int32), p2.2))
else
(nm ((p2.2.1 1 8)) fun v4 =>
if (((p2.2.1 1 10) >>> (v4 &&& 31)) &&& (1 : Int32)) = 0 then
(wr (wI p2.2 1 10 ((p2.2.1 1 10) ||| ((1 : Int32) <<< (v4 &&& 31)))) fun M7 =>
bd (f_X9_readNumber M7 (0 : Int32) (200 : Int32)) fun p10 =>
if p10.1 = 0 then
(some ((0 : Int32), p10.2))
else
(ck (inn v4 10) <|
wr (wI p10.2 (a1 + 2) v4.toNatClampNeg (p10.2.1 1 8)) fun M12 =>
bd (f_X9_readSemicolon M12) fun p16 =>
ck (isB p16.1) <|
some (p16.1, p16.2)))
else
(bd (f_X9_refuse p2.2 (4 : Int32) (p2.2.1 1 6)) fun p19 =>
ck (isB p19.1) <|
some (p19.1, p19.2)))
def f_X9_readSide (M : Mm) : Option (Int32 × Mm) :=
bd (f_X9_readToken M) fun p2 =>
if p2.1 = 0 then
(some ((0 : Int32), p2.2))
else
(bd (f_X9_isNamed p2.2 8) fun p5 =>
if p5 = 0 then
(bd (f_X9_isNamed p2.2 9) fun p8 =>
if p8 = 0 then
(bd (f_X9_refuse p2.2 (2 : Int32) (p2.2.1 1 6)) fun p11 =>
ck (isB p11.1) <|
some (p11.1, p11.2))
else
(wr (wI p2.2 1 8 (1 : Int32)) fun M13 =>
some ((1 : Int32), M13)))
else
(wr (wI p2.2 1 8 (0 : Int32)) fun M15 =>
some ((1 : Int32), M15)))
def f_X9_readKind_104 (M : Mm) : Option (Int32 × Mm) :=
some ((1 : Int32), M)
def f_X9_readKind (M : Mm) (a1 : Nat) : Option (Int32 × Mm) :=
bd (f_X9_readToken M) fun p2 =>
if p2.1 = 0 then
(some ((0 : Int32), p2.2))
else
(bd (f_X9_isNamed p2.2 10) fun p5 =>
if p5 = 0 then
(bd (f_X9_isNamed p2.2 11) fun p8 =>
if p8 = 0 then
(bd (f_X9_isNamed p2.2 12) fun p11 =>
if p11 = 0 then
(bd (f_X9_isNamed p2.2 13) fun p14 =>
if p14 = 0 then
(bd (f_X9_isNamed p2.2 14) fun p17 =>
if p17 = 0 then
(bd (f_X9_refuse p2.2 (2 : Int32) (p2.2.1 1 6)) fun p20 =>
ck (isB p20.1) <|
some (p20.1, p20.2))
else
(wr (wI p2.2 a1 1 (4 : Int32)) fun M22 =>
f_X9_readKind_104 M22))
else
(wr (wI p2.2 a1 1 (3 : Int32)) fun M24 =>
f_X9_readKind_104 M24))
else
(wr (wI p2.2 a1 1 (2 : Int32)) fun M26 =>
f_X9_readKind_104 M26))
else
(wr (wI p2.2 a1 1 (1 : Int32)) fun M28 =>
f_X9_readKind_104 M28))
else
(wr (wI p2.2 a1 1 (0 : Int32)) fun M30 =>
f_X9_readKind_104 M30))
def f_X9_readParts (M : Mm) (a1 : Nat) : Option (Int32 × Mm) :=
bd (f_X9_readNumber M (0 : Int32) (99 : Int32)) fun p2 =>
if p2.1 = 0 then
(some ((0 : Int32), p2.2))
else
(wr (wI p2.2 a1 2 (p2.2.1 1 8)) fun M4 =>
bd (f_X9_readNumber M4 (0 : Int32) (99 : Int32)) fun p7 =>
if p7.1 = 0 then
(some ((0 : Int32), p7.2))
else
(wr (wI p7.2 a1 3 (p7.2.1 1 8)) fun M9 =>
bd (f_X9_readNumber M9 (0 : Int32) (99 : Int32)) fun p12 =>
if p12.1 = 0 then
(some ((0 : Int32), p12.2))
else
(wr (wI p12.2 a1 4 (p12.2.1 1 8)) fun M14 =>
bd (f_X9_readNumber M14 (0 : Int32) (3 : Int32)) fun p17 =>
if p17.1 = 0 then
(some ((0 : Int32), p17.2))
else
(wr (wI p17.2 a1 5 (p17.2.1 1 8)) fun M19 =>
some ((1 : Int32), M19)))))
def f_X9_readDress_45 (M : Mm) (s_0 : Int32) : Option (Int32 × Mm) :=
ck (isB s_0) <|
some (s_0, M)
def f_X9_readDress_24 (M : Mm) (a1 : Nat) (b_0 : Nat) (s_1 : Int32) : Option (Int32 × Mm) :=
ck (isB s_1) <|
wr (wI M b_0 6 s_1) fun M1 =>
if (M1.1 a1 6) = 0 then
(bd (f_X9_readSemicolon M1) fun p6 =>
f_X9_readDress_45 p6.2 p6.1)
else
(bd (f_X9_isSemicolon M1) fun p8 =>
f_X9_readDress_45 p8.2 p8.1)
def f_X9_readDress (M : Mm) (a1 : Nat) : Option (Int32 × Mm) :=
bd (f_X9_readToken M) fun p2 =>
if p2.1 = 0 then
(some ((0 : Int32), p2.2))
else
(bd (f_X9_isNamed p2.2 15) fun p5 =>
if p5 = 0 then
(f_X9_readDress_24 p2.2 a1 a1 (1 : Int32))
else
(f_X9_readDress_24 p2.2 a1 a1 (0 : Int32)))
def f_X9_readMan_84 (M : Mm) (s_0 : Int32) : Option (Int32 × Mm) :=
ck (isB s_0) <|
some (s_0, M)
def f_X9_readMan_83 (M : Mm) : Option (Int32 × Mm) :=
f_X9_readMan_84 M (0 : Int32)
def f_X9_readMan (M : Mm) (a1 : Nat) : Option (Int32 × Mm) :=
bd (f_X9_readSide M) fun p2 =>
if p2.1 = 0 then
(some ((0 : Int32), p2.2))
else
(nm ((p2.2.1 1 8)) fun v4 =>
bd (f_X9_readFurlong p2.2) fun p7 =>
if p7.1 = 0 then
(some ((0 : Int32), p7.2))
else
(bd (f_X7_manOf p7.2 a1 v4 (p7.2.1 1 8)) fun p10 =>
if (p7.2.1 p10 0) = 0 then
(wr (wI p7.2 p10 0 (1 : Int32)) fun M12 =>
bd (f_X9_readKind M12 p10) fun p16 =>
if p16.1 = 0 then
(f_X9_readMan_83 p16.2)
else
(bd (f_X9_readParts p16.2 p10) fun p19 =>
if p19.1 = 0 then
(f_X9_readMan_83 p19.2)
else
(bd (f_X9_readDress p19.2 p10) fun p22 =>
if p22.1 = 0 then
(f_X9_readMan_83 p22.2)
else
(f_X9_readMan_84 p22.2 (1 : Int32)))))
else
(bd (f_X9_refuse p7.2 (4 : Int32) (p7.2.1 1 6)) fun p25 =>
ck (isB p25.1) <|
some (p25.1, p25.2))))
def f_X9_readBrazier (M : Mm) (a1 : Nat) : Option (Int32 × Mm) :=
bd (f_X0_isFull M a1) fun p2 =>
if p2 = 0 then
(bd (f_X9_readFurlong M) fun p5 =>
if p5.1 = 0 then
(some ((0 : Int32), p5.2))
else
(nm ((p5.2.1 1 8)) fun v7 =>
bd (f_X9_readNumber p5.2 (1 : Int32) (20 : Int32)) fun p10 =>
if p10.1 = 0 then
(some ((0 : Int32), p10.2))
else
(nm ((p10.2.1 1 8)) fun v12 =>
bd (f_X9_readNumber p10.2 (0 : Int32) (11 : Int32)) fun p15 =>
if p15.1 = 0 then
(some ((0 : Int32), p15.2))
else
(nm ((p15.2.1 1 8)) fun v17 =>
bd (f_X9_readNumber p15.2 v17 (11 : Int32)) fun p20 =>
if p20.1 = 0 then
(some ((0 : Int32), p20.2))
else
(bd (f_X0_put p20.2 a1 v7 v12 v17 (p20.2.1 1 8)) fun p23 =>
bd (f_X9_readSemicolon p23) fun p25 =>
ck (isB p25.1) <|
some (p25.1, p25.2))))))
else
(bd (f_X9_refuse M (5 : Int32) (M.1 1 6)) fun p28 =>
ck (isB p28.1) <|
some (p28.1, p28.2))
def f_X9_readHouse_74 (M : Mm) (b_0 : Nat) (s_1 : Int32) (s_2 : Int32) : Option (Int32 × Mm) :=
bd (f_X4_putHouse M b_0 s_1 s_2) fun p2 =>
bd (f_X9_readSemicolon p2) fun p4 =>
ck (isB p4.1) <|
some (p4.1, p4.2)
def f_X9_readHouse (M : Mm) (a1 : Nat) : Option (Int32 × Mm) :=
if (M.1 a1 4) < (8 : Int32) then
(bd (f_X9_readFurlong M) fun p3 =>
if p3.1 = 0 then
(some ((0 : Int32), p3.2))
else
(nm ((p3.2.1 1 8)) fun v5 =>
bd (f_X9_readNumber p3.2 (0 : Int32) (9 : Int32)) fun p8 =>
if p8.1 = 0 then
(some ((0 : Int32), p8.2))
else
(nm ((p8.2.1 1 8)) fun v10 =>
bd (f_X9_readSide p8.2) fun p13 =>
if p13.1 = 0 then
(some ((0 : Int32), p13.2))
else
(if (p13.2.1 1 8) = 0 then
(f_X9_readHouse_74 p13.2 a1 v5 (0 - v10))
else
(f_X9_readHouse_74 p13.2 a1 v5 v10)))))
else
(bd (f_X9_refuse M (5 : Int32) (M.1 1 6)) fun p17 =>
ck (isB p17.1) <|
some (p17.1, p17.2))
def f_X9_readLine (M : Mm) (a1 : Nat) : Option (Int32 × Mm) :=
bd (f_X9_isNamed M 0) fun p2 =>
if p2 = 0 then
(bd (f_X9_isNamed M 1) fun p5 =>
if p5 = 0 then
(bd (f_X9_isNamed M 2) fun p8 =>
if p8 = 0 then
(bd (f_X9_isNamed M 3) fun p11 =>
if p11 = 0 then
(bd (f_X9_isNamed M 4) fun p14 =>
if p14 = 0 then
(bd (f_X9_isNamed M 5) fun p17 =>
if p17 = 0 then
(bd (f_X9_isNamed M 6) fun p20 =>
if p20 = 0 then
(bd (f_X9_isNamed M 7) fun p23 =>
if p23 = 0 then
(bd (f_X9_refuse M (2 : Int32) (M.1 1 6)) fun p26 =>
ck (isB p26.1) <|
some (p26.1, p26.2))
else
(bd (f_X9_readHouse M a1) fun p29 =>
ck (isB p29.1) <|
some (p29.1, p29.2)))
else
(bd (f_X9_readBrazier M ((a1 + 5) + 6)) fun p32 =>
ck (isB p32.1) <|
some (p32.1, p32.2)))
else
(bd (f_X9_readMan M (a1 + 5)) fun p35 =>
ck (isB p35.1) <|
some (p35.1, p35.2)))
else
(bd (f_X9_readSnow M (a1 + 5)) fun p38 =>
ck (isB p38.1) <|
some (p38.1, p38.2)))
else
(bd (f_X9_readTreaty M (a1 + 2)) fun p41 =>
ck (isB p41.1) <|
some (p41.1, p41.2)))
else
(bd (f_X9_readHours M (4 : Int32) (a1 + 1) (9 : Int32)) fun p44 =>
ck (isB p44.1) <|
some (p44.1, p44.2)))
else
(bd (f_X9_readHours M (2 : Int32) ((a1 + 5) + 5) (9 : Int32)) fun p47 =>
ck (isB p47.1) <|
some (p47.1, p47.2)))
else
(bd (f_X9_readFurlongs M a1) fun p50 =>
ck (isB p50.1) <|
some (p50.1, p50.2))
def f_X9_tell_81 (k40 : Mm → Int32 → Option Mm) (M : Mm) (a1 : Nat) (s_0 : Int32) : Option Mm :=
wr (wI M 1 2 ((M.1 1 2) + (1 : Int32))) fun M1 =>
k40 M1 s_0
def f_X9_tell_80 (k40 : Mm → Int32 → Option Mm) (M : Mm) (a1 : Nat) : Option Mm :=
f_X9_tell_81 k40 M a1 (0 : Int32)
def f_X9_tell_121 (M : Mm) : Option Mm :=
some M
def f_X9_tell_95 (M : Mm) (a1 : Nat) (x2 : Int32) : Option Mm :=
if x2 = 0 then
(f_X9_tell_121 M)
else
(if (M.1 1 11) < (M.1 a1 0) then
(f_X9_tell_121 M)
else
(bd (f_X9_refuse M (6 : Int32) (M.1 1 1)) fun p4 =>
f_X9_tell_121 p4.2))
def b_X9_tell_40 (k40 : Mm → Int32 → Option Mm) (a1 : Nat) (M : Mm) (x2 : Int32) : Option Mm :=
if (400 : Int32) ≤ (M.1 1 2) then
(f_X9_tell_95 M a1 x2)
else
(if x2 = 0 then
(f_X9_tell_95 M a1 x2)
else
(if (M.1 1 5) = 0 then
(f_X9_tell_95 M a1 x2)
else
(bd (f_X9_readLine M a1) fun p5 =>
if p5.1 = 0 then
(f_X9_tell_80 k40 p5.2 a1)
else
(bd (f_X9_readToken p5.2) fun p8 =>
if p8.1 = 0 then
(f_X9_tell_80 k40 p8.2 a1)
else
(f_X9_tell_81 k40 p8.2 a1 (1 : Int32))))))
def f_X9_tell_40 (a1 : Nat) : Nat → Mm → Int32 → Option Mm
  | 0, _, _ => none
  | n + 1, M, x2 => b_X9_tell_40 (fun M x2 => f_X9_tell_40 a1 n M x2) a1 M x2
def f_X9_tell (M : Mm) (a1 : Nat) : Option Mm :=
wr (wI M 1 2 (0 : Int32)) fun M1 =>
wr (wI M1 1 3 (0 : Int32)) fun M3 =>
wr (wI M3 1 4 (0 : Int32)) fun M5 =>
wr (wI M5 1 7 (0 : Int32)) fun M7 =>
wr (wI M7 1 9 (0 : Int32)) fun M9 =>
wr (wI M9 1 10 (0 : Int32)) fun M11 =>
wr (wI M11 1 11 (0 : Int32)) fun M13 =>
bd (f_X9_readToken M13) fun p16 =>
nm (p16.1) fun v17 =>
f_X9_tell_40 a1 FU p16.2 v17
-- SnowSentries$Text.append(J)I
set_option maxRecDepth 4000 in
theorem k_X9_append_49 {p : Program} {l : Launch} {e : Env} {s : State} {m : MethodId} {args : Array Value} {below : List Frame} {meth : Method} {c : Code} {G : GG} {M : Mm} {r : Int32} {M2 : Mm} (C : CX p s m args c prog_11_method_2_code 4 "SnowSentries$Text" 0 G) (hlk : meth.locks = false) (hr : meth.sig.returnType = (some .int)) : f_X9_append_49 M = some (r, M2) → Z p l e { frames := 0, cells := 0, slots := 0, locals := 0 } s m args below meth c 0 G 4 (MQ below (QC 0 G (some (.int r)) M2) args s 0 0 (AU 0 G)) 49 [(0, .ref (gB G + 1))] [] M := by
  intro h
  unfold f_X9_append_49 at h
  refine z_aload_n 0 C d_X9_append_49 rfl rfl ?_
  refine z_dup C d_X9_append_50 rfl ?_
  refine z_get (k := 1) (v := .int (M.1 1 1)) C ((E_9 kx_1 G) _ _) (kU_in kx_1 (by decide)) rfl inX9 (by decide) wf_X9_15 rfl d_X9_append_51 ?_
  refine z_bipush (v := (8 : Int32)) C d_X9_append_54 (by decide) ?_
  refine z_iadd C d_X9_append_56 ?_
  obtain ⟨M1, e2, h⟩ := o_wr h
  refine z_pI (k := 1) (ty := .int) C (fun r q => (E_9 kx_1 G) r q) (fun _ _ => rfl) (kU_in kx_1 (by decide)) rfl inX9 tyX9 tyX9_ok nmX9 (by decide) wf_X9_15 rfl (by decide +kernel) rfl rfl (Nat.le_of_ble_eq_true rfl) d_X9_append_57 ?_
  refine z_nM e2 ?_
  refine z_aload_n 0 C d_X9_append_60 rfl rfl ?_
  refine z_get (k := 1) (v := .int (M1.1 1 1)) C ((E_9 kx_1 G) _ _) (kU_in kx_1 (by decide)) rfl inX9 (by decide) wf_X9_15 rfl d_X9_append_61 ?_
  obtain ⟨rfl, rfl⟩ := o_pair h
  exact z_iret C hlk hr d_X9_append_64
set_option maxRecDepth 4000 in
theorem kb_X9_append_15 {p : Program} {l : Launch} {e : Env} {s : State} {m : MethodId} {args : Array Value} {below : List Frame} {meth : Method} {c : Code} {G : GG} {k15 : Mm → Int32 → Option (Int32 × Mm)} {j1 : Int64} {M : Mm} {x3 : Int32} {r : Int32} {M2 : Mm} (C : CX p s m args c prog_11_method_2_code 4 "SnowSentries$Text" 0 G) (hlk : meth.locks = false) (hr : meth.sig.returnType = (some .int)) (hk15 : ∀ (M : Mm) (x3 : Int32), k15 M x3 = some (r, M2) → Z p l e { frames := 0, cells := 0, slots := 0, locals := 0 } s m args below meth c 0 G 4 (MQ below (QC 0 G (some (.int r)) M2) args s 0 0 (AU 0 G)) 15 [(0, .ref (gB G + 1)), (1, .long j1), (3, .int x3)] [] M) : b_X9_append_15 k15 j1 M x3 = some (r, M2) → Z p l e { frames := 0, cells := 0, slots := 0, locals := 0 } s m args below meth c 0 G 4 (MQ below (QC 0 G (some (.int r)) M2) args s 0 0 (AU 0 G)) 15 [(0, .ref (gB G + 1)), (1, .long j1), (3, .int x3)] [] M := by
  intro h
  unfold b_X9_append_15 at h
  refine z_iload_n 2 C d_X9_append_15 rfl rfl ?_
  refine z_bipush (v := (8 : Int32)) C d_X9_append_16 (by decide) ?_
  refine z_icmp_ge C d_X9_append_18 (fun q1 => ?_) (fun q1 => ?_)
  · have h := o_t q1 h
    exact z_sub [0] rfl (k_X9_append_49 C hlk hr h)
  · have h := o_f q1 h
    refine z_aload_n 0 C d_X9_append_21 rfl rfl ?_
    refine z_get (k := 0) (v := .ref (gB G + 2)) C ((E_9 kx_1 G) _ _) (kU_in kx_1 (by decide)) rfl inX9 (by decide) wf_X9_11 rfl d_X9_append_22 ?_
    refine z_aload_n 0 C d_X9_append_25 rfl rfl ?_
    refine z_get (k := 1) (v := .int (M.1 1 1)) C ((E_9 kx_1 G) _ _) (kU_in kx_1 (by decide)) rfl inX9 (by decide) wf_X9_15 rfl d_X9_append_26 ?_
    refine z_iload_n 2 C d_X9_append_29 rfl rfl ?_
    refine z_iadd C d_X9_append_30 ?_
    refine z_lload_n 1 C d_X9_append_31 rfl rfl ?_
    refine z_bipush (v := (8 : Int32)) C d_X9_append_32 (by decide) ?_
    refine z_bipush (v := (7 : Int32)) C d_X9_append_34 (by decide) ?_
    refine z_iload_n 2 C d_X9_append_36 rfl rfl ?_
    refine z_isub C d_X9_append_37 ?_
    refine z_imul C d_X9_append_38 ?_
    refine z_lushr C d_X9_append_39 ?_
    refine z_l2i C d_X9_append_40 ?_
    refine z_i2b C d_X9_append_41 ?_
    obtain ⟨q4, h⟩ := o_ck h
    obtain ⟨M2, e3, h⟩ := o_wr h
    refine z_bst (fun r q => (E_25 kx_2 G) r q) C (kU_in kx_2 (by decide)) q4 d_X9_append_42 ?_
    refine z_nM e3 ?_
    refine z_iinc (v := (1 : Int32)) (L' := [(3, .int (x3 + (1 : Int32))), (0, .ref (gB G + 1)), (1, .long j1)]) 2 C d_X9_append_43 rfl (by decide) (by decide) rfl ?_
    refine z_goto C d_X9_append_46 ?_
    exact z_sub [1, 2, 0] rfl (hk15 _ _  h)
theorem k_X9_append_15 {p : Program} {l : Launch} {e : Env} {s : State} {m : MethodId} {args : Array Value} {below : List Frame} {meth : Method} {c : Code} {G : GG} {j1 : Int64} {r : Int32} {M2 : Mm} (C : CX p s m args c prog_11_method_2_code 4 "SnowSentries$Text" 0 G) (hlk : meth.locks = false) (hr : meth.sig.returnType = (some .int)) : ∀ (n : Nat) (M : Mm) (x3 : Int32), f_X9_append_15 j1 n M x3 = some (r, M2) → Z p l e { frames := 0, cells := 0, slots := 0, locals := 0 } s m args below meth c 0 G 4 (MQ below (QC 0 G (some (.int r)) M2) args s 0 0 (AU 0 G)) 15 [(0, .ref (gB G + 1)), (1, .long j1), (3, .int x3)] [] M := by
  intro n
  induction n with
  | zero =>
    intro M x3  h
    exact absurd h (fun z => by cases z)
  | succ n ih =>
    intro M x3  h
    exact kb_X9_append_15 C hlk hr  (fun M x3 h => ih M x3 h) h
set_option maxRecDepth 4000 in
theorem k_X9_append_0 {p : Program} {l : Launch} {e : Env} {s : State} {m : MethodId} {args : Array Value} {below : List Frame} {meth : Method} {c : Code} {G : GG} {M : Mm} {j1 : Int64} {r : Int32} {M2 : Mm} (C : CX p s m args c prog_11_method_2_code 4 "SnowSentries$Text" 0 G) (hlk : meth.locks = false) (hr : meth.sig.returnType = (some .int)) : f_X9_append M j1 = some (r, M2) → Z p l e { frames := 0, cells := 0, slots := 0, locals := 0 } s m args below meth c 0 G 4 (MQ below (QC 0 G (some (.int r)) M2) args s 0 0 (AU 0 G)) 0 [(0, .ref (gB G + 1)), (1, .long j1)] [] M := by
  intro h
  unfold f_X9_append at h
  refine z_aload_n 0 C d_X9_append_0 rfl rfl ?_
  refine z_get (k := 1) (v := .int (M.1 1 1)) C ((E_9 kx_1 G) _ _) (kU_in kx_1 (by decide)) rfl inX9 (by decide) wf_X9_15 rfl d_X9_append_1 ?_
  refine z_sipush (v := (392 : Int32)) C d_X9_append_4 (by decide) ?_
  refine z_icmp_le C d_X9_append_7 (fun q1 => ?_) (fun q1 => ?_)
  · have h := o_t q1 h
    refine z_iconst (v := (0 : Int32)) C d_X9_append_13 (by decide) ?_
    refine z_istore_n (L' := [(3, .int (0 : Int32)), (0, .ref (gB G + 1)), (1, .long j1)]) C d_X9_append_14 rfl (by decide) rfl ?_
    exact z_sub [1, 2, 0] rfl (k_X9_append_15 C hlk hr _ _ _ h)
  · have h := o_f q1 h
    refine z_bipush (v := (-3 : Int32)) C d_X9_append_10 (by decide) ?_
    obtain ⟨rfl, rfl⟩ := o_pair h
    exact z_iret C hlk hr d_X9_append_12
theorem c_X9_append (l : Launch) (G : GG) {M : Mm} {j1 : Int64} {r : Int32} {M2 : Mm} (h : f_X9_append M j1 = some (r, M2)) : CT l 0 G y_X9_append prog_11_method_2_code 4 (some .int) 0 0 [.ref (gB G + 1), .long j1] M (some (.int r)) M2 :=
  CT.of (by decide +kernel) (Nat.le_of_ble_eq_true rfl) rfl (fun p e s m args below meth c C hlk hr => k_X9_append_0 C hlk hr h)
-- SnowSentries$Text.cut(I)I
set_option maxRecDepth 4000 in
theorem k_X9_cut_0 {p : Program} {l : Launch} {e : Env} {s : State} {m : MethodId} {args : Array Value} {below : List Frame} {meth : Method} {c : Code} {G : GG} {M : Mm} {x1 : Int32} {r : Int32} {M2 : Mm} (C : CX p s m args c prog_11_method_3_code 3 "SnowSentries$Text" 0 G) (hlk : meth.locks = false) (hr : meth.sig.returnType = (some .int)) : f_X9_cut M x1 = some (r, M2) → Z p l e { frames := 1, cells := 0, slots := 0, locals := 22 } s m args below meth c 0 G 3 (MQ below (QC 0 G (some (.int r)) M2) args s 0 0 (AU 0 G)) 0 [(0, .ref (gB G + 1)), (1, .int x1)] [] M := by
  intro h
  unfold f_X9_cut at h
  refine z_iload_n 1 C d_X9_cut_0 rfl rfl ?_
  refine z_iconst (v := (0 : Int32)) C d_X9_cut_1 (by decide) ?_
  refine z_aload_n 0 C d_X9_cut_2 rfl rfl ?_
  refine z_get (k := 1) (v := .int (M.1 1 1)) C ((E_9 kx_1 G) _ _) (kU_in kx_1 (by decide)) rfl inX9 (by decide) wf_X9_15 rfl d_X9_cut_3 ?_
  obtain ⟨p2, e1, h⟩ := o_bd h
  refine z_SN (S := []) (As := [.int x1, .int (0 : Int32), .int (M.1 1 1)]) C (c_X11_isAmong l G (M := M) e1) wc_X11_isAmong wm_X9_19 ws_X11_isAmong wi_X11 hy_X11_isAmong ⟨Nat.le_of_ble_eq_true rfl, Nat.le_of_ble_eq_true rfl⟩ rfl rfl (Nat.le_of_ble_eq_true rfl) d_X9_cut_6 ?_
  refine z_if_ne C d_X9_cut_9 (fun q3 => ?_) (fun q3 => ?_)
  · have h := o_f q3 h
    refine z_aload_n 0 C d_X9_cut_14 rfl rfl ?_
    refine z_get (k := 1) (v := .int (M.1 1 1)) C ((E_9 kx_1 G) _ _) (kU_in kx_1 (by decide)) rfl inX9 (by decide) wf_X9_15 rfl d_X9_cut_15 ?_
    obtain ⟨v4, e5, h⟩ := o_nm h
    refine z_nI e5 ?_
    refine z_istore_n (L' := [(2, .int v4), (0, .ref (gB G + 1)), (1, .int x1)]) C d_X9_cut_18 rfl (by decide) rfl ?_
    refine z_aload_n 1 C d_X9_cut_19 rfl rfl ?_
    refine z_iload_n 2 C d_X9_cut_20 rfl rfl ?_
    obtain ⟨M6, e7, h⟩ := o_wr h
    refine z_pI (k := 1) (ty := .int) C (fun r q => (E_9 kx_1 G) r q) (fun _ _ => rfl) (kU_in kx_1 (by decide)) rfl inX9 tyX9 tyX9_ok nmX9 (by decide) wf_X9_15 rfl (by decide +kernel) rfl rfl (Nat.le_of_ble_eq_true rfl) d_X9_cut_21 ?_
    refine z_nM e7 ?_
    refine z_iload_n 0 C d_X9_cut_24 rfl rfl ?_
    obtain ⟨rfl, rfl⟩ := o_pair h
    exact z_iret C hlk hr d_X9_cut_25
  · have h := o_t q3 h
    refine z_iconst (v := (-1 : Int32)) C d_X9_cut_12 (by decide) ?_
    obtain ⟨rfl, rfl⟩ := o_pair h
    exact z_iret C hlk hr d_X9_cut_13
theorem c_X9_cut (l : Launch) (G : GG) {M : Mm} {x1 : Int32} {r : Int32} {M2 : Mm} (h : f_X9_cut M x1 = some (r, M2)) : CT l 0 G y_X9_cut prog_11_method_3_code 3 (some .int) 1 22 [.ref (gB G + 1), .int x1] M (some (.int r)) M2 :=
  CT.of (by decide +kernel) (Nat.le_of_ble_eq_true rfl) rfl (fun p e s m args below meth c C hlk hr => k_X9_cut_0 C hlk hr h)
-- SnowSentries$Text.refuse(II)Z
set_option maxRecDepth 4000 in
theorem k_X9_refuse_0 {p : Program} {l : Launch} {e : Env} {s : State} {m : MethodId} {args : Array Value} {below : List Frame} {meth : Method} {c : Code} {G : GG} {M : Mm} {x1 : Int32} {x2 : Int32} {r : Int32} {M2 : Mm} (C : CX p s m args c prog_11_method_5_code 3 "SnowSentries$Text" 0 G) (hlk : meth.locks = false) (hr : meth.sig.returnType = (some .boolean)) : f_X9_refuse M x1 x2 = some (r, M2) → Z p l e { frames := 0, cells := 0, slots := 0, locals := 0 } s m args below meth c 0 G 3 (MQ below (QC 0 G (some (.int r)) M2) args s 0 0 (AU 0 G)) 0 [(0, .ref (gB G + 1)), (1, .int x1), (2, .int x2)] [] M := by
  intro h
  unfold f_X9_refuse at h
  refine z_aload_n 0 C d_X9_refuse_0 rfl rfl ?_
  refine z_iload_n 1 C d_X9_refuse_1 rfl rfl ?_
  obtain ⟨M1, e2, h⟩ := o_wr h
  refine z_pI (k := 3) (ty := .int) C (fun r q => (E_9 kx_1 G) r q) (fun _ _ => rfl) (kU_in kx_1 (by decide)) rfl inX9 tyX9 tyX9_ok nmX9 (by decide) wf_X9_26 rfl (by decide +kernel) rfl rfl (Nat.le_of_ble_eq_true rfl) d_X9_refuse_2 ?_
  refine z_nM e2 ?_
  refine z_aload_n 0 C d_X9_refuse_5 rfl rfl ?_
  refine z_iload_n 2 C d_X9_refuse_6 rfl rfl ?_
  obtain ⟨M3, e4, h⟩ := o_wr h
  refine z_pI (k := 4) (ty := .int) C (fun r q => (E_9 kx_1 G) r q) (fun _ _ => rfl) (kU_in kx_1 (by decide)) rfl inX9 tyX9 tyX9_ok nmX9 (by decide) wf_X9_29 rfl (by decide +kernel) rfl rfl (Nat.le_of_ble_eq_true rfl) d_X9_refuse_7 ?_
  refine z_nM e4 ?_
  refine z_iconst (v := (0 : Int32)) C d_X9_refuse_10 (by decide) ?_
  obtain ⟨rfl, rfl⟩ := o_pair h
  exact z_zret C hlk hr (by decide) d_X9_refuse_11
theorem c_X9_refuse (l : Launch) (G : GG) {M : Mm} {x1 : Int32} {x2 : Int32} {r : Int32} {M2 : Mm} (h : f_X9_refuse M x1 x2 = some (r, M2)) : CT l 0 G y_X9_refuse prog_11_method_5_code 3 (some .boolean) 0 0 [.ref (gB G + 1), .int x1, .int x2] M (some (.int r)) M2 :=
  CT.of (by decide +kernel) (Nat.le_of_ble_eq_true rfl) rfl (fun p e s m args below meth c C hlk hr => k_X9_refuse_0 C hlk hr h)
-- SnowSentries$Text.readToken()Z
set_option maxRecDepth 4000 in
theorem k_X9_readToken_297 {p : Program} {l : Launch} {e : Env} {s : State} {m : MethodId} {args : Array Value} {below : List Frame} {meth : Method} {c : Code} {G : GG} {M : Mm} {s_0 : Int32} {r : Int32} {M2 : Mm} (C : CX p s m args c prog_11_method_25_code 5 "SnowSentries$Text" 0 G) (hlk : meth.locks = false) (hr : meth.sig.returnType = (some .boolean)) : f_X9_readToken_297 M s_0 = some (r, M2) → Z p l e { frames := 1, cells := 0, slots := 0, locals := 22 } s m args below meth c 0 G 5 (MQ below (QC 0 G (some (.int r)) M2) args s 0 0 (AU 0 G)) 297 [] [.int s_0] M := by
  intro h
  unfold f_X9_readToken_297 at h
  obtain ⟨q1, h⟩ := o_ck h
  obtain ⟨rfl, rfl⟩ := o_pair h
  exact z_zret C hlk hr (isB_nar q1) d_X9_readToken_297
set_option maxRecDepth 4000 in
theorem k_X9_readToken_292 {p : Program} {l : Launch} {e : Env} {s : State} {m : MethodId} {args : Array Value} {below : List Frame} {meth : Method} {c : Code} {G : GG} {M : Mm} {r : Int32} {M2 : Mm} (C : CX p s m args c prog_11_method_25_code 5 "SnowSentries$Text" 0 G) (hlk : meth.locks = false) (hr : meth.sig.returnType = (some .boolean)) : f_X9_readToken_292 M = some (r, M2) → Z p l e { frames := 1, cells := 0, slots := 0, locals := 22 } s m args below meth c 0 G 5 (MQ below (QC 0 G (some (.int r)) M2) args s 0 0 (AU 0 G)) 292 [] [] M := by
  intro h
  unfold f_X9_readToken_292 at h
  refine z_iconst (v := (1 : Int32)) C d_X9_readToken_292 (by decide) ?_
  refine z_goto C d_X9_readToken_293 ?_
  exact z_sub [] rfl (k_X9_readToken_297 C hlk hr h)
set_option maxRecDepth 4000 in
theorem k_X9_readToken_259 {p : Program} {l : Launch} {e : Env} {s : State} {m : MethodId} {args : Array Value} {below : List Frame} {meth : Method} {c : Code} {G : GG} {M : Mm} {x1 : Int32} {r : Int32} {M2 : Mm} (C : CX p s m args c prog_11_method_25_code 5 "SnowSentries$Text" 0 G) (hlk : meth.locks = false) (hr : meth.sig.returnType = (some .boolean)) : f_X9_readToken_259 M x1 = some (r, M2) → Z p l e { frames := 1, cells := 0, slots := 0, locals := 22 } s m args below meth c 0 G 5 (MQ below (QC 0 G (some (.int r)) M2) args s 0 0 (AU 0 G)) 259 [(0, .ref (gB G + 1)), (1, .int x1)] [] M := by
  intro h
  unfold f_X9_readToken_259 at h
  refine z_iload_n 1 C d_X9_readToken_259 rfl rfl ?_
  refine z_if_ne C d_X9_readToken_260 (fun q1 => ?_) (fun q1 => ?_)
  · have h := o_f q1 h
    exact z_sub [] rfl (k_X9_readToken_292 C hlk hr h)
  · have h := o_t q1 h
    refine z_aload_n 0 C d_X9_readToken_263 rfl rfl ?_
    refine z_get (k := 7) (v := .int (M.1 1 7)) C ((E_9 kx_1 G) _ _) (kU_in kx_1 (by decide)) rfl inX9 (by decide) wf_X9_32 rfl d_X9_readToken_264 ?_
    refine z_aload_n 0 C d_X9_readToken_267 rfl rfl ?_
    refine z_get (k := 6) (v := .int (M.1 1 6)) C ((E_9 kx_1 G) _ _) (kU_in kx_1 (by decide)) rfl inX9 (by decide) wf_X9_127 rfl d_X9_readToken_268 ?_
    refine z_isub C d_X9_readToken_271 ?_
    refine z_iconst (v := (1 : Int32)) C d_X9_readToken_272 (by decide) ?_
    refine z_iconst (v := (3 : Int32)) C d_X9_readToken_273 (by decide) ?_
    obtain ⟨p3, e2, h⟩ := o_bd h
    refine z_SN (S := []) (As := [.int ((M.1 1 7) - (M.1 1 6)), .int (1 : Int32), .int (3 : Int32)]) C (c_X11_isAmong l G (M := M) e2) wc_X11_isAmong wm_X9_19 ws_X11_isAmong wi_X11 hy_X11_isAmong ⟨Nat.le_of_ble_eq_true rfl, Nat.le_of_ble_eq_true rfl⟩ rfl rfl (Nat.le_of_ble_eq_true rfl) d_X9_readToken_274 ?_
    refine z_if_ne C d_X9_readToken_277 (fun q4 => ?_) (fun q4 => ?_)
    · have h := o_f q4 h
      exact z_sub [] rfl (k_X9_readToken_292 C hlk hr h)
    · have h := o_t q4 h
      refine z_aload_n 0 C d_X9_readToken_280 rfl rfl ?_
      refine z_iconst (v := (1 : Int32)) C d_X9_readToken_281 (by decide) ?_
      refine z_aload_n 0 C d_X9_readToken_282 rfl rfl ?_
      refine z_get (k := 6) (v := .int (M.1 1 6)) C ((E_9 kx_1 G) _ _) (kU_in kx_1 (by decide)) rfl inX9 (by decide) wf_X9_127 rfl d_X9_readToken_283 ?_
      obtain ⟨p6, e5, h⟩ := o_bd h
      refine z_V (S := []) (As := [.int (1 : Int32), .int (M.1 1 6)]) C (c_X9_refuse l G e5) ((E_9 kx_1 G) _ _) (kU_in kx_1 (by decide)) rfl wc_X9_refuse wm_X9_60 ws_X9_refuse wl_X9_refuse wi_X9 hy_X9_refuse ⟨Nat.le_of_ble_eq_true rfl, Nat.le_of_ble_eq_true rfl⟩ rfl rfl (Nat.le_of_ble_eq_true rfl) d_X9_readToken_286 ?_
      refine z_if_eq C d_X9_readToken_289 (fun q7 => ?_) (fun q7 => ?_)
      · have h := o_t q7 h
        refine z_iconst (v := (0 : Int32)) C d_X9_readToken_296 (by decide) ?_
        exact z_sub [] rfl (k_X9_readToken_297 C hlk hr h)
      · have h := o_f q7 h
        exact z_sub [] rfl (k_X9_readToken_292 C hlk hr h)
set_option maxRecDepth 4000 in
theorem kb_X9_readToken_218 {p : Program} {l : Launch} {e : Env} {s : State} {m : MethodId} {args : Array Value} {below : List Frame} {meth : Method} {c : Code} {G : GG} {k218 : Mm → Int32 → Option (Int32 × Mm)} {x1 : Int32} {M : Mm} {x4 : Int32} {r : Int32} {M2 : Mm} (C : CX p s m args c prog_11_method_25_code 5 "SnowSentries$Text" 0 G) (hlk : meth.locks = false) (hr : meth.sig.returnType = (some .boolean)) (hk218 : ∀ (M : Mm) (x4 : Int32), k218 M x4 = some (r, M2) → Z p l e { frames := 1, cells := 0, slots := 0, locals := 22 } s m args below meth c 0 G 5 (MQ below (QC 0 G (some (.int r)) M2) args s 0 0 (AU 0 G)) 218 [(0, .ref (gB G + 1)), (1, .int x1), (4, .int x4)] [] M) : b_X9_readToken_218 k218 x1 M x4 = some (r, M2) → Z p l e { frames := 1, cells := 0, slots := 0, locals := 22 } s m args below meth c 0 G 5 (MQ below (QC 0 G (some (.int r)) M2) args s 0 0 (AU 0 G)) 218 [(0, .ref (gB G + 1)), (1, .int x1), (4, .int x4)] [] M := by
  intro h
  unfold b_X9_readToken_218 at h
  refine z_iload 2 C d_X9_readToken_218 rfl ?_
  refine z_aload_n 0 C d_X9_readToken_220 rfl rfl ?_
  refine z_get (k := 7) (v := .int (M.1 1 7)) C ((E_9 kx_1 G) _ _) (kU_in kx_1 (by decide)) rfl inX9 (by decide) wf_X9_32 rfl d_X9_readToken_221 ?_
  refine z_icmp_ge C d_X9_readToken_224 (fun q1 => ?_) (fun q1 => ?_)
  · have h := o_t q1 h
    exact z_sub [0, 1] rfl (k_X9_readToken_259 C hlk hr h)
  · have h := o_f q1 h
    refine z_iload_n 1 C d_X9_readToken_227 rfl rfl ?_
    refine z_if_ne C d_X9_readToken_228 (fun q2 => ?_) (fun q2 => ?_)
    · have h := o_f q2 h
      exact z_sub [0, 1] rfl (k_X9_readToken_259 C hlk hr h)
    · have h := o_t q2 h
      refine z_aload_n 0 C d_X9_readToken_231 rfl rfl ?_
      refine z_bipush (v := (10 : Int32)) C d_X9_readToken_232 (by decide) ?_
      refine z_aload_n 0 C d_X9_readToken_234 rfl rfl ?_
      refine z_get (k := 8) (v := .int (M.1 1 8)) C ((E_9 kx_1 G) _ _) (kU_in kx_1 (by decide)) rfl inX9 (by decide) wf_X9_137 rfl d_X9_readToken_235 ?_
      refine z_imul C d_X9_readToken_238 ?_
      refine z_aload_n 0 C d_X9_readToken_239 rfl rfl ?_
      refine z_get (k := 0) (v := .ref (gB G + 2)) C ((E_9 kx_1 G) _ _) (kU_in kx_1 (by decide)) rfl inX9 (by decide) wf_X9_11 rfl d_X9_readToken_240 ?_
      refine z_iload 2 C d_X9_readToken_243 rfl ?_
      obtain ⟨q3, h⟩ := o_ck h
      refine z_bld ((E_25 kx_2 G) _ _) C (kU_in kx_2 (by decide)) q3 d_X9_readToken_245 ?_
      refine z_iadd C d_X9_readToken_246 ?_
      refine z_bipush (v := (48 : Int32)) C d_X9_readToken_247 (by decide) ?_
      refine z_isub C d_X9_readToken_249 ?_
      obtain ⟨M4, e5, h⟩ := o_wr h
      refine z_pI (k := 8) (ty := .int) C (fun r q => (E_9 kx_1 G) r q) (fun _ _ => rfl) (kU_in kx_1 (by decide)) rfl inX9 tyX9 tyX9_ok nmX9 (by decide) wf_X9_137 rfl (by decide +kernel) rfl rfl (Nat.le_of_ble_eq_true rfl) d_X9_readToken_250 ?_
      refine z_nM e5 ?_
      refine z_iinc (v := (1 : Int32)) (L' := [(4, .int (x4 + (1 : Int32))), (0, .ref (gB G + 1)), (1, .int x1)]) 2 C d_X9_readToken_253 rfl (by decide) (by decide) rfl ?_
      refine z_goto C d_X9_readToken_256 ?_
      exact z_sub [1, 2, 0] rfl (hk218 _ _  h)
theorem k_X9_readToken_218 {p : Program} {l : Launch} {e : Env} {s : State} {m : MethodId} {args : Array Value} {below : List Frame} {meth : Method} {c : Code} {G : GG} {x1 : Int32} {r : Int32} {M2 : Mm} (C : CX p s m args c prog_11_method_25_code 5 "SnowSentries$Text" 0 G) (hlk : meth.locks = false) (hr : meth.sig.returnType = (some .boolean)) : ∀ (n : Nat) (M : Mm) (x4 : Int32), f_X9_readToken_218 x1 n M x4 = some (r, M2) → Z p l e { frames := 1, cells := 0, slots := 0, locals := 22 } s m args below meth c 0 G 5 (MQ below (QC 0 G (some (.int r)) M2) args s 0 0 (AU 0 G)) 218 [(0, .ref (gB G + 1)), (1, .int x1), (4, .int x4)] [] M := by
  intro n
  induction n with
  | zero =>
    intro M x4  h
    exact absurd h (fun z => by cases z)
  | succ n ih =>
    intro M x4  h
    exact kb_X9_readToken_218 C hlk hr  (fun M x4 h => ih M x4 h) h
set_option maxRecDepth 4000 in
theorem k_X9_readToken_204 {p : Program} {l : Launch} {e : Env} {s : State} {m : MethodId} {args : Array Value} {below : List Frame} {meth : Method} {c : Code} {G : GG} {M : Mm} {x1 : Int32} {s_1 : Int32} {r : Int32} {M2 : Mm} (C : CX p s m args c prog_11_method_25_code 5 "SnowSentries$Text" 0 G) (hlk : meth.locks = false) (hr : meth.sig.returnType = (some .boolean)) : f_X9_readToken_204 M x1 s_1 = some (r, M2) → Z p l e { frames := 1, cells := 0, slots := 0, locals := 22 } s m args below meth c 0 G 5 (MQ below (QC 0 G (some (.int r)) M2) args s 0 0 (AU 0 G)) 204 [(0, .ref (gB G + 1)), (1, .int x1)] [.int s_1, .ref (gB G + 1)] M := by
  intro h
  unfold f_X9_readToken_204 at h
  obtain ⟨M1, e2, h⟩ := o_wr h
  refine z_pI (k := 5) (ty := .int) C (fun r q => (E_9 kx_1 G) r q) (fun _ _ => rfl) (kU_in kx_1 (by decide)) rfl inX9 tyX9 tyX9_ok nmX9 (by decide) wf_X9_48 rfl (by decide +kernel) rfl rfl (Nat.le_of_ble_eq_true rfl) d_X9_readToken_204 ?_
  refine z_nM e2 ?_
  refine z_aload_n 0 C d_X9_readToken_207 rfl rfl ?_
  refine z_iconst (v := (0 : Int32)) C d_X9_readToken_208 (by decide) ?_
  obtain ⟨M3, e4, h⟩ := o_wr h
  refine z_pI (k := 8) (ty := .int) C (fun r q => (E_9 kx_1 G) r q) (fun _ _ => rfl) (kU_in kx_1 (by decide)) rfl inX9 tyX9 tyX9_ok nmX9 (by decide) wf_X9_137 rfl (by decide +kernel) rfl rfl (Nat.le_of_ble_eq_true rfl) d_X9_readToken_209 ?_
  refine z_nM e4 ?_
  refine z_aload_n 0 C d_X9_readToken_212 rfl rfl ?_
  refine z_get (k := 6) (v := .int (M3.1 1 6)) C ((E_9 kx_1 G) _ _) (kU_in kx_1 (by decide)) rfl inX9 (by decide) wf_X9_127 rfl d_X9_readToken_213 ?_
  obtain ⟨v5, e6, h⟩ := o_nm h
  refine z_nI e6 ?_
  refine z_istore (L' := [(4, .int v5), (0, .ref (gB G + 1)), (1, .int x1)]) C d_X9_readToken_216 (by decide) rfl ?_
  exact z_sub [1, 2, 0] rfl (k_X9_readToken_218 C hlk hr _ _ _ h)
set_option maxRecDepth 4000 in
theorem k_X9_readToken_194 {p : Program} {l : Launch} {e : Env} {s : State} {m : MethodId} {args : Array Value} {below : List Frame} {meth : Method} {c : Code} {G : GG} {M : Mm} {x1 : Int32} {r : Int32} {M2 : Mm} (C : CX p s m args c prog_11_method_25_code 5 "SnowSentries$Text" 0 G) (hlk : meth.locks = false) (hr : meth.sig.returnType = (some .boolean)) : f_X9_readToken_194 M x1 = some (r, M2) → Z p l e { frames := 1, cells := 0, slots := 0, locals := 22 } s m args below meth c 0 G 5 (MQ below (QC 0 G (some (.int r)) M2) args s 0 0 (AU 0 G)) 194 [(0, .ref (gB G + 1)), (1, .int x1)] [] M := by
  intro h
  unfold f_X9_readToken_194 at h
  refine z_aload_n 0 C d_X9_readToken_194 rfl rfl ?_
  refine z_iload_n 1 C d_X9_readToken_195 rfl rfl ?_
  refine z_if_eq C d_X9_readToken_196 (fun q1 => ?_) (fun q1 => ?_)
  · have h := o_t q1 h
    refine z_iconst (v := (2 : Int32)) C d_X9_readToken_203 (by decide) ?_
    exact z_sub [0, 1] rfl (k_X9_readToken_204 C hlk hr h)
  · have h := o_f q1 h
    refine z_iconst (v := (1 : Int32)) C d_X9_readToken_199 (by decide) ?_
    refine z_goto C d_X9_readToken_200 ?_
    exact z_sub [0, 1] rfl (k_X9_readToken_204 C hlk hr h)
set_option maxRecDepth 4000 in
theorem kb_X9_readToken_144 {p : Program} {l : Launch} {e : Env} {s : State} {m : MethodId} {args : Array Value} {below : List Frame} {meth : Method} {c : Code} {G : GG} {k144 : Mm → Option (Int32 × Mm)} {x1 : Int32} {x2 : Int32} {x3 : Int32} {M : Mm} {r : Int32} {M2 : Mm} (C : CX p s m args c prog_11_method_25_code 5 "SnowSentries$Text" 0 G) (hlk : meth.locks = false) (hr : meth.sig.returnType = (some .boolean)) (hk144 : ∀ (M : Mm), k144 M = some (r, M2) → Z p l e { frames := 1, cells := 0, slots := 0, locals := 22 } s m args below meth c 0 G 5 (MQ below (QC 0 G (some (.int r)) M2) args s 0 0 (AU 0 G)) 144 [(0, .ref (gB G + 1)), (1, .int x1), (2, .int x2), (3, .int x3)] [] M) : b_X9_readToken_144 k144 x1 x2 x3 M = some (r, M2) → Z p l e { frames := 1, cells := 0, slots := 0, locals := 22 } s m args below meth c 0 G 5 (MQ below (QC 0 G (some (.int r)) M2) args s 0 0 (AU 0 G)) 144 [(0, .ref (gB G + 1)), (1, .int x1), (2, .int x2), (3, .int x3)] [] M := by
  intro h
  unfold b_X9_readToken_144 at h
  refine z_aload_n 0 C d_X9_readToken_144 rfl rfl ?_
  refine z_get (k := 7) (v := .int (M.1 1 7)) C ((E_9 kx_1 G) _ _) (kU_in kx_1 (by decide)) rfl inX9 (by decide) wf_X9_32 rfl d_X9_readToken_145 ?_
  refine z_aload_n 0 C d_X9_readToken_148 rfl rfl ?_
  refine z_get (k := 1) (v := .int (M.1 1 1)) C ((E_9 kx_1 G) _ _) (kU_in kx_1 (by decide)) rfl inX9 (by decide) wf_X9_15 rfl d_X9_readToken_149 ?_
  refine z_icmp_ge C d_X9_readToken_152 (fun q1 => ?_) (fun q1 => ?_)
  · have h := o_t q1 h
    exact z_sub [0, 1] rfl (k_X9_readToken_194 C hlk hr h)
  · have h := o_f q1 h
    refine z_aload_n 0 C d_X9_readToken_155 rfl rfl ?_
    refine z_get (k := 0) (v := .ref (gB G + 2)) C ((E_9 kx_1 G) _ _) (kU_in kx_1 (by decide)) rfl inX9 (by decide) wf_X9_11 rfl d_X9_readToken_156 ?_
    refine z_aload_n 0 C d_X9_readToken_159 rfl rfl ?_
    refine z_get (k := 7) (v := .int (M.1 1 7)) C ((E_9 kx_1 G) _ _) (kU_in kx_1 (by decide)) rfl inX9 (by decide) wf_X9_32 rfl d_X9_readToken_160 ?_
    obtain ⟨q2, h⟩ := o_ck h
    refine z_bld ((E_25 kx_2 G) _ _) C (kU_in kx_2 (by decide)) q2 d_X9_readToken_163 ?_
    refine z_iload_n 2 C d_X9_readToken_164 rfl rfl ?_
    refine z_icmp_lt C d_X9_readToken_165 (fun q3 => ?_) (fun q3 => ?_)
    · have h := o_t q3 h
      exact z_sub [0, 1] rfl (k_X9_readToken_194 C hlk hr h)
    · have h := o_f q3 h
      refine z_aload_n 0 C d_X9_readToken_168 rfl rfl ?_
      refine z_get (k := 0) (v := .ref (gB G + 2)) C ((E_9 kx_1 G) _ _) (kU_in kx_1 (by decide)) rfl inX9 (by decide) wf_X9_11 rfl d_X9_readToken_169 ?_
      refine z_aload_n 0 C d_X9_readToken_172 rfl rfl ?_
      refine z_get (k := 7) (v := .int (M.1 1 7)) C ((E_9 kx_1 G) _ _) (kU_in kx_1 (by decide)) rfl inX9 (by decide) wf_X9_32 rfl d_X9_readToken_173 ?_
      refine z_bld ((E_25 kx_2 G) _ _) C (kU_in kx_2 (by decide)) q2 d_X9_readToken_176 ?_
      refine z_iload_n 3 C d_X9_readToken_177 rfl rfl ?_
      refine z_icmp_gt C d_X9_readToken_178 (fun q4 => ?_) (fun q4 => ?_)
      · have h := o_t q4 h
        exact z_sub [0, 1] rfl (k_X9_readToken_194 C hlk hr h)
      · have h := o_f q4 h
        refine z_aload_n 0 C d_X9_readToken_181 rfl rfl ?_
        refine z_dup C d_X9_readToken_182 rfl ?_
        refine z_get (k := 7) (v := .int (M.1 1 7)) C ((E_9 kx_1 G) _ _) (kU_in kx_1 (by decide)) rfl inX9 (by decide) wf_X9_32 rfl d_X9_readToken_183 ?_
        refine z_iconst (v := (1 : Int32)) C d_X9_readToken_186 (by decide) ?_
        refine z_iadd C d_X9_readToken_187 ?_
        obtain ⟨M5, e6, h⟩ := o_wr h
        refine z_pI (k := 7) (ty := .int) C (fun r q => (E_9 kx_1 G) r q) (fun _ _ => rfl) (kU_in kx_1 (by decide)) rfl inX9 tyX9 tyX9_ok nmX9 (by decide) wf_X9_32 rfl (by decide +kernel) rfl rfl (Nat.le_of_ble_eq_true rfl) d_X9_readToken_188 ?_
        refine z_nM e6 ?_
        refine z_goto C d_X9_readToken_191 ?_
        exact z_sub [0, 1, 2, 3] rfl (hk144 _  h)
theorem k_X9_readToken_144 {p : Program} {l : Launch} {e : Env} {s : State} {m : MethodId} {args : Array Value} {below : List Frame} {meth : Method} {c : Code} {G : GG} {x1 : Int32} {x2 : Int32} {x3 : Int32} {r : Int32} {M2 : Mm} (C : CX p s m args c prog_11_method_25_code 5 "SnowSentries$Text" 0 G) (hlk : meth.locks = false) (hr : meth.sig.returnType = (some .boolean)) : ∀ (n : Nat) (M : Mm), f_X9_readToken_144 x1 x2 x3 n M = some (r, M2) → Z p l e { frames := 1, cells := 0, slots := 0, locals := 22 } s m args below meth c 0 G 5 (MQ below (QC 0 G (some (.int r)) M2) args s 0 0 (AU 0 G)) 144 [(0, .ref (gB G + 1)), (1, .int x1), (2, .int x2), (3, .int x3)] [] M := by
  intro n
  induction n with
  | zero =>
    intro M  h
    exact absurd h (fun z => by cases z)
  | succ n ih =>
    intro M  h
    exact kb_X9_readToken_144 C hlk hr  (fun M h => ih M h) h
set_option maxRecDepth 4000 in
theorem k_X9_readToken_143 {p : Program} {l : Launch} {e : Env} {s : State} {m : MethodId} {args : Array Value} {below : List Frame} {meth : Method} {c : Code} {G : GG} {M : Mm} {x1 : Int32} {x2 : Int32} {s_0 : Int32} {r : Int32} {M2 : Mm} (C : CX p s m args c prog_11_method_25_code 5 "SnowSentries$Text" 0 G) (hlk : meth.locks = false) (hr : meth.sig.returnType = (some .boolean)) : f_X9_readToken_143 M x1 x2 s_0 = some (r, M2) → Z p l e { frames := 1, cells := 0, slots := 0, locals := 22 } s m args below meth c 0 G 5 (MQ below (QC 0 G (some (.int r)) M2) args s 0 0 (AU 0 G)) 143 [(0, .ref (gB G + 1)), (1, .int x1), (2, .int x2)] [.int s_0] M := by
  intro h
  unfold f_X9_readToken_143 at h
  refine z_istore_n (L' := [(3, .int s_0), (0, .ref (gB G + 1)), (1, .int x1), (2, .int x2)]) C d_X9_readToken_143 rfl (by decide) rfl ?_
  exact z_sub [1, 2, 3, 0] rfl (k_X9_readToken_144 C hlk hr _ _ h)
set_option maxRecDepth 4000 in
theorem k_X9_readToken_131 {p : Program} {l : Launch} {e : Env} {s : State} {m : MethodId} {args : Array Value} {below : List Frame} {meth : Method} {c : Code} {G : GG} {M : Mm} {x1 : Int32} {s_0 : Int32} {r : Int32} {M2 : Mm} (C : CX p s m args c prog_11_method_25_code 5 "SnowSentries$Text" 0 G) (hlk : meth.locks = false) (hr : meth.sig.returnType = (some .boolean)) : f_X9_readToken_131 M x1 s_0 = some (r, M2) → Z p l e { frames := 1, cells := 0, slots := 0, locals := 22 } s m args below meth c 0 G 5 (MQ below (QC 0 G (some (.int r)) M2) args s 0 0 (AU 0 G)) 131 [(0, .ref (gB G + 1)), (1, .int x1)] [.int s_0] M := by
  intro h
  unfold f_X9_readToken_131 at h
  refine z_istore_n (L' := [(2, .int s_0), (0, .ref (gB G + 1)), (1, .int x1)]) C d_X9_readToken_131 rfl (by decide) rfl ?_
  refine z_iload_n 2 C d_X9_readToken_132 rfl rfl ?_
  refine z_if_eq C d_X9_readToken_133 (fun q1 => ?_) (fun q1 => ?_)
  · have h := o_t q1 h
    refine z_bipush (v := (57 : Int32)) C d_X9_readToken_141 (by decide) ?_
    exact z_sub [1, 2, 0] rfl (k_X9_readToken_143 C hlk hr h)
  · have h := o_f q1 h
    refine z_bipush (v := (122 : Int32)) C d_X9_readToken_136 (by decide) ?_
    refine z_goto C d_X9_readToken_138 ?_
    exact z_sub [1, 2, 0] rfl (k_X9_readToken_143 C hlk hr h)
set_option maxRecDepth 4000 in
theorem k_X9_readToken_46 {p : Program} {l : Launch} {e : Env} {s : State} {m : MethodId} {args : Array Value} {below : List Frame} {meth : Method} {c : Code} {G : GG} {M : Mm} {r : Int32} {M2 : Mm} (C : CX p s m args c prog_11_method_25_code 5 "SnowSentries$Text" 0 G) (hlk : meth.locks = false) (hr : meth.sig.returnType = (some .boolean)) : f_X9_readToken_46 M = some (r, M2) → Z p l e { frames := 1, cells := 0, slots := 0, locals := 22 } s m args below meth c 0 G 5 (MQ below (QC 0 G (some (.int r)) M2) args s 0 0 (AU 0 G)) 46 [(0, .ref (gB G + 1))] [] M := by
  intro h
  unfold f_X9_readToken_46 at h
  refine z_aload_n 0 C d_X9_readToken_46 rfl rfl ?_
  refine z_aload_n 0 C d_X9_readToken_47 rfl rfl ?_
  refine z_get (k := 6) (v := .int (M.1 1 6)) C ((E_9 kx_1 G) _ _) (kU_in kx_1 (by decide)) rfl inX9 (by decide) wf_X9_127 rfl d_X9_readToken_48 ?_
  obtain ⟨M1, e2, h⟩ := o_wr h
  refine z_pI (k := 7) (ty := .int) C (fun r q => (E_9 kx_1 G) r q) (fun _ _ => rfl) (kU_in kx_1 (by decide)) rfl inX9 tyX9 tyX9_ok nmX9 (by decide) wf_X9_32 rfl (by decide +kernel) rfl rfl (Nat.le_of_ble_eq_true rfl) d_X9_readToken_51 ?_
  refine z_nM e2 ?_
  refine z_aload_n 0 C d_X9_readToken_54 rfl rfl ?_
  refine z_get (k := 6) (v := .int (M1.1 1 6)) C ((E_9 kx_1 G) _ _) (kU_in kx_1 (by decide)) rfl inX9 (by decide) wf_X9_127 rfl d_X9_readToken_55 ?_
  refine z_aload_n 0 C d_X9_readToken_58 rfl rfl ?_
  refine z_get (k := 1) (v := .int (M1.1 1 1)) C ((E_9 kx_1 G) _ _) (kU_in kx_1 (by decide)) rfl inX9 (by decide) wf_X9_15 rfl d_X9_readToken_59 ?_
  refine z_icmp_lt C d_X9_readToken_62 (fun q3 => ?_) (fun q3 => ?_)
  · have h := o_t q3 h
    refine z_aload_n 0 C d_X9_readToken_72 rfl rfl ?_
    refine z_get (k := 0) (v := .ref (gB G + 2)) C ((E_9 kx_1 G) _ _) (kU_in kx_1 (by decide)) rfl inX9 (by decide) wf_X9_11 rfl d_X9_readToken_73 ?_
    refine z_aload_n 0 C d_X9_readToken_76 rfl rfl ?_
    refine z_get (k := 6) (v := .int (M1.1 1 6)) C ((E_9 kx_1 G) _ _) (kU_in kx_1 (by decide)) rfl inX9 (by decide) wf_X9_127 rfl d_X9_readToken_77 ?_
    obtain ⟨q4, h⟩ := o_ck h
    refine z_bld ((E_25 kx_2 G) _ _) C (kU_in kx_2 (by decide)) q4 d_X9_readToken_80 ?_
    refine z_bipush (v := (59 : Int32)) C d_X9_readToken_81 (by decide) ?_
    refine z_icmp_ne C d_X9_readToken_83 (fun q5 => ?_) (fun q5 => ?_)
    · have h := o_f q5 h
      refine z_aload_n 0 C d_X9_readToken_103 rfl rfl ?_
      refine z_get (k := 0) (v := .ref (gB G + 2)) C ((E_9 kx_1 G) _ _) (kU_in kx_1 (by decide)) rfl inX9 (by decide) wf_X9_11 rfl d_X9_readToken_104 ?_
      refine z_aload_n 0 C d_X9_readToken_107 rfl rfl ?_
      refine z_get (k := 6) (v := .int (M1.1 1 6)) C ((E_9 kx_1 G) _ _) (kU_in kx_1 (by decide)) rfl inX9 (by decide) wf_X9_127 rfl d_X9_readToken_108 ?_
      refine z_bld ((E_25 kx_2 G) _ _) C (kU_in kx_2 (by decide)) q4 d_X9_readToken_111 ?_
      refine z_bipush (v := (97 : Int32)) C d_X9_readToken_112 (by decide) ?_
      refine z_bipush (v := (122 : Int32)) C d_X9_readToken_114 (by decide) ?_
      obtain ⟨p7, e6, h⟩ := o_bd h
      refine z_SN (S := []) (As := [.int (M1.1 2 (M1.1 1 6).toNatClampNeg), .int (97 : Int32), .int (122 : Int32)]) C (c_X11_isAmong l G (M := M1) e6) wc_X11_isAmong wm_X9_19 ws_X11_isAmong wi_X11 hy_X11_isAmong ⟨Nat.le_of_ble_eq_true rfl, Nat.le_of_ble_eq_true rfl⟩ rfl rfl (Nat.le_of_ble_eq_true rfl) d_X9_readToken_116 ?_
      refine z_istore_n (L' := [(1, .int p7), (0, .ref (gB G + 1))]) C d_X9_readToken_119 rfl (by decide) rfl ?_
      refine z_iload_n 0 C d_X9_readToken_120 rfl rfl ?_
      refine z_if_eq C d_X9_readToken_121 (fun q8 => ?_) (fun q8 => ?_)
      · have h := o_t q8 h
        refine z_bipush (v := (48 : Int32)) C d_X9_readToken_129 (by decide) ?_
        exact z_sub [1, 0] rfl (k_X9_readToken_131 C hlk hr h)
      · have h := o_f q8 h
        refine z_bipush (v := (97 : Int32)) C d_X9_readToken_124 (by decide) ?_
        refine z_goto C d_X9_readToken_126 ?_
        exact z_sub [1, 0] rfl (k_X9_readToken_131 C hlk hr h)
    · have h := o_t q5 h
      refine z_aload_n 0 C d_X9_readToken_86 rfl rfl ?_
      refine z_iconst (v := (3 : Int32)) C d_X9_readToken_87 (by decide) ?_
      obtain ⟨M9, e10, h⟩ := o_wr h
      refine z_pI (k := 5) (ty := .int) C (fun r q => (E_9 kx_1 G) r q) (fun _ _ => rfl) (kU_in kx_1 (by decide)) rfl inX9 tyX9 tyX9_ok nmX9 (by decide) wf_X9_48 rfl (by decide +kernel) rfl rfl (Nat.le_of_ble_eq_true rfl) d_X9_readToken_88 ?_
      refine z_nM e10 ?_
      refine z_aload_n 0 C d_X9_readToken_91 rfl rfl ?_
      refine z_aload_n 0 C d_X9_readToken_92 rfl rfl ?_
      refine z_get (k := 6) (v := .int (M9.1 1 6)) C ((E_9 kx_1 G) _ _) (kU_in kx_1 (by decide)) rfl inX9 (by decide) wf_X9_127 rfl d_X9_readToken_93 ?_
      refine z_iconst (v := (1 : Int32)) C d_X9_readToken_96 (by decide) ?_
      refine z_iadd C d_X9_readToken_97 ?_
      obtain ⟨M11, e12, h⟩ := o_wr h
      refine z_pI (k := 7) (ty := .int) C (fun r q => (E_9 kx_1 G) r q) (fun _ _ => rfl) (kU_in kx_1 (by decide)) rfl inX9 tyX9 tyX9_ok nmX9 (by decide) wf_X9_32 rfl (by decide +kernel) rfl rfl (Nat.le_of_ble_eq_true rfl) d_X9_readToken_98 ?_
      refine z_nM e12 ?_
      refine z_iconst (v := (1 : Int32)) C d_X9_readToken_101 (by decide) ?_
      obtain ⟨rfl, rfl⟩ := o_pair h
      exact z_zret C hlk hr (by decide) d_X9_readToken_102
  · have h := o_f q3 h
    refine z_aload_n 0 C d_X9_readToken_65 rfl rfl ?_
    refine z_iconst (v := (0 : Int32)) C d_X9_readToken_66 (by decide) ?_
    obtain ⟨M13, e14, h⟩ := o_wr h
    refine z_pI (k := 5) (ty := .int) C (fun r q => (E_9 kx_1 G) r q) (fun _ _ => rfl) (kU_in kx_1 (by decide)) rfl inX9 tyX9 tyX9_ok nmX9 (by decide) wf_X9_48 rfl (by decide +kernel) rfl rfl (Nat.le_of_ble_eq_true rfl) d_X9_readToken_67 ?_
    refine z_nM e14 ?_
    refine z_iconst (v := (1 : Int32)) C d_X9_readToken_70 (by decide) ?_
    obtain ⟨rfl, rfl⟩ := o_pair h
    exact z_zret C hlk hr (by decide) d_X9_readToken_71
set_option maxRecDepth 4000 in
theorem kb_X9_readToken_8 {p : Program} {l : Launch} {e : Env} {s : State} {m : MethodId} {args : Array Value} {below : List Frame} {meth : Method} {c : Code} {G : GG} {k8 : Mm → Option (Int32 × Mm)} {M : Mm} {r : Int32} {M2 : Mm} (C : CX p s m args c prog_11_method_25_code 5 "SnowSentries$Text" 0 G) (hlk : meth.locks = false) (hr : meth.sig.returnType = (some .boolean)) (hk8 : ∀ (M : Mm), k8 M = some (r, M2) → Z p l e { frames := 1, cells := 0, slots := 0, locals := 22 } s m args below meth c 0 G 5 (MQ below (QC 0 G (some (.int r)) M2) args s 0 0 (AU 0 G)) 8 [(0, .ref (gB G + 1))] [] M) : b_X9_readToken_8 k8 M = some (r, M2) → Z p l e { frames := 1, cells := 0, slots := 0, locals := 22 } s m args below meth c 0 G 5 (MQ below (QC 0 G (some (.int r)) M2) args s 0 0 (AU 0 G)) 8 [(0, .ref (gB G + 1))] [] M := by
  intro h
  unfold b_X9_readToken_8 at h
  refine z_aload_n 0 C d_X9_readToken_8 rfl rfl ?_
  refine z_get (k := 6) (v := .int (M.1 1 6)) C ((E_9 kx_1 G) _ _) (kU_in kx_1 (by decide)) rfl inX9 (by decide) wf_X9_127 rfl d_X9_readToken_9 ?_
  refine z_aload_n 0 C d_X9_readToken_12 rfl rfl ?_
  refine z_get (k := 1) (v := .int (M.1 1 1)) C ((E_9 kx_1 G) _ _) (kU_in kx_1 (by decide)) rfl inX9 (by decide) wf_X9_15 rfl d_X9_readToken_13 ?_
  refine z_icmp_ge C d_X9_readToken_16 (fun q1 => ?_) (fun q1 => ?_)
  · have h := o_t q1 h
    exact z_sub [0] rfl (k_X9_readToken_46 C hlk hr h)
  · have h := o_f q1 h
    refine z_aload_n 0 C d_X9_readToken_19 rfl rfl ?_
    refine z_get (k := 0) (v := .ref (gB G + 2)) C ((E_9 kx_1 G) _ _) (kU_in kx_1 (by decide)) rfl inX9 (by decide) wf_X9_11 rfl d_X9_readToken_20 ?_
    refine z_aload_n 0 C d_X9_readToken_23 rfl rfl ?_
    refine z_get (k := 6) (v := .int (M.1 1 6)) C ((E_9 kx_1 G) _ _) (kU_in kx_1 (by decide)) rfl inX9 (by decide) wf_X9_127 rfl d_X9_readToken_24 ?_
    obtain ⟨q2, h⟩ := o_ck h
    refine z_bld ((E_25 kx_2 G) _ _) C (kU_in kx_2 (by decide)) q2 d_X9_readToken_27 ?_
    refine z_bipush (v := (32 : Int32)) C d_X9_readToken_28 (by decide) ?_
    refine z_icmp_ne C d_X9_readToken_30 (fun q3 => ?_) (fun q3 => ?_)
    · have h := o_f q3 h
      exact z_sub [0] rfl (k_X9_readToken_46 C hlk hr h)
    · have h := o_t q3 h
      refine z_aload_n 0 C d_X9_readToken_33 rfl rfl ?_
      refine z_dup C d_X9_readToken_34 rfl ?_
      refine z_get (k := 6) (v := .int (M.1 1 6)) C ((E_9 kx_1 G) _ _) (kU_in kx_1 (by decide)) rfl inX9 (by decide) wf_X9_127 rfl d_X9_readToken_35 ?_
      refine z_iconst (v := (1 : Int32)) C d_X9_readToken_38 (by decide) ?_
      refine z_iadd C d_X9_readToken_39 ?_
      obtain ⟨M4, e5, h⟩ := o_wr h
      refine z_pI (k := 6) (ty := .int) C (fun r q => (E_9 kx_1 G) r q) (fun _ _ => rfl) (kU_in kx_1 (by decide)) rfl inX9 tyX9 tyX9_ok nmX9 (by decide) wf_X9_127 rfl (by decide +kernel) rfl rfl (Nat.le_of_ble_eq_true rfl) d_X9_readToken_40 ?_
      refine z_nM e5 ?_
      refine z_goto C d_X9_readToken_43 ?_
      exact z_sub [0] rfl (hk8 _  h)
theorem k_X9_readToken_8 {p : Program} {l : Launch} {e : Env} {s : State} {m : MethodId} {args : Array Value} {below : List Frame} {meth : Method} {c : Code} {G : GG} {r : Int32} {M2 : Mm} (C : CX p s m args c prog_11_method_25_code 5 "SnowSentries$Text" 0 G) (hlk : meth.locks = false) (hr : meth.sig.returnType = (some .boolean)) : ∀ (n : Nat) (M : Mm), f_X9_readToken_8 n M = some (r, M2) → Z p l e { frames := 1, cells := 0, slots := 0, locals := 22 } s m args below meth c 0 G 5 (MQ below (QC 0 G (some (.int r)) M2) args s 0 0 (AU 0 G)) 8 [(0, .ref (gB G + 1))] [] M := by
  intro n
  induction n with
  | zero =>
    intro M  h
    exact absurd h (fun z => by cases z)
  | succ n ih =>
    intro M  h
    exact kb_X9_readToken_8 C hlk hr  (fun M h => ih M h) h
set_option maxRecDepth 4000 in
theorem k_X9_readToken_0 {p : Program} {l : Launch} {e : Env} {s : State} {m : MethodId} {args : Array Value} {below : List Frame} {meth : Method} {c : Code} {G : GG} {M : Mm} {r : Int32} {M2 : Mm} (C : CX p s m args c prog_11_method_25_code 5 "SnowSentries$Text" 0 G) (hlk : meth.locks = false) (hr : meth.sig.returnType = (some .boolean)) : f_X9_readToken M = some (r, M2) → Z p l e { frames := 1, cells := 0, slots := 0, locals := 22 } s m args below meth c 0 G 5 (MQ below (QC 0 G (some (.int r)) M2) args s 0 0 (AU 0 G)) 0 [(0, .ref (gB G + 1))] [] M := by
  intro h
  unfold f_X9_readToken at h
  refine z_aload_n 0 C d_X9_readToken_0 rfl rfl ?_
  refine z_aload_n 0 C d_X9_readToken_1 rfl rfl ?_
  refine z_get (k := 7) (v := .int (M.1 1 7)) C ((E_9 kx_1 G) _ _) (kU_in kx_1 (by decide)) rfl inX9 (by decide) wf_X9_32 rfl d_X9_readToken_2 ?_
  obtain ⟨M1, e2, h⟩ := o_wr h
  refine z_pI (k := 6) (ty := .int) C (fun r q => (E_9 kx_1 G) r q) (fun _ _ => rfl) (kU_in kx_1 (by decide)) rfl inX9 tyX9 tyX9_ok nmX9 (by decide) wf_X9_127 rfl (by decide +kernel) rfl rfl (Nat.le_of_ble_eq_true rfl) d_X9_readToken_5 ?_
  refine z_nM e2 ?_
  exact z_sub [0] rfl (k_X9_readToken_8 C hlk hr _ _ h)
theorem c_X9_readToken (l : Launch) (G : GG) {M : Mm} {r : Int32} {M2 : Mm} (h : f_X9_readToken M = some (r, M2)) : CT l 0 G y_X9_readToken prog_11_method_25_code 5 (some .boolean) 1 22 [.ref (gB G + 1)] M (some (.int r)) M2 :=
  CT.of (by decide +kernel) (Nat.le_of_ble_eq_true rfl) rfl (fun p e s m args below meth c C hlk hr => k_X9_readToken_0 C hlk hr h)
-- SnowSentries$Text.isNamed(Ljava/lang/String;)Z
set_option maxRecDepth 4000 in
theorem k_X9_isNamed_24 {p : Program} {l : Launch} {e : Env} {s : State} {m : MethodId} {args : Array Value} {below : List Frame} {meth : Method} {c : Code} {G : GG} {M : Mm} {r : Int32} (C : CX p s m args c prog_11_method_24_code 3 "SnowSentries$Text" 0 G) (hlk : meth.locks = false) (hr : meth.sig.returnType = (some .boolean)) : f_X9_isNamed_24 M = some r → Z p l e { frames := 5, cells := 0, slots := 0, locals := 141 } s m args below meth c 0 G 3 (MQ below (QC 0 G (some (.int r)) M) args s 0 0 (AU 0 G)) 24 [] [] M := by
  intro h
  unfold f_X9_isNamed_24 at h
  refine z_iconst (v := (0 : Int32)) C d_X9_isNamed_24 (by decide) ?_
  obtain rfl := o_some h
  exact z_zret C hlk hr (by decide) d_X9_isNamed_25
set_option maxRecDepth 4000 in
theorem kb_X9_isNamed_28 {p : Program} {l : Launch} {e : Env} {s : State} {m : MethodId} {args : Array Value} {below : List Frame} {meth : Method} {c : Code} {G : GG} {k28 : Int32 → Option Int32} {M : Mm} {a1 : Nat} {x2 : Int32} {r : Int32} (C : CX p s m args c prog_11_method_24_code 3 "SnowSentries$Text" 0 G) (hlk : meth.locks = false) (hr : meth.sig.returnType = (some .boolean)) (ha1 : a1 < 16) (hk28 : ∀ (x2 : Int32), k28 x2 = some r → Z p l e { frames := 5, cells := 0, slots := 0, locals := 141 } s m args below meth c 0 G 3 (MQ below (QC 0 G (some (.int r)) M) args s 0 0 (AU 0 G)) 28 [(0, .ref (gB G + 1)), (1, .ref (gK G a1)), (2, .int x2)] [] M) : b_X9_isNamed_28 k28 M a1 x2 = some r → Z p l e { frames := 5, cells := 0, slots := 0, locals := 141 } s m args below meth c 0 G 3 (MQ below (QC 0 G (some (.int r)) M) args s 0 0 (AU 0 G)) 28 [(0, .ref (gB G + 1)), (1, .ref (gK G a1)), (2, .int x2)] [] M := by
  intro h
  unfold b_X9_isNamed_28 at h
  refine z_iload_n 2 C d_X9_isNamed_28 rfl rfl ?_
  refine z_aload_n 1 C d_X9_isNamed_29 rfl rfl ?_
  refine z_VS (S := [.int x2]) (As := []) (w := a1) C (c_J0_length_8abf5 l G ha1) ha1 wc_J0_length_8abf5 wm_X9_237 ws_J0_length_8abf5 wl_J0_length_8abf5 wi_J0 hy_J0_length_8abf5 ⟨Nat.le_of_ble_eq_true rfl, Nat.le_of_ble_eq_true rfl⟩ rfl rfl (Nat.le_of_ble_eq_true rfl) d_X9_isNamed_30 ?_
  refine z_icmp_ge C d_X9_isNamed_33 (fun q1 => ?_) (fun q1 => ?_)
  · have h := o_t q1 h
    refine z_iconst (v := (1 : Int32)) C d_X9_isNamed_63 (by decide) ?_
    obtain rfl := o_some h
    exact z_zret C hlk hr (by decide) d_X9_isNamed_64
  · have h := o_f q1 h
    refine z_aload_n 0 C d_X9_isNamed_36 rfl rfl ?_
    refine z_get (k := 0) (v := .ref (gB G + 2)) C ((E_9 kx_1 G) _ _) (kU_in kx_1 (by decide)) rfl inX9 (by decide) wf_X9_11 rfl d_X9_isNamed_37 ?_
    refine z_aload_n 0 C d_X9_isNamed_40 rfl rfl ?_
    refine z_get (k := 6) (v := .int (M.1 1 6)) C ((E_9 kx_1 G) _ _) (kU_in kx_1 (by decide)) rfl inX9 (by decide) wf_X9_127 rfl d_X9_isNamed_41 ?_
    refine z_iload_n 2 C d_X9_isNamed_44 rfl rfl ?_
    refine z_iadd C d_X9_isNamed_45 ?_
    obtain ⟨q2, h⟩ := o_ck h
    refine z_bld ((E_25 kx_2 G) _ _) C (kU_in kx_2 (by decide)) q2 d_X9_isNamed_46 ?_
    refine z_aload_n 1 C d_X9_isNamed_47 rfl rfl ?_
    refine z_iload_n 2 C d_X9_isNamed_48 rfl rfl ?_
    obtain ⟨q3, h⟩ := o_ck h
    refine z_VS (S := [.int (M.1 2 ((M.1 1 6) + x2).toNatClampNeg)]) (As := [.int x2]) (w := a1) C (c_J0_charAt_5068e l G ha1 q3) ha1 wc_J0_charAt_5068e wm_X9_242 ws_J0_charAt_5068e wl_J0_charAt_5068e wi_J0 hy_J0_charAt_5068e ⟨Nat.le_of_ble_eq_true rfl, Nat.le_of_ble_eq_true rfl⟩ rfl rfl (Nat.le_of_ble_eq_true rfl) d_X9_isNamed_49 ?_
    refine z_icmp_eq C d_X9_isNamed_52 (fun q4 => ?_) (fun q4 => ?_)
    · have h := o_t q4 h
      refine z_iinc (v := (1 : Int32)) (L' := [(2, .int (x2 + (1 : Int32))), (0, .ref (gB G + 1)), (1, .ref (gK G a1))]) 2 C d_X9_isNamed_57 rfl (by decide) (by decide) rfl ?_
      refine z_goto C d_X9_isNamed_60 ?_
      exact z_sub [1, 2, 0] rfl (hk28 _  h)
    · have h := o_f q4 h
      refine z_iconst (v := (0 : Int32)) C d_X9_isNamed_55 (by decide) ?_
      obtain rfl := o_some h
      exact z_zret C hlk hr (by decide) d_X9_isNamed_56
theorem k_X9_isNamed_28 {p : Program} {l : Launch} {e : Env} {s : State} {m : MethodId} {args : Array Value} {below : List Frame} {meth : Method} {c : Code} {G : GG} {M : Mm} {a1 : Nat} {r : Int32} (C : CX p s m args c prog_11_method_24_code 3 "SnowSentries$Text" 0 G) (hlk : meth.locks = false) (hr : meth.sig.returnType = (some .boolean)) (ha1 : a1 < 16) : ∀ (n : Nat) (x2 : Int32), f_X9_isNamed_28 M a1 n x2 = some r → Z p l e { frames := 5, cells := 0, slots := 0, locals := 141 } s m args below meth c 0 G 3 (MQ below (QC 0 G (some (.int r)) M) args s 0 0 (AU 0 G)) 28 [(0, .ref (gB G + 1)), (1, .ref (gK G a1)), (2, .int x2)] [] M := by
  intro n
  induction n with
  | zero =>
    intro x2  h
    exact absurd h (fun z => by cases z)
  | succ n ih =>
    intro x2  h
    exact kb_X9_isNamed_28 C hlk hr ha1 (fun x2 h => ih x2 h) h
set_option maxRecDepth 4000 in
theorem k_X9_isNamed_0 {p : Program} {l : Launch} {e : Env} {s : State} {m : MethodId} {args : Array Value} {below : List Frame} {meth : Method} {c : Code} {G : GG} {M : Mm} {a1 : Nat} {r : Int32} (C : CX p s m args c prog_11_method_24_code 3 "SnowSentries$Text" 0 G) (hlk : meth.locks = false) (hr : meth.sig.returnType = (some .boolean)) (ha1 : a1 < 16) : f_X9_isNamed M a1 = some r → Z p l e { frames := 5, cells := 0, slots := 0, locals := 141 } s m args below meth c 0 G 3 (MQ below (QC 0 G (some (.int r)) M) args s 0 0 (AU 0 G)) 0 [(0, .ref (gB G + 1)), (1, .ref (gK G a1))] [] M := by
  intro h
  unfold f_X9_isNamed at h
  refine z_aload_n 0 C d_X9_isNamed_0 rfl rfl ?_
  refine z_get (k := 5) (v := .int (M.1 1 5)) C ((E_9 kx_1 G) _ _) (kU_in kx_1 (by decide)) rfl inX9 (by decide) wf_X9_48 rfl d_X9_isNamed_1 ?_
  refine z_iconst (v := (1 : Int32)) C d_X9_isNamed_4 (by decide) ?_
  refine z_icmp_ne C d_X9_isNamed_5 (fun q1 => ?_) (fun q1 => ?_)
  · have h := o_f q1 h
    exact z_sub [] rfl (k_X9_isNamed_24 C hlk hr h)
  · have h := o_t q1 h
    refine z_aload_n 0 C d_X9_isNamed_8 rfl rfl ?_
    refine z_get (k := 7) (v := .int (M.1 1 7)) C ((E_9 kx_1 G) _ _) (kU_in kx_1 (by decide)) rfl inX9 (by decide) wf_X9_32 rfl d_X9_isNamed_9 ?_
    refine z_aload_n 0 C d_X9_isNamed_12 rfl rfl ?_
    refine z_get (k := 6) (v := .int (M.1 1 6)) C ((E_9 kx_1 G) _ _) (kU_in kx_1 (by decide)) rfl inX9 (by decide) wf_X9_127 rfl d_X9_isNamed_13 ?_
    refine z_isub C d_X9_isNamed_16 ?_
    refine z_aload_n 1 C d_X9_isNamed_17 rfl rfl ?_
    refine z_VS (S := [.int ((M.1 1 7) - (M.1 1 6))]) (As := []) (w := a1) C (c_J0_length_8abf5 l G ha1) ha1 wc_J0_length_8abf5 wm_X9_237 ws_J0_length_8abf5 wl_J0_length_8abf5 wi_J0 hy_J0_length_8abf5 ⟨Nat.le_of_ble_eq_true rfl, Nat.le_of_ble_eq_true rfl⟩ rfl rfl (Nat.le_of_ble_eq_true rfl) d_X9_isNamed_18 ?_
    refine z_icmp_eq C d_X9_isNamed_21 (fun q2 => ?_) (fun q2 => ?_)
    · have h := o_t q2 h
      refine z_iconst (v := (0 : Int32)) C d_X9_isNamed_26 (by decide) ?_
      refine z_istore_n (L' := [(2, .int (0 : Int32)), (0, .ref (gB G + 1)), (1, .ref (gK G a1))]) C d_X9_isNamed_27 rfl (by decide) rfl ?_
      exact z_sub [1, 2, 0] rfl (k_X9_isNamed_28 C hlk hr ha1 _ _ h)
    · have h := o_f q2 h
      exact z_sub [] rfl (k_X9_isNamed_24 C hlk hr h)
theorem c_X9_isNamed (l : Launch) (G : GG) {M : Mm} {a1 : Nat} {r : Int32} (ha1 : a1 < 16) (h : f_X9_isNamed M a1 = some r) : CT l 0 G y_X9_isNamed prog_11_method_24_code 3 (some .boolean) 5 141 [.ref (gB G + 1), .ref (gK G a1)] M (some (.int r)) M :=
  CT.of (by decide +kernel) (Nat.le_of_ble_eq_true rfl) rfl (fun p e s m args below meth c C hlk hr => k_X9_isNamed_0 C hlk hr ha1 h)
-- SnowSentries$Text.isFirst(I)Z
set_option maxRecDepth 4000 in
theorem k_X9_isFirst_0 {p : Program} {l : Launch} {e : Env} {s : State} {m : MethodId} {args : Array Value} {below : List Frame} {meth : Method} {c : Code} {G : GG} {M : Mm} {x1 : Int32} {r : Int32} {M2 : Mm} (C : CX p s m args c prog_11_method_21_code 2 "SnowSentries$Text" 0 G) (hlk : meth.locks = false) (hr : meth.sig.returnType = (some .boolean)) : f_X9_isFirst M x1 = some (r, M2) → Z p l e { frames := 1, cells := 0, slots := 0, locals := 22 } s m args below meth c 0 G 2 (MQ below (QC 0 G (some (.int r)) M2) args s 0 0 (AU 0 G)) 0 [(0, .ref (gB G + 1)), (1, .int x1)] [] M := by
  intro h
  unfold f_X9_isFirst at h
  refine z_aload_n 0 C d_X9_isFirst_0 rfl rfl ?_
  refine z_get (k := 9) (v := .int (M.1 1 9)) C ((E_9 kx_1 G) _ _) (kU_in kx_1 (by decide)) rfl inX9 (by decide) wf_X9_35 rfl d_X9_isFirst_1 ?_
  refine z_iload_n 1 C d_X9_isFirst_4 rfl rfl ?_
  refine z_iand C d_X9_isFirst_5 ?_
  refine z_if_eq C d_X9_isFirst_6 (fun q1 => ?_) (fun q1 => ?_)
  · have h := o_t q1 h
    refine z_aload_n 0 C d_X9_isFirst_19 rfl rfl ?_
    refine z_dup C d_X9_isFirst_20 rfl ?_
    refine z_get (k := 9) (v := .int (M.1 1 9)) C ((E_9 kx_1 G) _ _) (kU_in kx_1 (by decide)) rfl inX9 (by decide) wf_X9_35 rfl d_X9_isFirst_21 ?_
    refine z_iload_n 1 C d_X9_isFirst_24 rfl rfl ?_
    refine z_ior C d_X9_isFirst_25 ?_
    obtain ⟨M2, e3, h⟩ := o_wr h
    refine z_pI (k := 9) (ty := .int) C (fun r q => (E_9 kx_1 G) r q) (fun _ _ => rfl) (kU_in kx_1 (by decide)) rfl inX9 tyX9 tyX9_ok nmX9 (by decide) wf_X9_35 rfl (by decide +kernel) rfl rfl (Nat.le_of_ble_eq_true rfl) d_X9_isFirst_26 ?_
    refine z_nM e3 ?_
    refine z_iconst (v := (1 : Int32)) C d_X9_isFirst_29 (by decide) ?_
    obtain ⟨rfl, rfl⟩ := o_pair h
    exact z_zret C hlk hr (by decide) d_X9_isFirst_30
  · have h := o_f q1 h
    refine z_aload_n 0 C d_X9_isFirst_9 rfl rfl ?_
    refine z_iconst (v := (4 : Int32)) C d_X9_isFirst_10 (by decide) ?_
    refine z_aload_n 0 C d_X9_isFirst_11 rfl rfl ?_
    refine z_get (k := 6) (v := .int (M.1 1 6)) C ((E_9 kx_1 G) _ _) (kU_in kx_1 (by decide)) rfl inX9 (by decide) wf_X9_127 rfl d_X9_isFirst_12 ?_
    obtain ⟨p5, e4, h⟩ := o_bd h
    refine z_V (S := []) (As := [.int (4 : Int32), .int (M.1 1 6)]) C (c_X9_refuse l G e4) ((E_9 kx_1 G) _ _) (kU_in kx_1 (by decide)) rfl wc_X9_refuse wm_X9_60 ws_X9_refuse wl_X9_refuse wi_X9 hy_X9_refuse ⟨Nat.le_of_ble_eq_true rfl, Nat.le_of_ble_eq_true rfl⟩ rfl rfl (Nat.le_of_ble_eq_true rfl) d_X9_isFirst_15 ?_
    obtain ⟨q6, h⟩ := o_ck h
    obtain ⟨rfl, rfl⟩ := o_pair h
    exact z_zret C hlk hr (isB_nar q6) d_X9_isFirst_18
theorem c_X9_isFirst (l : Launch) (G : GG) {M : Mm} {x1 : Int32} {r : Int32} {M2 : Mm} (h : f_X9_isFirst M x1 = some (r, M2)) : CT l 0 G y_X9_isFirst prog_11_method_21_code 2 (some .boolean) 1 22 [.ref (gB G + 1), .int x1] M (some (.int r)) M2 :=
  CT.of (by decide +kernel) (Nat.le_of_ble_eq_true rfl) rfl (fun p e s m args below meth c C hlk hr => k_X9_isFirst_0 C hlk hr h)
-- SnowSentries$Text.isNumber(II)Z
set_option maxRecDepth 4000 in
theorem k_X9_isNumber_47 {p : Program} {l : Launch} {e : Env} {s : State} {m : MethodId} {args : Array Value} {below : List Frame} {meth : Method} {c : Code} {G : GG} {M : Mm} {s_0 : Int32} {r : Int32} {M2 : Mm} (C : CX p s m args c prog_11_method_22_code 3 "SnowSentries$Text" 0 G) (hlk : meth.locks = false) (hr : meth.sig.returnType = (some .boolean)) : f_X9_isNumber_47 M s_0 = some (r, M2) → Z p l e { frames := 1, cells := 0, slots := 0, locals := 22 } s m args below meth c 0 G 3 (MQ below (QC 0 G (some (.int r)) M2) args s 0 0 (AU 0 G)) 47 [] [.int s_0] M := by
  intro h
  unfold f_X9_isNumber_47 at h
  obtain ⟨q1, h⟩ := o_ck h
  obtain ⟨rfl, rfl⟩ := o_pair h
  exact z_zret C hlk hr (isB_nar q1) d_X9_isNumber_47
set_option maxRecDepth 4000 in
theorem k_X9_isNumber_42 {p : Program} {l : Launch} {e : Env} {s : State} {m : MethodId} {args : Array Value} {below : List Frame} {meth : Method} {c : Code} {G : GG} {M : Mm} {r : Int32} {M2 : Mm} (C : CX p s m args c prog_11_method_22_code 3 "SnowSentries$Text" 0 G) (hlk : meth.locks = false) (hr : meth.sig.returnType = (some .boolean)) : f_X9_isNumber_42 M = some (r, M2) → Z p l e { frames := 1, cells := 0, slots := 0, locals := 22 } s m args below meth c 0 G 3 (MQ below (QC 0 G (some (.int r)) M2) args s 0 0 (AU 0 G)) 42 [] [] M := by
  intro h
  unfold f_X9_isNumber_42 at h
  refine z_iconst (v := (1 : Int32)) C d_X9_isNumber_42 (by decide) ?_
  refine z_goto C d_X9_isNumber_43 ?_
  exact z_sub [] rfl (k_X9_isNumber_47 C hlk hr h)
set_option maxRecDepth 4000 in
theorem k_X9_isNumber_0 {p : Program} {l : Launch} {e : Env} {s : State} {m : MethodId} {args : Array Value} {below : List Frame} {meth : Method} {c : Code} {G : GG} {M : Mm} {x1 : Int32} {x2 : Int32} {r : Int32} {M2 : Mm} (C : CX p s m args c prog_11_method_22_code 3 "SnowSentries$Text" 0 G) (hlk : meth.locks = false) (hr : meth.sig.returnType = (some .boolean)) : f_X9_isNumber M x1 x2 = some (r, M2) → Z p l e { frames := 1, cells := 0, slots := 0, locals := 22 } s m args below meth c 0 G 3 (MQ below (QC 0 G (some (.int r)) M2) args s 0 0 (AU 0 G)) 0 [(0, .ref (gB G + 1)), (1, .int x1), (2, .int x2)] [] M := by
  intro h
  unfold f_X9_isNumber at h
  refine z_aload_n 0 C d_X9_isNumber_0 rfl rfl ?_
  refine z_get (k := 5) (v := .int (M.1 1 5)) C ((E_9 kx_1 G) _ _) (kU_in kx_1 (by decide)) rfl inX9 (by decide) wf_X9_48 rfl d_X9_isNumber_1 ?_
  refine z_iconst (v := (2 : Int32)) C d_X9_isNumber_4 (by decide) ?_
  refine z_icmp_eq C d_X9_isNumber_5 (fun q1 => ?_) (fun q1 => ?_)
  · have h := o_t q1 h
    refine z_aload_n 0 C d_X9_isNumber_18 rfl rfl ?_
    refine z_get (k := 8) (v := .int (M.1 1 8)) C ((E_9 kx_1 G) _ _) (kU_in kx_1 (by decide)) rfl inX9 (by decide) wf_X9_137 rfl d_X9_isNumber_19 ?_
    refine z_iload_n 1 C d_X9_isNumber_22 rfl rfl ?_
    refine z_iload_n 2 C d_X9_isNumber_23 rfl rfl ?_
    obtain ⟨p3, e2, h⟩ := o_bd h
    refine z_SN (S := []) (As := [.int (M.1 1 8), .int x1, .int x2]) C (c_X11_isAmong l G (M := M) e2) wc_X11_isAmong wm_X9_19 ws_X11_isAmong wi_X11 hy_X11_isAmong ⟨Nat.le_of_ble_eq_true rfl, Nat.le_of_ble_eq_true rfl⟩ rfl rfl (Nat.le_of_ble_eq_true rfl) d_X9_isNumber_24 ?_
    refine z_if_ne C d_X9_isNumber_27 (fun q4 => ?_) (fun q4 => ?_)
    · have h := o_f q4 h
      exact z_sub [] rfl (k_X9_isNumber_42 C hlk hr h)
    · have h := o_t q4 h
      refine z_aload_n 0 C d_X9_isNumber_30 rfl rfl ?_
      refine z_iconst (v := (3 : Int32)) C d_X9_isNumber_31 (by decide) ?_
      refine z_aload_n 0 C d_X9_isNumber_32 rfl rfl ?_
      refine z_get (k := 6) (v := .int (M.1 1 6)) C ((E_9 kx_1 G) _ _) (kU_in kx_1 (by decide)) rfl inX9 (by decide) wf_X9_127 rfl d_X9_isNumber_33 ?_
      obtain ⟨p6, e5, h⟩ := o_bd h
      refine z_V (S := []) (As := [.int (3 : Int32), .int (M.1 1 6)]) C (c_X9_refuse l G e5) ((E_9 kx_1 G) _ _) (kU_in kx_1 (by decide)) rfl wc_X9_refuse wm_X9_60 ws_X9_refuse wl_X9_refuse wi_X9 hy_X9_refuse ⟨Nat.le_of_ble_eq_true rfl, Nat.le_of_ble_eq_true rfl⟩ rfl rfl (Nat.le_of_ble_eq_true rfl) d_X9_isNumber_36 ?_
      refine z_if_eq C d_X9_isNumber_39 (fun q7 => ?_) (fun q7 => ?_)
      · have h := o_t q7 h
        refine z_iconst (v := (0 : Int32)) C d_X9_isNumber_46 (by decide) ?_
        exact z_sub [] rfl (k_X9_isNumber_47 C hlk hr h)
      · have h := o_f q7 h
        exact z_sub [] rfl (k_X9_isNumber_42 C hlk hr h)
  · have h := o_f q1 h
    refine z_aload_n 0 C d_X9_isNumber_8 rfl rfl ?_
    refine z_iconst (v := (2 : Int32)) C d_X9_isNumber_9 (by decide) ?_
    refine z_aload_n 0 C d_X9_isNumber_10 rfl rfl ?_
    refine z_get (k := 6) (v := .int (M.1 1 6)) C ((E_9 kx_1 G) _ _) (kU_in kx_1 (by decide)) rfl inX9 (by decide) wf_X9_127 rfl d_X9_isNumber_11 ?_
    obtain ⟨p9, e8, h⟩ := o_bd h
    refine z_V (S := []) (As := [.int (2 : Int32), .int (M.1 1 6)]) C (c_X9_refuse l G e8) ((E_9 kx_1 G) _ _) (kU_in kx_1 (by decide)) rfl wc_X9_refuse wm_X9_60 ws_X9_refuse wl_X9_refuse wi_X9 hy_X9_refuse ⟨Nat.le_of_ble_eq_true rfl, Nat.le_of_ble_eq_true rfl⟩ rfl rfl (Nat.le_of_ble_eq_true rfl) d_X9_isNumber_14 ?_
    obtain ⟨q10, h⟩ := o_ck h
    obtain ⟨rfl, rfl⟩ := o_pair h
    exact z_zret C hlk hr (isB_nar q10) d_X9_isNumber_17
theorem c_X9_isNumber (l : Launch) (G : GG) {M : Mm} {x1 : Int32} {x2 : Int32} {r : Int32} {M2 : Mm} (h : f_X9_isNumber M x1 x2 = some (r, M2)) : CT l 0 G y_X9_isNumber prog_11_method_22_code 3 (some .boolean) 1 22 [.ref (gB G + 1), .int x1, .int x2] M (some (.int r)) M2 :=
  CT.of (by decide +kernel) (Nat.le_of_ble_eq_true rfl) rfl (fun p e s m args below meth c C hlk hr => k_X9_isNumber_0 C hlk hr h)
-- SnowSentries$Text.readNumber(II)Z
set_option maxRecDepth 4000 in
theorem k_X9_readNumber_21 {p : Program} {l : Launch} {e : Env} {s : State} {m : MethodId} {args : Array Value} {below : List Frame} {meth : Method} {c : Code} {G : GG} {M : Mm} {s_0 : Int32} {r : Int32} {M2 : Mm} (C : CX p s m args c prog_11_method_19_code 3 "SnowSentries$Text" 0 G) (hlk : meth.locks = false) (hr : meth.sig.returnType = (some .boolean)) : f_X9_readNumber_21 M s_0 = some (r, M2) → Z p l e { frames := 2, cells := 0, slots := 0, locals := 46 } s m args below meth c 0 G 3 (MQ below (QC 0 G (some (.int r)) M2) args s 0 0 (AU 0 G)) 21 [] [.int s_0] M := by
  intro h
  unfold f_X9_readNumber_21 at h
  obtain ⟨q1, h⟩ := o_ck h
  obtain ⟨rfl, rfl⟩ := o_pair h
  exact z_zret C hlk hr (isB_nar q1) d_X9_readNumber_21
set_option maxRecDepth 4000 in
theorem k_X9_readNumber_20 {p : Program} {l : Launch} {e : Env} {s : State} {m : MethodId} {args : Array Value} {below : List Frame} {meth : Method} {c : Code} {G : GG} {M : Mm} {r : Int32} {M2 : Mm} (C : CX p s m args c prog_11_method_19_code 3 "SnowSentries$Text" 0 G) (hlk : meth.locks = false) (hr : meth.sig.returnType = (some .boolean)) : f_X9_readNumber_20 M = some (r, M2) → Z p l e { frames := 2, cells := 0, slots := 0, locals := 46 } s m args below meth c 0 G 3 (MQ below (QC 0 G (some (.int r)) M2) args s 0 0 (AU 0 G)) 20 [] [] M := by
  intro h
  unfold f_X9_readNumber_20 at h
  refine z_iconst (v := (0 : Int32)) C d_X9_readNumber_20 (by decide) ?_
  exact z_sub [] rfl (k_X9_readNumber_21 C hlk hr h)
set_option maxRecDepth 4000 in
theorem k_X9_readNumber_0 {p : Program} {l : Launch} {e : Env} {s : State} {m : MethodId} {args : Array Value} {below : List Frame} {meth : Method} {c : Code} {G : GG} {M : Mm} {x1 : Int32} {x2 : Int32} {r : Int32} {M2 : Mm} (C : CX p s m args c prog_11_method_19_code 3 "SnowSentries$Text" 0 G) (hlk : meth.locks = false) (hr : meth.sig.returnType = (some .boolean)) : f_X9_readNumber M x1 x2 = some (r, M2) → Z p l e { frames := 2, cells := 0, slots := 0, locals := 46 } s m args below meth c 0 G 3 (MQ below (QC 0 G (some (.int r)) M2) args s 0 0 (AU 0 G)) 0 [(0, .ref (gB G + 1)), (1, .int x1), (2, .int x2)] [] M := by
  intro h
  unfold f_X9_readNumber at h
  refine z_aload_n 0 C d_X9_readNumber_0 rfl rfl ?_
  obtain ⟨p2, e1, h⟩ := o_bd h
  refine z_V (S := []) (As := []) C (c_X9_readToken l G e1) ((E_9 kx_1 G) _ _) (kU_in kx_1 (by decide)) rfl wc_X9_readToken wm_X9_44 ws_X9_readToken wl_X9_readToken wi_X9 hy_X9_readToken ⟨Nat.le_of_ble_eq_true rfl, Nat.le_of_ble_eq_true rfl⟩ rfl rfl (Nat.le_of_ble_eq_true rfl) d_X9_readNumber_1 ?_
  refine z_if_eq C d_X9_readNumber_4 (fun q3 => ?_) (fun q3 => ?_)
  · have h := o_t q3 h
    exact z_sub [] rfl (k_X9_readNumber_20 C hlk hr h)
  · have h := o_f q3 h
    refine z_aload_n 0 C d_X9_readNumber_7 rfl rfl ?_
    refine z_iload_n 1 C d_X9_readNumber_8 rfl rfl ?_
    refine z_iload_n 2 C d_X9_readNumber_9 rfl rfl ?_
    obtain ⟨p5, e4, h⟩ := o_bd h
    refine z_V (S := []) (As := [.int x1, .int x2]) C (c_X9_isNumber l G e4) ((E_9 kx_1 G) _ _) (kU_in kx_1 (by decide)) rfl wc_X9_isNumber wm_X9_143 ws_X9_isNumber wl_X9_isNumber wi_X9 hy_X9_isNumber ⟨Nat.le_of_ble_eq_true rfl, Nat.le_of_ble_eq_true rfl⟩ rfl rfl (Nat.le_of_ble_eq_true rfl) d_X9_readNumber_10 ?_
    refine z_if_eq C d_X9_readNumber_13 (fun q6 => ?_) (fun q6 => ?_)
    · have h := o_t q6 h
      exact z_sub [] rfl (k_X9_readNumber_20 C hlk hr h)
    · have h := o_f q6 h
      refine z_iconst (v := (1 : Int32)) C d_X9_readNumber_16 (by decide) ?_
      refine z_goto C d_X9_readNumber_17 ?_
      exact z_sub [] rfl (k_X9_readNumber_21 C hlk hr h)
theorem c_X9_readNumber (l : Launch) (G : GG) {M : Mm} {x1 : Int32} {x2 : Int32} {r : Int32} {M2 : Mm} (h : f_X9_readNumber M x1 x2 = some (r, M2)) : CT l 0 G y_X9_readNumber prog_11_method_19_code 3 (some .boolean) 2 46 [.ref (gB G + 1), .int x1, .int x2] M (some (.int r)) M2 :=
  CT.of (by decide +kernel) (Nat.le_of_ble_eq_true rfl) rfl (fun p e s m args below meth c C hlk hr => k_X9_readNumber_0 C hlk hr h)
-- SnowSentries$Text.isSemicolon()Z
set_option maxRecDepth 4000 in
theorem k_X9_isSemicolon_25 {p : Program} {l : Launch} {e : Env} {s : State} {m : MethodId} {args : Array Value} {below : List Frame} {meth : Method} {c : Code} {G : GG} {M : Mm} {s_0 : Int32} {r : Int32} {M2 : Mm} (C : CX p s m args c prog_11_method_23_code 1 "SnowSentries$Text" 0 G) (hlk : meth.locks = false) (hr : meth.sig.returnType = (some .boolean)) : f_X9_isSemicolon_25 M s_0 = some (r, M2) → Z p l e { frames := 1, cells := 0, slots := 0, locals := 22 } s m args below meth c 0 G 1 (MQ below (QC 0 G (some (.int r)) M2) args s 0 0 (AU 0 G)) 25 [] [.int s_0] M := by
  intro h
  unfold f_X9_isSemicolon_25 at h
  obtain ⟨q1, h⟩ := o_ck h
  obtain ⟨rfl, rfl⟩ := o_pair h
  exact z_zret C hlk hr (isB_nar q1) d_X9_isSemicolon_25
set_option maxRecDepth 4000 in
theorem k_X9_isSemicolon_20 {p : Program} {l : Launch} {e : Env} {s : State} {m : MethodId} {args : Array Value} {below : List Frame} {meth : Method} {c : Code} {G : GG} {M : Mm} {r : Int32} {M2 : Mm} (C : CX p s m args c prog_11_method_23_code 1 "SnowSentries$Text" 0 G) (hlk : meth.locks = false) (hr : meth.sig.returnType = (some .boolean)) : f_X9_isSemicolon_20 M = some (r, M2) → Z p l e { frames := 1, cells := 0, slots := 0, locals := 22 } s m args below meth c 0 G 1 (MQ below (QC 0 G (some (.int r)) M2) args s 0 0 (AU 0 G)) 20 [] [] M := by
  intro h
  unfold f_X9_isSemicolon_20 at h
  refine z_iconst (v := (1 : Int32)) C d_X9_isSemicolon_20 (by decide) ?_
  refine z_goto C d_X9_isSemicolon_21 ?_
  exact z_sub [] rfl (k_X9_isSemicolon_25 C hlk hr h)
set_option maxRecDepth 4000 in
theorem k_X9_isSemicolon_0 {p : Program} {l : Launch} {e : Env} {s : State} {m : MethodId} {args : Array Value} {below : List Frame} {meth : Method} {c : Code} {G : GG} {M : Mm} {r : Int32} {M2 : Mm} (C : CX p s m args c prog_11_method_23_code 1 "SnowSentries$Text" 0 G) (hlk : meth.locks = false) (hr : meth.sig.returnType = (some .boolean)) : f_X9_isSemicolon M = some (r, M2) → Z p l e { frames := 1, cells := 0, slots := 0, locals := 22 } s m args below meth c 0 G 1 (MQ below (QC 0 G (some (.int r)) M2) args s 0 0 (AU 0 G)) 0 [(0, .ref (gB G + 1))] [] M := by
  intro h
  unfold f_X9_isSemicolon at h
  refine z_aload_n 0 C d_X9_isSemicolon_0 rfl rfl ?_
  refine z_get (k := 5) (v := .int (M.1 1 5)) C ((E_9 kx_1 G) _ _) (kU_in kx_1 (by decide)) rfl inX9 (by decide) wf_X9_48 rfl d_X9_isSemicolon_1 ?_
  refine z_iconst (v := (3 : Int32)) C d_X9_isSemicolon_4 (by decide) ?_
  refine z_icmp_eq C d_X9_isSemicolon_5 (fun q1 => ?_) (fun q1 => ?_)
  · have h := o_t q1 h
    exact z_sub [] rfl (k_X9_isSemicolon_20 C hlk hr h)
  · have h := o_f q1 h
    refine z_aload_n 0 C d_X9_isSemicolon_8 rfl rfl ?_
    refine z_iconst (v := (2 : Int32)) C d_X9_isSemicolon_9 (by decide) ?_
    refine z_aload_n 0 C d_X9_isSemicolon_10 rfl rfl ?_
    refine z_get (k := 6) (v := .int (M.1 1 6)) C ((E_9 kx_1 G) _ _) (kU_in kx_1 (by decide)) rfl inX9 (by decide) wf_X9_127 rfl d_X9_isSemicolon_11 ?_
    obtain ⟨p3, e2, h⟩ := o_bd h
    refine z_V (S := []) (As := [.int (2 : Int32), .int (M.1 1 6)]) C (c_X9_refuse l G e2) ((E_9 kx_1 G) _ _) (kU_in kx_1 (by decide)) rfl wc_X9_refuse wm_X9_60 ws_X9_refuse wl_X9_refuse wi_X9 hy_X9_refuse ⟨Nat.le_of_ble_eq_true rfl, Nat.le_of_ble_eq_true rfl⟩ rfl rfl (Nat.le_of_ble_eq_true rfl) d_X9_isSemicolon_14 ?_
    refine z_if_eq C d_X9_isSemicolon_17 (fun q4 => ?_) (fun q4 => ?_)
    · have h := o_t q4 h
      refine z_iconst (v := (0 : Int32)) C d_X9_isSemicolon_24 (by decide) ?_
      exact z_sub [] rfl (k_X9_isSemicolon_25 C hlk hr h)
    · have h := o_f q4 h
      exact z_sub [] rfl (k_X9_isSemicolon_20 C hlk hr h)
theorem c_X9_isSemicolon (l : Launch) (G : GG) {M : Mm} {r : Int32} {M2 : Mm} (h : f_X9_isSemicolon M = some (r, M2)) : CT l 0 G y_X9_isSemicolon prog_11_method_23_code 1 (some .boolean) 1 22 [.ref (gB G + 1)] M (some (.int r)) M2 :=
  CT.of (by decide +kernel) (Nat.le_of_ble_eq_true rfl) rfl (fun p e s m args below meth c C hlk hr => k_X9_isSemicolon_0 C hlk hr h)
-- SnowSentries$Text.readSemicolon()Z
set_option maxRecDepth 4000 in
theorem k_X9_readSemicolon_19 {p : Program} {l : Launch} {e : Env} {s : State} {m : MethodId} {args : Array Value} {below : List Frame} {meth : Method} {c : Code} {G : GG} {M : Mm} {s_0 : Int32} {r : Int32} {M2 : Mm} (C : CX p s m args c prog_11_method_20_code 1 "SnowSentries$Text" 0 G) (hlk : meth.locks = false) (hr : meth.sig.returnType = (some .boolean)) : f_X9_readSemicolon_19 M s_0 = some (r, M2) → Z p l e { frames := 2, cells := 0, slots := 0, locals := 46 } s m args below meth c 0 G 1 (MQ below (QC 0 G (some (.int r)) M2) args s 0 0 (AU 0 G)) 19 [] [.int s_0] M := by
  intro h
  unfold f_X9_readSemicolon_19 at h
  obtain ⟨q1, h⟩ := o_ck h
  obtain ⟨rfl, rfl⟩ := o_pair h
  exact z_zret C hlk hr (isB_nar q1) d_X9_readSemicolon_19
set_option maxRecDepth 4000 in
theorem k_X9_readSemicolon_18 {p : Program} {l : Launch} {e : Env} {s : State} {m : MethodId} {args : Array Value} {below : List Frame} {meth : Method} {c : Code} {G : GG} {M : Mm} {r : Int32} {M2 : Mm} (C : CX p s m args c prog_11_method_20_code 1 "SnowSentries$Text" 0 G) (hlk : meth.locks = false) (hr : meth.sig.returnType = (some .boolean)) : f_X9_readSemicolon_18 M = some (r, M2) → Z p l e { frames := 2, cells := 0, slots := 0, locals := 46 } s m args below meth c 0 G 1 (MQ below (QC 0 G (some (.int r)) M2) args s 0 0 (AU 0 G)) 18 [] [] M := by
  intro h
  unfold f_X9_readSemicolon_18 at h
  refine z_iconst (v := (0 : Int32)) C d_X9_readSemicolon_18 (by decide) ?_
  exact z_sub [] rfl (k_X9_readSemicolon_19 C hlk hr h)
set_option maxRecDepth 4000 in
theorem k_X9_readSemicolon_0 {p : Program} {l : Launch} {e : Env} {s : State} {m : MethodId} {args : Array Value} {below : List Frame} {meth : Method} {c : Code} {G : GG} {M : Mm} {r : Int32} {M2 : Mm} (C : CX p s m args c prog_11_method_20_code 1 "SnowSentries$Text" 0 G) (hlk : meth.locks = false) (hr : meth.sig.returnType = (some .boolean)) : f_X9_readSemicolon M = some (r, M2) → Z p l e { frames := 2, cells := 0, slots := 0, locals := 46 } s m args below meth c 0 G 1 (MQ below (QC 0 G (some (.int r)) M2) args s 0 0 (AU 0 G)) 0 [(0, .ref (gB G + 1))] [] M := by
  intro h
  unfold f_X9_readSemicolon at h
  refine z_aload_n 0 C d_X9_readSemicolon_0 rfl rfl ?_
  obtain ⟨p2, e1, h⟩ := o_bd h
  refine z_V (S := []) (As := []) C (c_X9_readToken l G e1) ((E_9 kx_1 G) _ _) (kU_in kx_1 (by decide)) rfl wc_X9_readToken wm_X9_44 ws_X9_readToken wl_X9_readToken wi_X9 hy_X9_readToken ⟨Nat.le_of_ble_eq_true rfl, Nat.le_of_ble_eq_true rfl⟩ rfl rfl (Nat.le_of_ble_eq_true rfl) d_X9_readSemicolon_1 ?_
  refine z_if_eq C d_X9_readSemicolon_4 (fun q3 => ?_) (fun q3 => ?_)
  · have h := o_t q3 h
    exact z_sub [] rfl (k_X9_readSemicolon_18 C hlk hr h)
  · have h := o_f q3 h
    refine z_aload_n 0 C d_X9_readSemicolon_7 rfl rfl ?_
    obtain ⟨p5, e4, h⟩ := o_bd h
    refine z_V (S := []) (As := []) C (c_X9_isSemicolon l G e4) ((E_9 kx_1 G) _ _) (kU_in kx_1 (by decide)) rfl wc_X9_isSemicolon wm_X9_146 ws_X9_isSemicolon wl_X9_isSemicolon wi_X9 hy_X9_isSemicolon ⟨Nat.le_of_ble_eq_true rfl, Nat.le_of_ble_eq_true rfl⟩ rfl rfl (Nat.le_of_ble_eq_true rfl) d_X9_readSemicolon_8 ?_
    refine z_if_eq C d_X9_readSemicolon_11 (fun q6 => ?_) (fun q6 => ?_)
    · have h := o_t q6 h
      exact z_sub [] rfl (k_X9_readSemicolon_18 C hlk hr h)
    · have h := o_f q6 h
      refine z_iconst (v := (1 : Int32)) C d_X9_readSemicolon_14 (by decide) ?_
      refine z_goto C d_X9_readSemicolon_15 ?_
      exact z_sub [] rfl (k_X9_readSemicolon_19 C hlk hr h)
theorem c_X9_readSemicolon (l : Launch) (G : GG) {M : Mm} {r : Int32} {M2 : Mm} (h : f_X9_readSemicolon M = some (r, M2)) : CT l 0 G y_X9_readSemicolon prog_11_method_20_code 1 (some .boolean) 2 46 [.ref (gB G + 1)] M (some (.int r)) M2 :=
  CT.of (by decide +kernel) (Nat.le_of_ble_eq_true rfl) rfl (fun p e s m args below meth c C hlk hr => k_X9_readSemicolon_0 C hlk hr h)
-- SnowSentries$Text.readFurlongs(LSnowSentries$Land;)Z
set_option maxRecDepth 4000 in
theorem k_X9_readFurlongs_18 {p : Program} {l : Launch} {e : Env} {s : State} {m : MethodId} {args : Array Value} {below : List Frame} {meth : Method} {c : Code} {G : GG} {M : Mm} {r : Int32} {M2 : Mm} (C : CX p s m args c prog_11_method_7_code 2 "SnowSentries$Text" 0 G) (hlk : meth.locks = false) (hr : meth.sig.returnType = (some .boolean)) : f_X9_readFurlongs_18 M = some (r, M2) → Z p l e { frames := 3, cells := 0, slots := 0, locals := 68 } s m args below meth c 0 G 2 (MQ below (QC 0 G (some (.int r)) M2) args s 0 0 (AU 0 G)) 18 [] [] M := by
  intro h
  unfold f_X9_readFurlongs_18 at h
  refine z_iconst (v := (0 : Int32)) C d_X9_readFurlongs_18 (by decide) ?_
  obtain ⟨rfl, rfl⟩ := o_pair h
  exact z_zret C hlk hr (by decide) d_X9_readFurlongs_19
set_option maxRecDepth 4000 in
theorem k_X9_readFurlongs_0 {p : Program} {l : Launch} {e : Env} {s : State} {m : MethodId} {args : Array Value} {below : List Frame} {meth : Method} {c : Code} {G : GG} {M : Mm} {a1 : Nat} {r : Int32} {M2 : Mm} (C : CX p s m args c prog_11_method_7_code 2 "SnowSentries$Text" 0 G) (hlk : meth.locks = false) (hr : meth.sig.returnType = (some .boolean)) (ha1 : kU 0 a1 = 4) : f_X9_readFurlongs M a1 = some (r, M2) → Z p l e { frames := 3, cells := 0, slots := 0, locals := 68 } s m args below meth c 0 G 2 (MQ below (QC 0 G (some (.int r)) M2) args s 0 0 (AU 0 G)) 0 [(0, .ref (gB G + 1)), (1, .ref (gB G + a1))] [] M := by
  intro h
  unfold f_X9_readFurlongs at h
  refine z_aload_n 0 C d_X9_readFurlongs_0 rfl rfl ?_
  refine z_iconst (v := (1 : Int32)) C d_X9_readFurlongs_1 (by decide) ?_
  obtain ⟨p2, e1, h⟩ := o_bd h
  refine z_V (S := []) (As := [.int (1 : Int32)]) C (c_X9_isFirst l G e1) ((E_9 kx_1 G) _ _) (kU_in kx_1 (by decide)) rfl wc_X9_isFirst wm_X9_130 ws_X9_isFirst wl_X9_isFirst wi_X9 hy_X9_isFirst ⟨Nat.le_of_ble_eq_true rfl, Nat.le_of_ble_eq_true rfl⟩ rfl rfl (Nat.le_of_ble_eq_true rfl) d_X9_readFurlongs_2 ?_
  refine z_if_eq C d_X9_readFurlongs_5 (fun q3 => ?_) (fun q3 => ?_)
  · have h := o_t q3 h
    exact z_sub [] rfl (k_X9_readFurlongs_18 C hlk hr h)
  · have h := o_f q3 h
    refine z_aload_n 0 C d_X9_readFurlongs_8 rfl rfl ?_
    refine z_iconst (v := (1 : Int32)) C d_X9_readFurlongs_9 (by decide) ?_
    refine z_bipush (v := (10 : Int32)) C d_X9_readFurlongs_10 (by decide) ?_
    obtain ⟨p5, e4, h⟩ := o_bd h
    refine z_V (S := []) (As := [.int (1 : Int32), .int (10 : Int32)]) C (c_X9_readNumber l G e4) ((E_9 kx_1 G) _ _) (kU_in kx_1 (by decide)) rfl wc_X9_readNumber wm_X9_134 ws_X9_readNumber wl_X9_readNumber wi_X9 hy_X9_readNumber ⟨Nat.le_of_ble_eq_true rfl, Nat.le_of_ble_eq_true rfl⟩ rfl rfl (Nat.le_of_ble_eq_true rfl) d_X9_readFurlongs_12 ?_
    refine z_if_ne C d_X9_readFurlongs_15 (fun q6 => ?_) (fun q6 => ?_)
    · have h := o_f q6 h
      refine z_aload_n 1 C d_X9_readFurlongs_20 rfl rfl ?_
      refine z_aload_n 0 C d_X9_readFurlongs_21 rfl rfl ?_
      refine z_get (k := 8) (v := .int (p5.2.1 1 8)) C ((E_9 kx_1 G) _ _) (kU_in kx_1 (by decide)) rfl inX9 (by decide) wf_X9_137 rfl d_X9_readFurlongs_22 ?_
      obtain ⟨M7, e8, h⟩ := o_wr h
      refine z_pI (k := 0) (ty := .int) C (fun r q => (E_4 ha1 G) r q) (fun _ _ => rfl) (kU_in ha1 (by decide)) rfl inX4 tyX4 tyX4_ok nmX4 (by decide) wf_X9_55 rfl (by decide +kernel) rfl rfl (Nat.le_of_ble_eq_true rfl) d_X9_readFurlongs_25 ?_
      refine z_nM e8 ?_
      refine z_aload_n 0 C d_X9_readFurlongs_28 rfl rfl ?_
      obtain ⟨p10, e9, h⟩ := o_bd h
      refine z_V (S := []) (As := []) C (c_X9_readSemicolon l G e9) ((E_9 kx_1 G) _ _) (kU_in kx_1 (by decide)) rfl wc_X9_readSemicolon wm_X9_140 ws_X9_readSemicolon wl_X9_readSemicolon wi_X9 hy_X9_readSemicolon ⟨Nat.le_of_ble_eq_true rfl, Nat.le_of_ble_eq_true rfl⟩ rfl rfl (Nat.le_of_ble_eq_true rfl) d_X9_readFurlongs_29 ?_
      obtain ⟨q11, h⟩ := o_ck h
      obtain ⟨rfl, rfl⟩ := o_pair h
      exact z_zret C hlk hr (isB_nar q11) d_X9_readFurlongs_32
    · have h := o_t q6 h
      exact z_sub [] rfl (k_X9_readFurlongs_18 C hlk hr h)
theorem c_X9_readFurlongs (l : Launch) (G : GG) {M : Mm} {a1 : Nat} {r : Int32} {M2 : Mm} (ha1 : kU 0 a1 = 4) (h : f_X9_readFurlongs M a1 = some (r, M2)) : CT l 0 G y_X9_readFurlongs prog_11_method_7_code 2 (some .boolean) 3 68 [.ref (gB G + 1), .ref (gB G + a1)] M (some (.int r)) M2 :=
  CT.of (by decide +kernel) (Nat.le_of_ble_eq_true rfl) rfl (fun p e s m args below meth c C hlk hr => k_X9_readFurlongs_0 C hlk hr ha1 h)
-- SnowSentries$Text.readHours(I[II)Z
set_option maxRecDepth 4000 in
theorem k_X9_readHours_17 {p : Program} {l : Launch} {e : Env} {s : State} {m : MethodId} {args : Array Value} {below : List Frame} {meth : Method} {c : Code} {G : GG} {M : Mm} {r : Int32} {M2 : Mm} (C : CX p s m args c prog_11_method_8_code 5 "SnowSentries$Text" 0 G) (hlk : meth.locks = false) (hr : meth.sig.returnType = (some .boolean)) : f_X9_readHours_17 M = some (r, M2) → Z p l e { frames := 3, cells := 0, slots := 0, locals := 68 } s m args below meth c 0 G 5 (MQ below (QC 0 G (some (.int r)) M2) args s 0 0 (AU 0 G)) 17 [] [] M := by
  intro h
  unfold f_X9_readHours_17 at h
  refine z_iconst (v := (0 : Int32)) C d_X9_readHours_17 (by decide) ?_
  obtain ⟨rfl, rfl⟩ := o_pair h
  exact z_zret C hlk hr (by decide) d_X9_readHours_18
set_option maxRecDepth 4000 in
theorem k_X9_readHours_113 {p : Program} {l : Launch} {e : Env} {s : State} {m : MethodId} {args : Array Value} {below : List Frame} {meth : Method} {c : Code} {G : GG} {M : Mm} {s_0 : Int32} {r : Int32} {M2 : Mm} (C : CX p s m args c prog_11_method_8_code 5 "SnowSentries$Text" 0 G) (hlk : meth.locks = false) (hr : meth.sig.returnType = (some .boolean)) : f_X9_readHours_113 M s_0 = some (r, M2) → Z p l e { frames := 3, cells := 0, slots := 0, locals := 68 } s m args below meth c 0 G 5 (MQ below (QC 0 G (some (.int r)) M2) args s 0 0 (AU 0 G)) 113 [] [.int s_0] M := by
  intro h
  unfold f_X9_readHours_113 at h
  obtain ⟨q1, h⟩ := o_ck h
  obtain ⟨rfl, rfl⟩ := o_pair h
  exact z_zret C hlk hr (isB_nar q1) d_X9_readHours_113
set_option maxRecDepth 4000 in
theorem k_X9_readHours_80 {p : Program} {l : Launch} {e : Env} {s : State} {m : MethodId} {args : Array Value} {below : List Frame} {meth : Method} {c : Code} {G : GG} {M : Mm} {r : Int32} {M2 : Mm} (C : CX p s m args c prog_11_method_8_code 5 "SnowSentries$Text" 0 G) (hlk : meth.locks = false) (hr : meth.sig.returnType = (some .boolean)) : f_X9_readHours_80 M = some (r, M2) → Z p l e { frames := 3, cells := 0, slots := 0, locals := 68 } s m args below meth c 0 G 5 (MQ below (QC 0 G (some (.int r)) M2) args s 0 0 (AU 0 G)) 80 [(0, .ref (gB G + 1))] [] M := by
  intro h
  unfold f_X9_readHours_80 at h
  refine z_aload_n 0 C d_X9_readHours_80 rfl rfl ?_
  obtain ⟨p2, e1, h⟩ := o_bd h
  refine z_V (S := []) (As := []) C (c_X9_readToken l G e1) ((E_9 kx_1 G) _ _) (kU_in kx_1 (by decide)) rfl wc_X9_readToken wm_X9_44 ws_X9_readToken wl_X9_readToken wi_X9 hy_X9_readToken ⟨Nat.le_of_ble_eq_true rfl, Nat.le_of_ble_eq_true rfl⟩ rfl rfl (Nat.le_of_ble_eq_true rfl) d_X9_readHours_81 ?_
  refine z_if_ne C d_X9_readHours_84 (fun q3 => ?_) (fun q3 => ?_)
  · have h := o_f q3 h
    refine z_aload_n 0 C d_X9_readHours_89 rfl rfl ?_
    refine z_get (k := 5) (v := .int (p2.2.1 1 5)) C ((E_9 kx_1 G) _ _) (kU_in kx_1 (by decide)) rfl inX9 (by decide) wf_X9_48 rfl d_X9_readHours_90 ?_
    refine z_iconst (v := (2 : Int32)) C d_X9_readHours_93 (by decide) ?_
    refine z_icmp_ne C d_X9_readHours_94 (fun q4 => ?_) (fun q4 => ?_)
    · have h := o_f q4 h
      refine z_aload_n 0 C d_X9_readHours_109 rfl rfl ?_
      obtain ⟨p6, e5, h⟩ := o_bd h
      refine z_V (S := []) (As := []) C (c_X9_isSemicolon l G e5) ((E_9 kx_1 G) _ _) (kU_in kx_1 (by decide)) rfl wc_X9_isSemicolon wm_X9_146 ws_X9_isSemicolon wl_X9_isSemicolon wi_X9 hy_X9_isSemicolon ⟨Nat.le_of_ble_eq_true rfl, Nat.le_of_ble_eq_true rfl⟩ rfl rfl (Nat.le_of_ble_eq_true rfl) d_X9_readHours_110 ?_
      exact z_sub [] rfl (k_X9_readHours_113 C hlk hr h)
    · have h := o_t q4 h
      refine z_aload_n 0 C d_X9_readHours_97 rfl rfl ?_
      refine z_iconst (v := (5 : Int32)) C d_X9_readHours_98 (by decide) ?_
      refine z_aload_n 0 C d_X9_readHours_99 rfl rfl ?_
      refine z_get (k := 6) (v := .int (p2.2.1 1 6)) C ((E_9 kx_1 G) _ _) (kU_in kx_1 (by decide)) rfl inX9 (by decide) wf_X9_127 rfl d_X9_readHours_100 ?_
      obtain ⟨p8, e7, h⟩ := o_bd h
      refine z_V (S := []) (As := [.int (5 : Int32), .int (p2.2.1 1 6)]) C (c_X9_refuse l G e7) ((E_9 kx_1 G) _ _) (kU_in kx_1 (by decide)) rfl wc_X9_refuse wm_X9_60 ws_X9_refuse wl_X9_refuse wi_X9 hy_X9_refuse ⟨Nat.le_of_ble_eq_true rfl, Nat.le_of_ble_eq_true rfl⟩ rfl rfl (Nat.le_of_ble_eq_true rfl) d_X9_readHours_103 ?_
      refine z_goto C d_X9_readHours_106 ?_
      exact z_sub [] rfl (k_X9_readHours_113 C hlk hr h)
  · have h := o_t q3 h
    refine z_iconst (v := (0 : Int32)) C d_X9_readHours_87 (by decide) ?_
    obtain ⟨rfl, rfl⟩ := o_pair h
    exact z_zret C hlk hr (by decide) d_X9_readHours_88
set_option maxRecDepth 4000 in
theorem kb_X9_readHours_29 {p : Program} {l : Launch} {e : Env} {s : State} {m : MethodId} {args : Array Value} {below : List Frame} {meth : Method} {c : Code} {G : GG} {k29 : Mm → Int32 → Option (Int32 × Mm)} {a2 : Nat} {x3 : Int32} {M : Mm} {x4 : Int32} {r : Int32} {M2 : Mm} (C : CX p s m args c prog_11_method_8_code 5 "SnowSentries$Text" 0 G) (hlk : meth.locks = false) (hr : meth.sig.returnType = (some .boolean)) (ha2 : kU 0 a2 = 22) (hk29 : ∀ (M : Mm) (x4 : Int32), k29 M x4 = some (r, M2) → Z p l e { frames := 3, cells := 0, slots := 0, locals := 68 } s m args below meth c 0 G 5 (MQ below (QC 0 G (some (.int r)) M2) args s 0 0 (AU 0 G)) 29 [(0, .ref (gB G + 1)), (2, .ref (gB G + a2)), (3, .int x3), (4, .int x4)] [] M) : b_X9_readHours_29 k29 a2 x3 M x4 = some (r, M2) → Z p l e { frames := 3, cells := 0, slots := 0, locals := 68 } s m args below meth c 0 G 5 (MQ below (QC 0 G (some (.int r)) M2) args s 0 0 (AU 0 G)) 29 [(0, .ref (gB G + 1)), (2, .ref (gB G + a2)), (3, .int x3), (4, .int x4)] [] M := by
  intro h
  unfold b_X9_readHours_29 at h
  refine z_iload 3 C d_X9_readHours_29 rfl ?_
  refine z_bipush (v := (12 : Int32)) C d_X9_readHours_31 (by decide) ?_
  refine z_icmp_ge C d_X9_readHours_33 (fun q1 => ?_) (fun q1 => ?_)
  · have h := o_t q1 h
    exact z_sub [0] rfl (k_X9_readHours_80 C hlk hr h)
  · have h := o_f q1 h
    refine z_aload_n 0 C d_X9_readHours_36 rfl rfl ?_
    obtain ⟨p3, e2, h⟩ := o_bd h
    refine z_V (S := []) (As := []) C (c_X9_readToken l G e2) ((E_9 kx_1 G) _ _) (kU_in kx_1 (by decide)) rfl wc_X9_readToken wm_X9_44 ws_X9_readToken wl_X9_readToken wi_X9 hy_X9_readToken ⟨Nat.le_of_ble_eq_true rfl, Nat.le_of_ble_eq_true rfl⟩ rfl rfl (Nat.le_of_ble_eq_true rfl) d_X9_readHours_37 ?_
    refine z_if_ne C d_X9_readHours_40 (fun q4 => ?_) (fun q4 => ?_)
    · have h := o_f q4 h
      refine z_aload_n 0 C d_X9_readHours_45 rfl rfl ?_
      refine z_get (k := 5) (v := .int (p3.2.1 1 5)) C ((E_9 kx_1 G) _ _) (kU_in kx_1 (by decide)) rfl inX9 (by decide) wf_X9_48 rfl d_X9_readHours_46 ?_
      refine z_iconst (v := (3 : Int32)) C d_X9_readHours_49 (by decide) ?_
      refine z_icmp_ne C d_X9_readHours_50 (fun q5 => ?_) (fun q5 => ?_)
      · have h := o_f q5 h
        refine z_aload_n 0 C d_X9_readHours_55 rfl rfl ?_
        refine z_iconst (v := (0 : Int32)) C d_X9_readHours_56 (by decide) ?_
        refine z_iload_n 2 C d_X9_readHours_57 rfl rfl ?_
        obtain ⟨p7, e6, h⟩ := o_bd h
        refine z_V (S := []) (As := [.int (0 : Int32), .int x3]) C (c_X9_isNumber l G e6) ((E_9 kx_1 G) _ _) (kU_in kx_1 (by decide)) rfl wc_X9_isNumber wm_X9_143 ws_X9_isNumber wl_X9_isNumber wi_X9 hy_X9_isNumber ⟨Nat.le_of_ble_eq_true rfl, Nat.le_of_ble_eq_true rfl⟩ rfl rfl (Nat.le_of_ble_eq_true rfl) d_X9_readHours_58 ?_
        refine z_if_ne C d_X9_readHours_61 (fun q8 => ?_) (fun q8 => ?_)
        · have h := o_f q8 h
          refine z_aload_n 1 C d_X9_readHours_66 rfl rfl ?_
          refine z_iload 3 C d_X9_readHours_67 rfl ?_
          refine z_aload_n 0 C d_X9_readHours_69 rfl rfl ?_
          refine z_get (k := 8) (v := .int (p7.2.1 1 8)) C ((E_9 kx_1 G) _ _) (kU_in kx_1 (by decide)) rfl inX9 (by decide) wf_X9_137 rfl d_X9_readHours_70 ?_
          obtain ⟨q11, h⟩ := o_ck h
          obtain ⟨M9, e10, h⟩ := o_wr h
          refine z_ast (fun r q => (E_22 ha2 G) r q) C (kU_in ha2 (by decide)) q11 d_X9_readHours_73 ?_
          refine z_nM e10 ?_
          refine z_iinc (v := (1 : Int32)) (L' := [(4, .int (x4 + (1 : Int32))), (0, .ref (gB G + 1)), (2, .ref (gB G + a2)), (3, .int x3)]) 3 C d_X9_readHours_74 rfl (by decide) (by decide) rfl ?_
          refine z_goto C d_X9_readHours_77 ?_
          exact z_sub [1, 2, 3, 0] rfl (hk29 _ _  h)
        · have h := o_t q8 h
          refine z_iconst (v := (0 : Int32)) C d_X9_readHours_64 (by decide) ?_
          obtain ⟨rfl, rfl⟩ := o_pair h
          exact z_zret C hlk hr (by decide) d_X9_readHours_65
      · have h := o_t q5 h
        refine z_iconst (v := (1 : Int32)) C d_X9_readHours_53 (by decide) ?_
        obtain ⟨rfl, rfl⟩ := o_pair h
        exact z_zret C hlk hr (by decide) d_X9_readHours_54
    · have h := o_t q4 h
      refine z_iconst (v := (0 : Int32)) C d_X9_readHours_43 (by decide) ?_
      obtain ⟨rfl, rfl⟩ := o_pair h
      exact z_zret C hlk hr (by decide) d_X9_readHours_44
theorem k_X9_readHours_29 {p : Program} {l : Launch} {e : Env} {s : State} {m : MethodId} {args : Array Value} {below : List Frame} {meth : Method} {c : Code} {G : GG} {a2 : Nat} {x3 : Int32} {r : Int32} {M2 : Mm} (C : CX p s m args c prog_11_method_8_code 5 "SnowSentries$Text" 0 G) (hlk : meth.locks = false) (hr : meth.sig.returnType = (some .boolean)) (ha2 : kU 0 a2 = 22) : ∀ (n : Nat) (M : Mm) (x4 : Int32), f_X9_readHours_29 a2 x3 n M x4 = some (r, M2) → Z p l e { frames := 3, cells := 0, slots := 0, locals := 68 } s m args below meth c 0 G 5 (MQ below (QC 0 G (some (.int r)) M2) args s 0 0 (AU 0 G)) 29 [(0, .ref (gB G + 1)), (2, .ref (gB G + a2)), (3, .int x3), (4, .int x4)] [] M := by
  intro n
  induction n with
  | zero =>
    intro M x4  h
    exact absurd h (fun z => by cases z)
  | succ n ih =>
    intro M x4  h
    exact kb_X9_readHours_29 C hlk hr ha2 (fun M x4 h => ih M x4 h) h
set_option maxRecDepth 4000 in
theorem k_X9_readHours_0 {p : Program} {l : Launch} {e : Env} {s : State} {m : MethodId} {args : Array Value} {below : List Frame} {meth : Method} {c : Code} {G : GG} {M : Mm} {x1 : Int32} {a2 : Nat} {x3 : Int32} {r : Int32} {M2 : Mm} (C : CX p s m args c prog_11_method_8_code 5 "SnowSentries$Text" 0 G) (hlk : meth.locks = false) (hr : meth.sig.returnType = (some .boolean)) (ha2 : kU 0 a2 = 22) : f_X9_readHours M x1 a2 x3 = some (r, M2) → Z p l e { frames := 3, cells := 0, slots := 0, locals := 68 } s m args below meth c 0 G 5 (MQ below (QC 0 G (some (.int r)) M2) args s 0 0 (AU 0 G)) 0 [(0, .ref (gB G + 1)), (1, .int x1), (2, .ref (gB G + a2)), (3, .int x3)] [] M := by
  intro h
  unfold f_X9_readHours at h
  refine z_aload_n 0 C d_X9_readHours_0 rfl rfl ?_
  refine z_iload_n 1 C d_X9_readHours_1 rfl rfl ?_
  obtain ⟨p2, e1, h⟩ := o_bd h
  refine z_V (S := []) (As := [.int x1]) C (c_X9_isFirst l G e1) ((E_9 kx_1 G) _ _) (kU_in kx_1 (by decide)) rfl wc_X9_isFirst wm_X9_130 ws_X9_isFirst wl_X9_isFirst wi_X9 hy_X9_isFirst ⟨Nat.le_of_ble_eq_true rfl, Nat.le_of_ble_eq_true rfl⟩ rfl rfl (Nat.le_of_ble_eq_true rfl) d_X9_readHours_2 ?_
  refine z_if_eq C d_X9_readHours_5 (fun q3 => ?_) (fun q3 => ?_)
  · have h := o_t q3 h
    exact z_sub [] rfl (k_X9_readHours_17 C hlk hr h)
  · have h := o_f q3 h
    refine z_aload_n 0 C d_X9_readHours_8 rfl rfl ?_
    refine z_iconst (v := (0 : Int32)) C d_X9_readHours_9 (by decide) ?_
    refine z_iload_n 3 C d_X9_readHours_10 rfl rfl ?_
    obtain ⟨p5, e4, h⟩ := o_bd h
    refine z_V (S := []) (As := [.int (0 : Int32), .int x3]) C (c_X9_readNumber l G e4) ((E_9 kx_1 G) _ _) (kU_in kx_1 (by decide)) rfl wc_X9_readNumber wm_X9_134 ws_X9_readNumber wl_X9_readNumber wi_X9 hy_X9_readNumber ⟨Nat.le_of_ble_eq_true rfl, Nat.le_of_ble_eq_true rfl⟩ rfl rfl (Nat.le_of_ble_eq_true rfl) d_X9_readHours_11 ?_
    refine z_if_ne C d_X9_readHours_14 (fun q6 => ?_) (fun q6 => ?_)
    · have h := o_f q6 h
      refine z_aload_n 2 C d_X9_readHours_19 rfl rfl ?_
      refine z_iconst (v := (0 : Int32)) C d_X9_readHours_20 (by decide) ?_
      refine z_aload_n 0 C d_X9_readHours_21 rfl rfl ?_
      refine z_get (k := 8) (v := .int (p5.2.1 1 8)) C ((E_9 kx_1 G) _ _) (kU_in kx_1 (by decide)) rfl inX9 (by decide) wf_X9_137 rfl d_X9_readHours_22 ?_
      obtain ⟨M7, e8, h⟩ := o_wr h
      refine z_ast (fun r q => (E_22 ha2 G) r q) C (kU_in ha2 (by decide)) (show inn (0 : Int32) 12 from by decide) d_X9_readHours_25 ?_
      refine z_nM e8 ?_
      refine z_iconst (v := (1 : Int32)) C d_X9_readHours_26 (by decide) ?_
      refine z_istore (L' := [(4, .int (1 : Int32)), (0, .ref (gB G + 1)), (1, .int x1), (2, .ref (gB G + a2)), (3, .int x3)]) C d_X9_readHours_27 (by decide) rfl ?_
      exact z_sub [1, 3, 4, 0] rfl (k_X9_readHours_29 C hlk hr ha2 _ _ _ h)
    · have h := o_t q6 h
      exact z_sub [] rfl (k_X9_readHours_17 C hlk hr h)
theorem c_X9_readHours (l : Launch) (G : GG) {M : Mm} {x1 : Int32} {a2 : Nat} {x3 : Int32} {r : Int32} {M2 : Mm} (ha2 : kU 0 a2 = 22) (h : f_X9_readHours M x1 a2 x3 = some (r, M2)) : CT l 0 G y_X9_readHours prog_11_method_8_code 5 (some .boolean) 3 68 [.ref (gB G + 1), .int x1, .ref (gB G + a2), .int x3] M (some (.int r)) M2 :=
  CT.of (by decide +kernel) (Nat.le_of_ble_eq_true rfl) rfl (fun p e s m args below meth c C hlk hr => k_X9_readHours_0 C hlk hr ha2 h)
-- SnowSentries$Text.readTreaty(LSnowSentries$Law;)Z
set_option maxRecDepth 4000 in
theorem k_X9_readTreaty_19 {p : Program} {l : Launch} {e : Env} {s : State} {m : MethodId} {args : Array Value} {below : List Frame} {meth : Method} {c : Code} {G : GG} {M : Mm} {r : Int32} {M2 : Mm} (C : CX p s m args c prog_11_method_9_code 2 "SnowSentries$Text" 0 G) (hlk : meth.locks = false) (hr : meth.sig.returnType = (some .boolean)) : f_X9_readTreaty_19 M = some (r, M2) → Z p l e { frames := 3, cells := 0, slots := 0, locals := 68 } s m args below meth c 0 G 2 (MQ below (QC 0 G (some (.int r)) M2) args s 0 0 (AU 0 G)) 19 [] [] M := by
  intro h
  unfold f_X9_readTreaty_19 at h
  refine z_iconst (v := (0 : Int32)) C d_X9_readTreaty_19 (by decide) ?_
  obtain ⟨rfl, rfl⟩ := o_pair h
  exact z_zret C hlk hr (by decide) d_X9_readTreaty_20
set_option maxRecDepth 4000 in
theorem k_X9_readTreaty_0 {p : Program} {l : Launch} {e : Env} {s : State} {m : MethodId} {args : Array Value} {below : List Frame} {meth : Method} {c : Code} {G : GG} {M : Mm} {a1 : Nat} {r : Int32} {M2 : Mm} (C : CX p s m args c prog_11_method_9_code 2 "SnowSentries$Text" 0 G) (hlk : meth.locks = false) (hr : meth.sig.returnType = (some .boolean)) (ha1 : kU 0 a1 = 5) : f_X9_readTreaty M a1 = some (r, M2) → Z p l e { frames := 3, cells := 0, slots := 0, locals := 68 } s m args below meth c 0 G 2 (MQ below (QC 0 G (some (.int r)) M2) args s 0 0 (AU 0 G)) 0 [(0, .ref (gB G + 1)), (1, .ref (gB G + a1))] [] M := by
  intro h
  unfold f_X9_readTreaty at h
  refine z_aload_n 0 C d_X9_readTreaty_0 rfl rfl ?_
  refine z_bipush (v := (8 : Int32)) C d_X9_readTreaty_1 (by decide) ?_
  obtain ⟨p2, e1, h⟩ := o_bd h
  refine z_V (S := []) (As := [.int (8 : Int32)]) C (c_X9_isFirst l G e1) ((E_9 kx_1 G) _ _) (kU_in kx_1 (by decide)) rfl wc_X9_isFirst wm_X9_130 ws_X9_isFirst wl_X9_isFirst wi_X9 hy_X9_isFirst ⟨Nat.le_of_ble_eq_true rfl, Nat.le_of_ble_eq_true rfl⟩ rfl rfl (Nat.le_of_ble_eq_true rfl) d_X9_readTreaty_3 ?_
  refine z_if_eq C d_X9_readTreaty_6 (fun q3 => ?_) (fun q3 => ?_)
  · have h := o_t q3 h
    exact z_sub [] rfl (k_X9_readTreaty_19 C hlk hr h)
  · have h := o_f q3 h
    refine z_aload_n 0 C d_X9_readTreaty_9 rfl rfl ?_
    refine z_iconst (v := (1 : Int32)) C d_X9_readTreaty_10 (by decide) ?_
    refine z_bipush (v := (99 : Int32)) C d_X9_readTreaty_11 (by decide) ?_
    obtain ⟨p5, e4, h⟩ := o_bd h
    refine z_V (S := []) (As := [.int (1 : Int32), .int (99 : Int32)]) C (c_X9_readNumber l G e4) ((E_9 kx_1 G) _ _) (kU_in kx_1 (by decide)) rfl wc_X9_readNumber wm_X9_134 ws_X9_readNumber wl_X9_readNumber wi_X9 hy_X9_readNumber ⟨Nat.le_of_ble_eq_true rfl, Nat.le_of_ble_eq_true rfl⟩ rfl rfl (Nat.le_of_ble_eq_true rfl) d_X9_readTreaty_13 ?_
    refine z_if_ne C d_X9_readTreaty_16 (fun q6 => ?_) (fun q6 => ?_)
    · have h := o_f q6 h
      refine z_aload_n 1 C d_X9_readTreaty_21 rfl rfl ?_
      refine z_aload_n 0 C d_X9_readTreaty_22 rfl rfl ?_
      refine z_get (k := 8) (v := .int (p5.2.1 1 8)) C ((E_9 kx_1 G) _ _) (kU_in kx_1 (by decide)) rfl inX9 (by decide) wf_X9_137 rfl d_X9_readTreaty_23 ?_
      obtain ⟨M7, e8, h⟩ := o_wr h
      refine z_pI (k := 0) (ty := .int) C (fun r q => (E_5 ha1 G) r q) (fun _ _ => rfl) (kU_in ha1 (by decide)) rfl inX5 tyX5 tyX5_ok nmX5 (by decide) wf_X9_149 rfl (by decide +kernel) rfl rfl (Nat.le_of_ble_eq_true rfl) d_X9_readTreaty_26 ?_
      refine z_nM e8 ?_
      refine z_aload_n 0 C d_X9_readTreaty_29 rfl rfl ?_
      refine z_iconst (v := (0 : Int32)) C d_X9_readTreaty_30 (by decide) ?_
      refine z_iconst (v := (3 : Int32)) C d_X9_readTreaty_31 (by decide) ?_
      obtain ⟨p10, e9, h⟩ := o_bd h
      refine z_V (S := []) (As := [.int (0 : Int32), .int (3 : Int32)]) C (c_X9_readNumber l G e9) ((E_9 kx_1 G) _ _) (kU_in kx_1 (by decide)) rfl wc_X9_readNumber wm_X9_134 ws_X9_readNumber wl_X9_readNumber wi_X9 hy_X9_readNumber ⟨Nat.le_of_ble_eq_true rfl, Nat.le_of_ble_eq_true rfl⟩ rfl rfl (Nat.le_of_ble_eq_true rfl) d_X9_readTreaty_32 ?_
      refine z_if_ne C d_X9_readTreaty_35 (fun q11 => ?_) (fun q11 => ?_)
      · have h := o_f q11 h
        refine z_aload_n 1 C d_X9_readTreaty_40 rfl rfl ?_
        refine z_aload_n 0 C d_X9_readTreaty_41 rfl rfl ?_
        refine z_get (k := 8) (v := .int (p10.2.1 1 8)) C ((E_9 kx_1 G) _ _) (kU_in kx_1 (by decide)) rfl inX9 (by decide) wf_X9_137 rfl d_X9_readTreaty_42 ?_
        obtain ⟨M12, e13, h⟩ := o_wr h
        refine z_pI (k := 1) (ty := .int) C (fun r q => (E_5 ha1 G) r q) (fun _ _ => rfl) (kU_in ha1 (by decide)) rfl inX5 tyX5 tyX5_ok nmX5 (by decide) wf_X9_154 rfl (by decide +kernel) rfl rfl (Nat.le_of_ble_eq_true rfl) d_X9_readTreaty_45 ?_
        refine z_nM e13 ?_
        refine z_aload_n 0 C d_X9_readTreaty_48 rfl rfl ?_
        refine z_iconst (v := (0 : Int32)) C d_X9_readTreaty_49 (by decide) ?_
        refine z_iconst (v := (1 : Int32)) C d_X9_readTreaty_50 (by decide) ?_
        obtain ⟨p15, e14, h⟩ := o_bd h
        refine z_V (S := []) (As := [.int (0 : Int32), .int (1 : Int32)]) C (c_X9_readNumber l G e14) ((E_9 kx_1 G) _ _) (kU_in kx_1 (by decide)) rfl wc_X9_readNumber wm_X9_134 ws_X9_readNumber wl_X9_readNumber wi_X9 hy_X9_readNumber ⟨Nat.le_of_ble_eq_true rfl, Nat.le_of_ble_eq_true rfl⟩ rfl rfl (Nat.le_of_ble_eq_true rfl) d_X9_readTreaty_51 ?_
        refine z_if_ne C d_X9_readTreaty_54 (fun q16 => ?_) (fun q16 => ?_)
        · have h := o_f q16 h
          refine z_aload_n 1 C d_X9_readTreaty_59 rfl rfl ?_
          refine z_aload_n 0 C d_X9_readTreaty_60 rfl rfl ?_
          refine z_get (k := 8) (v := .int (p15.2.1 1 8)) C ((E_9 kx_1 G) _ _) (kU_in kx_1 (by decide)) rfl inX9 (by decide) wf_X9_137 rfl d_X9_readTreaty_61 ?_
          obtain ⟨M17, e18, h⟩ := o_wr h
          refine z_pI (k := 2) (ty := .int) C (fun r q => (E_5 ha1 G) r q) (fun _ _ => rfl) (kU_in ha1 (by decide)) rfl inX5 tyX5 tyX5_ok nmX5 (by decide) wf_X9_157 rfl (by decide +kernel) rfl rfl (Nat.le_of_ble_eq_true rfl) d_X9_readTreaty_64 ?_
          refine z_nM e18 ?_
          refine z_aload_n 0 C d_X9_readTreaty_67 rfl rfl ?_
          obtain ⟨p20, e19, h⟩ := o_bd h
          refine z_V (S := []) (As := []) C (c_X9_readSemicolon l G e19) ((E_9 kx_1 G) _ _) (kU_in kx_1 (by decide)) rfl wc_X9_readSemicolon wm_X9_140 ws_X9_readSemicolon wl_X9_readSemicolon wi_X9 hy_X9_readSemicolon ⟨Nat.le_of_ble_eq_true rfl, Nat.le_of_ble_eq_true rfl⟩ rfl rfl (Nat.le_of_ble_eq_true rfl) d_X9_readTreaty_68 ?_
          obtain ⟨q21, h⟩ := o_ck h
          obtain ⟨rfl, rfl⟩ := o_pair h
          exact z_zret C hlk hr (isB_nar q21) d_X9_readTreaty_71
        · have h := o_t q16 h
          refine z_iconst (v := (0 : Int32)) C d_X9_readTreaty_57 (by decide) ?_
          obtain ⟨rfl, rfl⟩ := o_pair h
          exact z_zret C hlk hr (by decide) d_X9_readTreaty_58
      · have h := o_t q11 h
        refine z_iconst (v := (0 : Int32)) C d_X9_readTreaty_38 (by decide) ?_
        obtain ⟨rfl, rfl⟩ := o_pair h
        exact z_zret C hlk hr (by decide) d_X9_readTreaty_39
    · have h := o_t q6 h
      exact z_sub [] rfl (k_X9_readTreaty_19 C hlk hr h)
theorem c_X9_readTreaty (l : Launch) (G : GG) {M : Mm} {a1 : Nat} {r : Int32} {M2 : Mm} (ha1 : kU 0 a1 = 5) (h : f_X9_readTreaty M a1 = some (r, M2)) : CT l 0 G y_X9_readTreaty prog_11_method_9_code 2 (some .boolean) 3 68 [.ref (gB G + 1), .ref (gB G + a1)] M (some (.int r)) M2 :=
  CT.of (by decide +kernel) (Nat.le_of_ble_eq_true rfl) rfl (fun p e s m args below meth c C hlk hr => k_X9_readTreaty_0 C hlk hr ha1 h)
-- SnowSentries$Text.readFurlong()Z
set_option maxRecDepth 4000 in
theorem k_X9_readFurlong_0 {p : Program} {l : Launch} {e : Env} {s : State} {m : MethodId} {args : Array Value} {below : List Frame} {meth : Method} {c : Code} {G : GG} {M : Mm} {r : Int32} {M2 : Mm} (C : CX p s m args c prog_11_method_17_code 1 "SnowSentries$Text" 0 G) (hlk : meth.locks = false) (hr : meth.sig.returnType = (some .boolean)) : f_X9_readFurlong M = some (r, M2) → Z p l e { frames := 3, cells := 0, slots := 0, locals := 68 } s m args below meth c 0 G 1 (MQ below (QC 0 G (some (.int r)) M2) args s 0 0 (AU 0 G)) 0 [(0, .ref (gB G + 1))] [] M := by
  intro h
  unfold f_X9_readFurlong at h
  refine z_aload_n 0 C d_X9_readFurlong_0 rfl rfl ?_
  refine z_iconst (v := (0 : Int32)) C d_X9_readFurlong_1 (by decide) ?_
  refine z_bipush (v := (9 : Int32)) C d_X9_readFurlong_2 (by decide) ?_
  obtain ⟨p2, e1, h⟩ := o_bd h
  refine z_V (S := []) (As := [.int (0 : Int32), .int (9 : Int32)]) C (c_X9_readNumber l G e1) ((E_9 kx_1 G) _ _) (kU_in kx_1 (by decide)) rfl wc_X9_readNumber wm_X9_134 ws_X9_readNumber wl_X9_readNumber wi_X9 hy_X9_readNumber ⟨Nat.le_of_ble_eq_true rfl, Nat.le_of_ble_eq_true rfl⟩ rfl rfl (Nat.le_of_ble_eq_true rfl) d_X9_readFurlong_4 ?_
  refine z_if_ne C d_X9_readFurlong_7 (fun q3 => ?_) (fun q3 => ?_)
  · have h := o_f q3 h
    refine z_aload_n 0 C d_X9_readFurlong_12 rfl rfl ?_
    refine z_aload_n 0 C d_X9_readFurlong_13 rfl rfl ?_
    refine z_get (k := 11) (v := .int (p2.2.1 1 11)) C ((E_9 kx_1 G) _ _) (kU_in kx_1 (by decide)) rfl inX9 (by decide) wf_X9_41 rfl d_X9_readFurlong_14 ?_
    refine z_aload_n 0 C d_X9_readFurlong_17 rfl rfl ?_
    refine z_get (k := 8) (v := .int (p2.2.1 1 8)) C ((E_9 kx_1 G) _ _) (kU_in kx_1 (by decide)) rfl inX9 (by decide) wf_X9_137 rfl d_X9_readFurlong_18 ?_
    refine z_mmax C wm_X9_227 wMs_max wMi wMc_max (Nat.le_of_ble_eq_true rfl) (Nat.le_of_ble_eq_true rfl) d_X9_readFurlong_21 ?_
    obtain ⟨M4, e5, h⟩ := o_wr h
    refine z_pI (k := 11) (ty := .int) C (fun r q => (E_9 kx_1 G) r q) (fun _ _ => rfl) (kU_in kx_1 (by decide)) rfl inX9 tyX9 tyX9_ok nmX9 (by decide) wf_X9_41 rfl (by decide +kernel) rfl rfl (Nat.le_of_ble_eq_true rfl) d_X9_readFurlong_24 ?_
    refine z_nM e5 ?_
    refine z_iconst (v := (1 : Int32)) C d_X9_readFurlong_27 (by decide) ?_
    obtain ⟨rfl, rfl⟩ := o_pair h
    exact z_zret C hlk hr (by decide) d_X9_readFurlong_28
  · have h := o_t q3 h
    refine z_iconst (v := (0 : Int32)) C d_X9_readFurlong_10 (by decide) ?_
    obtain ⟨rfl, rfl⟩ := o_pair h
    exact z_zret C hlk hr (by decide) d_X9_readFurlong_11
theorem c_X9_readFurlong (l : Launch) (G : GG) {M : Mm} {r : Int32} {M2 : Mm} (h : f_X9_readFurlong M = some (r, M2)) : CT l 0 G y_X9_readFurlong prog_11_method_17_code 1 (some .boolean) 3 68 [.ref (gB G + 1)] M (some (.int r)) M2 :=
  CT.of (by decide +kernel) (Nat.le_of_ble_eq_true rfl) rfl (fun p e s m args below meth c C hlk hr => k_X9_readFurlong_0 C hlk hr h)
-- SnowSentries$Text.readSnow(LSnowSentries$Scene;)Z
set_option maxRecDepth 4000 in
theorem k_X9_readSnow_0 {p : Program} {l : Launch} {e : Env} {s : State} {m : MethodId} {args : Array Value} {below : List Frame} {meth : Method} {c : Code} {G : GG} {M : Mm} {a1 : Nat} {r : Int32} {M2 : Mm} (C : CX p s m args c prog_11_method_10_code 3 "SnowSentries$Text" 0 G) (hlk : meth.locks = false) (hr : meth.sig.returnType = (some .boolean)) (ha1 : kU 0 a1 = 7) : f_X9_readSnow M a1 = some (r, M2) → Z p l e { frames := 4, cells := 0, slots := 0, locals := 88 } s m args below meth c 0 G 3 (MQ below (QC 0 G (some (.int r)) M2) args s 0 0 (AU 0 G)) 0 [(0, .ref (gB G + 1)), (1, .ref (gB G + a1))] [] M := by
  intro h
  unfold f_X9_readSnow at h
  refine z_aload_n 0 C d_X9_readSnow_0 rfl rfl ?_
  obtain ⟨p2, e1, h⟩ := o_bd h
  refine z_V (S := []) (As := []) C (c_X9_readFurlong l G e1) ((E_9 kx_1 G) _ _) (kU_in kx_1 (by decide)) rfl wc_X9_readFurlong wm_X9_160 ws_X9_readFurlong wl_X9_readFurlong wi_X9 hy_X9_readFurlong ⟨Nat.le_of_ble_eq_true rfl, Nat.le_of_ble_eq_true rfl⟩ rfl rfl (Nat.le_of_ble_eq_true rfl) d_X9_readSnow_1 ?_
  refine z_if_ne C d_X9_readSnow_4 (fun q3 => ?_) (fun q3 => ?_)
  · have h := o_f q3 h
    refine z_aload_n 0 C d_X9_readSnow_9 rfl rfl ?_
    refine z_get (k := 8) (v := .int (p2.2.1 1 8)) C ((E_9 kx_1 G) _ _) (kU_in kx_1 (by decide)) rfl inX9 (by decide) wf_X9_137 rfl d_X9_readSnow_10 ?_
    obtain ⟨v4, e5, h⟩ := o_nm h
    refine z_nI e5 ?_
    refine z_istore_n (L' := [(2, .int v4), (0, .ref (gB G + 1)), (1, .ref (gB G + a1))]) C d_X9_readSnow_13 rfl (by decide) rfl ?_
    refine z_aload_n 1 C d_X9_readSnow_14 rfl rfl ?_
    refine z_get (k := 10) (v := .int (p2.2.1 1 10)) C ((E_9 kx_1 G) _ _) (kU_in kx_1 (by decide)) rfl inX9 (by decide) wf_X9_38 rfl d_X9_readSnow_15 ?_
    refine z_iload_n 0 C d_X9_readSnow_18 rfl rfl ?_
    refine z_ishr C d_X9_readSnow_19 ?_
    refine z_iconst (v := (1 : Int32)) C d_X9_readSnow_20 (by decide) ?_
    refine z_iand C d_X9_readSnow_21 ?_
    refine z_if_eq C d_X9_readSnow_22 (fun q6 => ?_) (fun q6 => ?_)
    · have h := o_t q6 h
      refine z_aload_n 1 C d_X9_readSnow_35 rfl rfl ?_
      refine z_dup C d_X9_readSnow_36 rfl ?_
      refine z_get (k := 10) (v := .int (p2.2.1 1 10)) C ((E_9 kx_1 G) _ _) (kU_in kx_1 (by decide)) rfl inX9 (by decide) wf_X9_38 rfl d_X9_readSnow_37 ?_
      refine z_iconst (v := (1 : Int32)) C d_X9_readSnow_40 (by decide) ?_
      refine z_iload_n 0 C d_X9_readSnow_41 rfl rfl ?_
      refine z_ishl C d_X9_readSnow_42 ?_
      refine z_ior C d_X9_readSnow_43 ?_
      obtain ⟨M7, e8, h⟩ := o_wr h
      refine z_pI (k := 10) (ty := .int) C (fun r q => (E_9 kx_1 G) r q) (fun _ _ => rfl) (kU_in kx_1 (by decide)) rfl inX9 tyX9 tyX9_ok nmX9 (by decide) wf_X9_38 rfl (by decide +kernel) rfl rfl (Nat.le_of_ble_eq_true rfl) d_X9_readSnow_44 ?_
      refine z_nM e8 ?_
      refine z_aload_n 1 C d_X9_readSnow_47 rfl rfl ?_
      refine z_iconst (v := (0 : Int32)) C d_X9_readSnow_48 (by decide) ?_
      refine z_sipush (v := (200 : Int32)) C d_X9_readSnow_49 (by decide) ?_
      obtain ⟨p10, e9, h⟩ := o_bd h
      refine z_V (S := []) (As := [.int (0 : Int32), .int (200 : Int32)]) C (c_X9_readNumber l G e9) ((E_9 kx_1 G) _ _) (kU_in kx_1 (by decide)) rfl wc_X9_readNumber wm_X9_134 ws_X9_readNumber wl_X9_readNumber wi_X9 hy_X9_readNumber ⟨Nat.le_of_ble_eq_true rfl, Nat.le_of_ble_eq_true rfl⟩ rfl rfl (Nat.le_of_ble_eq_true rfl) d_X9_readSnow_52 ?_
      refine z_if_ne C d_X9_readSnow_55 (fun q11 => ?_) (fun q11 => ?_)
      · have h := o_f q11 h
        refine z_aload_n 2 C d_X9_readSnow_60 rfl rfl ?_
        refine z_get (k := 2) (v := .ref (gB G + (a1 + 2))) C ((E_7 ha1 G) _ _) (kU_in ha1 (by decide)) rfl inX7 (by decide) wf_X9_163 rfl d_X9_readSnow_61 ?_
        refine z_iload_n 0 C d_X9_readSnow_64 rfl rfl ?_
        refine z_aload_n 1 C d_X9_readSnow_65 rfl rfl ?_
        refine z_get (k := 8) (v := .int (p10.2.1 1 8)) C ((E_9 kx_1 G) _ _) (kU_in kx_1 (by decide)) rfl inX9 (by decide) wf_X9_137 rfl d_X9_readSnow_66 ?_
        obtain ⟨q14, h⟩ := o_ck h
        obtain ⟨M12, e13, h⟩ := o_wr h
        refine z_ast (fun r q => (E_21 (k_7_2 ha1) G) r q) C (kU_in (k_7_2 ha1) (by decide)) q14 d_X9_readSnow_69 ?_
        refine z_nM e13 ?_
        refine z_aload_n 1 C d_X9_readSnow_70 rfl rfl ?_
        obtain ⟨p16, e15, h⟩ := o_bd h
        refine z_V (S := []) (As := []) C (c_X9_readSemicolon l G e15) ((E_9 kx_1 G) _ _) (kU_in kx_1 (by decide)) rfl wc_X9_readSemicolon wm_X9_140 ws_X9_readSemicolon wl_X9_readSemicolon wi_X9 hy_X9_readSemicolon ⟨Nat.le_of_ble_eq_true rfl, Nat.le_of_ble_eq_true rfl⟩ rfl rfl (Nat.le_of_ble_eq_true rfl) d_X9_readSnow_71 ?_
        obtain ⟨q17, h⟩ := o_ck h
        obtain ⟨rfl, rfl⟩ := o_pair h
        exact z_zret C hlk hr (isB_nar q17) d_X9_readSnow_74
      · have h := o_t q11 h
        refine z_iconst (v := (0 : Int32)) C d_X9_readSnow_58 (by decide) ?_
        obtain ⟨rfl, rfl⟩ := o_pair h
        exact z_zret C hlk hr (by decide) d_X9_readSnow_59
    · have h := o_f q6 h
      refine z_aload_n 1 C d_X9_readSnow_25 rfl rfl ?_
      refine z_iconst (v := (4 : Int32)) C d_X9_readSnow_26 (by decide) ?_
      refine z_aload_n 1 C d_X9_readSnow_27 rfl rfl ?_
      refine z_get (k := 6) (v := .int (p2.2.1 1 6)) C ((E_9 kx_1 G) _ _) (kU_in kx_1 (by decide)) rfl inX9 (by decide) wf_X9_127 rfl d_X9_readSnow_28 ?_
      obtain ⟨p19, e18, h⟩ := o_bd h
      refine z_V (S := []) (As := [.int (4 : Int32), .int (p2.2.1 1 6)]) C (c_X9_refuse l G e18) ((E_9 kx_1 G) _ _) (kU_in kx_1 (by decide)) rfl wc_X9_refuse wm_X9_60 ws_X9_refuse wl_X9_refuse wi_X9 hy_X9_refuse ⟨Nat.le_of_ble_eq_true rfl, Nat.le_of_ble_eq_true rfl⟩ rfl rfl (Nat.le_of_ble_eq_true rfl) d_X9_readSnow_31 ?_
      obtain ⟨q20, h⟩ := o_ck h
      obtain ⟨rfl, rfl⟩ := o_pair h
      exact z_zret C hlk hr (isB_nar q20) d_X9_readSnow_34
  · have h := o_t q3 h
    refine z_iconst (v := (0 : Int32)) C d_X9_readSnow_7 (by decide) ?_
    obtain ⟨rfl, rfl⟩ := o_pair h
    exact z_zret C hlk hr (by decide) d_X9_readSnow_8
theorem c_X9_readSnow (l : Launch) (G : GG) {M : Mm} {a1 : Nat} {r : Int32} {M2 : Mm} (ha1 : kU 0 a1 = 7) (h : f_X9_readSnow M a1 = some (r, M2)) : CT l 0 G y_X9_readSnow prog_11_method_10_code 3 (some .boolean) 4 88 [.ref (gB G + 1), .ref (gB G + a1)] M (some (.int r)) M2 :=
  CT.of (by decide +kernel) (Nat.le_of_ble_eq_true rfl) rfl (fun p e s m args below meth c C hlk hr => k_X9_readSnow_0 C hlk hr ha1 h)
-- SnowSentries$Text.readSide()Z
set_option maxRecDepth 4000 in
theorem k_X9_readSide_0 {p : Program} {l : Launch} {e : Env} {s : State} {m : MethodId} {args : Array Value} {below : List Frame} {meth : Method} {c : Code} {G : GG} {M : Mm} {r : Int32} {M2 : Mm} (C : CX p s m args c prog_11_method_18_code 1 "SnowSentries$Text" 0 G) (hlk : meth.locks = false) (hr : meth.sig.returnType = (some .boolean)) : f_X9_readSide M = some (r, M2) → Z p l e { frames := 6, cells := 0, slots := 0, locals := 163 } s m args below meth c 0 G 1 (MQ below (QC 0 G (some (.int r)) M2) args s 0 0 (AU 0 G)) 0 [(0, .ref (gB G + 1))] [] M := by
  intro h
  unfold f_X9_readSide at h
  refine z_aload_n 0 C d_X9_readSide_0 rfl rfl ?_
  obtain ⟨p2, e1, h⟩ := o_bd h
  refine z_V (S := []) (As := []) C (c_X9_readToken l G e1) ((E_9 kx_1 G) _ _) (kU_in kx_1 (by decide)) rfl wc_X9_readToken wm_X9_44 ws_X9_readToken wl_X9_readToken wi_X9 hy_X9_readToken ⟨Nat.le_of_ble_eq_true rfl, Nat.le_of_ble_eq_true rfl⟩ rfl rfl (Nat.le_of_ble_eq_true rfl) d_X9_readSide_1 ?_
  refine z_if_ne C d_X9_readSide_4 (fun q3 => ?_) (fun q3 => ?_)
  · have h := o_f q3 h
    refine z_aload_n 0 C d_X9_readSide_9 rfl rfl ?_
    refine z_ldcS (i := 8) C (by decide) rfl d_X9_readSide_10 ?_
    obtain ⟨p5, e4, h⟩ := o_bd h
    refine z_V (S := []) (As := [.ref (gK G 8)]) C (c_X9_isNamed l G (by decide) e4) ((E_9 kx_1 G) _ _) (kU_in kx_1 (by decide)) rfl wc_X9_isNamed wm_X9_65 ws_X9_isNamed wl_X9_isNamed wi_X9 hy_X9_isNamed ⟨Nat.le_of_ble_eq_true rfl, Nat.le_of_ble_eq_true rfl⟩ rfl rfl (Nat.le_of_ble_eq_true rfl) d_X9_readSide_12 ?_
    refine z_if_eq C d_X9_readSide_15 (fun q6 => ?_) (fun q6 => ?_)
    · have h := o_t q6 h
      refine z_aload_n 0 C d_X9_readSide_25 rfl rfl ?_
      refine z_ldcS (i := 9) C (by decide) rfl d_X9_readSide_26 ?_
      obtain ⟨p8, e7, h⟩ := o_bd h
      refine z_V (S := []) (As := [.ref (gK G 9)]) C (c_X9_isNamed l G (by decide) e7) ((E_9 kx_1 G) _ _) (kU_in kx_1 (by decide)) rfl wc_X9_isNamed wm_X9_65 ws_X9_isNamed wl_X9_isNamed wi_X9 hy_X9_isNamed ⟨Nat.le_of_ble_eq_true rfl, Nat.le_of_ble_eq_true rfl⟩ rfl rfl (Nat.le_of_ble_eq_true rfl) d_X9_readSide_28 ?_
      refine z_if_eq C d_X9_readSide_31 (fun q9 => ?_) (fun q9 => ?_)
      · have h := o_t q9 h
        refine z_aload_n 0 C d_X9_readSide_41 rfl rfl ?_
        refine z_iconst (v := (2 : Int32)) C d_X9_readSide_42 (by decide) ?_
        refine z_aload_n 0 C d_X9_readSide_43 rfl rfl ?_
        refine z_get (k := 6) (v := .int (p2.2.1 1 6)) C ((E_9 kx_1 G) _ _) (kU_in kx_1 (by decide)) rfl inX9 (by decide) wf_X9_127 rfl d_X9_readSide_44 ?_
        obtain ⟨p11, e10, h⟩ := o_bd h
        refine z_V (S := []) (As := [.int (2 : Int32), .int (p2.2.1 1 6)]) C (c_X9_refuse l G e10) ((E_9 kx_1 G) _ _) (kU_in kx_1 (by decide)) rfl wc_X9_refuse wm_X9_60 ws_X9_refuse wl_X9_refuse wi_X9 hy_X9_refuse ⟨Nat.le_of_ble_eq_true rfl, Nat.le_of_ble_eq_true rfl⟩ rfl rfl (Nat.le_of_ble_eq_true rfl) d_X9_readSide_47 ?_
        obtain ⟨q12, h⟩ := o_ck h
        obtain ⟨rfl, rfl⟩ := o_pair h
        exact z_zret C hlk hr (isB_nar q12) d_X9_readSide_50
      · have h := o_f q9 h
        refine z_aload_n 0 C d_X9_readSide_34 rfl rfl ?_
        refine z_iconst (v := (1 : Int32)) C d_X9_readSide_35 (by decide) ?_
        obtain ⟨M13, e14, h⟩ := o_wr h
        refine z_pI (k := 8) (ty := .int) C (fun r q => (E_9 kx_1 G) r q) (fun _ _ => rfl) (kU_in kx_1 (by decide)) rfl inX9 tyX9 tyX9_ok nmX9 (by decide) wf_X9_137 rfl (by decide +kernel) rfl rfl (Nat.le_of_ble_eq_true rfl) d_X9_readSide_36 ?_
        refine z_nM e14 ?_
        refine z_iconst (v := (1 : Int32)) C d_X9_readSide_39 (by decide) ?_
        obtain ⟨rfl, rfl⟩ := o_pair h
        exact z_zret C hlk hr (by decide) d_X9_readSide_40
    · have h := o_f q6 h
      refine z_aload_n 0 C d_X9_readSide_18 rfl rfl ?_
      refine z_iconst (v := (0 : Int32)) C d_X9_readSide_19 (by decide) ?_
      obtain ⟨M15, e16, h⟩ := o_wr h
      refine z_pI (k := 8) (ty := .int) C (fun r q => (E_9 kx_1 G) r q) (fun _ _ => rfl) (kU_in kx_1 (by decide)) rfl inX9 tyX9 tyX9_ok nmX9 (by decide) wf_X9_137 rfl (by decide +kernel) rfl rfl (Nat.le_of_ble_eq_true rfl) d_X9_readSide_20 ?_
      refine z_nM e16 ?_
      refine z_iconst (v := (1 : Int32)) C d_X9_readSide_23 (by decide) ?_
      obtain ⟨rfl, rfl⟩ := o_pair h
      exact z_zret C hlk hr (by decide) d_X9_readSide_24
  · have h := o_t q3 h
    refine z_iconst (v := (0 : Int32)) C d_X9_readSide_7 (by decide) ?_
    obtain ⟨rfl, rfl⟩ := o_pair h
    exact z_zret C hlk hr (by decide) d_X9_readSide_8
theorem c_X9_readSide (l : Launch) (G : GG) {M : Mm} {r : Int32} {M2 : Mm} (h : f_X9_readSide M = some (r, M2)) : CT l 0 G y_X9_readSide prog_11_method_18_code 1 (some .boolean) 6 163 [.ref (gB G + 1)] M (some (.int r)) M2 :=
  CT.of (by decide +kernel) (Nat.le_of_ble_eq_true rfl) rfl (fun p e s m args below meth c C hlk hr => k_X9_readSide_0 C hlk hr h)
-- SnowSentries$Text.readKind(LSnowSentries$Man;)Z
set_option maxRecDepth 4000 in
theorem k_X9_readKind_104 {p : Program} {l : Launch} {e : Env} {s : State} {m : MethodId} {args : Array Value} {below : List Frame} {meth : Method} {c : Code} {G : GG} {M : Mm} {r : Int32} {M2 : Mm} (C : CX p s m args c prog_11_method_12_code 2 "SnowSentries$Text" 0 G) (hlk : meth.locks = false) (hr : meth.sig.returnType = (some .boolean)) : f_X9_readKind_104 M = some (r, M2) → Z p l e { frames := 6, cells := 0, slots := 0, locals := 163 } s m args below meth c 0 G 2 (MQ below (QC 0 G (some (.int r)) M2) args s 0 0 (AU 0 G)) 104 [] [] M := by
  intro h
  unfold f_X9_readKind_104 at h
  refine z_iconst (v := (1 : Int32)) C d_X9_readKind_104 (by decide) ?_
  obtain ⟨rfl, rfl⟩ := o_pair h
  exact z_zret C hlk hr (by decide) d_X9_readKind_105
set_option maxRecDepth 4000 in
theorem k_X9_readKind_0 {p : Program} {l : Launch} {e : Env} {s : State} {m : MethodId} {args : Array Value} {below : List Frame} {meth : Method} {c : Code} {G : GG} {M : Mm} {a1 : Nat} {r : Int32} {M2 : Mm} (C : CX p s m args c prog_11_method_12_code 2 "SnowSentries$Text" 0 G) (hlk : meth.locks = false) (hr : meth.sig.returnType = (some .boolean)) (ha1 : kU 0 a1 = 6) : f_X9_readKind M a1 = some (r, M2) → Z p l e { frames := 6, cells := 0, slots := 0, locals := 163 } s m args below meth c 0 G 2 (MQ below (QC 0 G (some (.int r)) M2) args s 0 0 (AU 0 G)) 0 [(0, .ref (gB G + 1)), (1, .ref (gB G + a1))] [] M := by
  intro h
  unfold f_X9_readKind at h
  refine z_aload_n 0 C d_X9_readKind_0 rfl rfl ?_
  obtain ⟨p2, e1, h⟩ := o_bd h
  refine z_V (S := []) (As := []) C (c_X9_readToken l G e1) ((E_9 kx_1 G) _ _) (kU_in kx_1 (by decide)) rfl wc_X9_readToken wm_X9_44 ws_X9_readToken wl_X9_readToken wi_X9 hy_X9_readToken ⟨Nat.le_of_ble_eq_true rfl, Nat.le_of_ble_eq_true rfl⟩ rfl rfl (Nat.le_of_ble_eq_true rfl) d_X9_readKind_1 ?_
  refine z_if_ne C d_X9_readKind_4 (fun q3 => ?_) (fun q3 => ?_)
  · have h := o_f q3 h
    refine z_aload_n 0 C d_X9_readKind_9 rfl rfl ?_
    refine z_ldcS (i := 10) C (by decide) rfl d_X9_readKind_10 ?_
    obtain ⟨p5, e4, h⟩ := o_bd h
    refine z_V (S := []) (As := [.ref (gK G 10)]) C (c_X9_isNamed l G (by decide) e4) ((E_9 kx_1 G) _ _) (kU_in kx_1 (by decide)) rfl wc_X9_isNamed wm_X9_65 ws_X9_isNamed wl_X9_isNamed wi_X9 hy_X9_isNamed ⟨Nat.le_of_ble_eq_true rfl, Nat.le_of_ble_eq_true rfl⟩ rfl rfl (Nat.le_of_ble_eq_true rfl) d_X9_readKind_12 ?_
    refine z_if_eq C d_X9_readKind_15 (fun q6 => ?_) (fun q6 => ?_)
    · have h := o_t q6 h
      refine z_aload_n 0 C d_X9_readKind_26 rfl rfl ?_
      refine z_ldcS (i := 11) C (by decide) rfl d_X9_readKind_27 ?_
      obtain ⟨p8, e7, h⟩ := o_bd h
      refine z_V (S := []) (As := [.ref (gK G 11)]) C (c_X9_isNamed l G (by decide) e7) ((E_9 kx_1 G) _ _) (kU_in kx_1 (by decide)) rfl wc_X9_isNamed wm_X9_65 ws_X9_isNamed wl_X9_isNamed wi_X9 hy_X9_isNamed ⟨Nat.le_of_ble_eq_true rfl, Nat.le_of_ble_eq_true rfl⟩ rfl rfl (Nat.le_of_ble_eq_true rfl) d_X9_readKind_29 ?_
      refine z_if_eq C d_X9_readKind_32 (fun q9 => ?_) (fun q9 => ?_)
      · have h := o_t q9 h
        refine z_aload_n 0 C d_X9_readKind_43 rfl rfl ?_
        refine z_ldcS (i := 12) C (by decide) rfl d_X9_readKind_44 ?_
        obtain ⟨p11, e10, h⟩ := o_bd h
        refine z_V (S := []) (As := [.ref (gK G 12)]) C (c_X9_isNamed l G (by decide) e10) ((E_9 kx_1 G) _ _) (kU_in kx_1 (by decide)) rfl wc_X9_isNamed wm_X9_65 ws_X9_isNamed wl_X9_isNamed wi_X9 hy_X9_isNamed ⟨Nat.le_of_ble_eq_true rfl, Nat.le_of_ble_eq_true rfl⟩ rfl rfl (Nat.le_of_ble_eq_true rfl) d_X9_readKind_46 ?_
        refine z_if_eq C d_X9_readKind_49 (fun q12 => ?_) (fun q12 => ?_)
        · have h := o_t q12 h
          refine z_aload_n 0 C d_X9_readKind_60 rfl rfl ?_
          refine z_ldcS (i := 13) C (by decide) rfl d_X9_readKind_61 ?_
          obtain ⟨p14, e13, h⟩ := o_bd h
          refine z_V (S := []) (As := [.ref (gK G 13)]) C (c_X9_isNamed l G (by decide) e13) ((E_9 kx_1 G) _ _) (kU_in kx_1 (by decide)) rfl wc_X9_isNamed wm_X9_65 ws_X9_isNamed wl_X9_isNamed wi_X9 hy_X9_isNamed ⟨Nat.le_of_ble_eq_true rfl, Nat.le_of_ble_eq_true rfl⟩ rfl rfl (Nat.le_of_ble_eq_true rfl) d_X9_readKind_63 ?_
          refine z_if_eq C d_X9_readKind_66 (fun q15 => ?_) (fun q15 => ?_)
          · have h := o_t q15 h
            refine z_aload_n 0 C d_X9_readKind_77 rfl rfl ?_
            refine z_ldcS (i := 14) C (by decide) rfl d_X9_readKind_78 ?_
            obtain ⟨p17, e16, h⟩ := o_bd h
            refine z_V (S := []) (As := [.ref (gK G 14)]) C (c_X9_isNamed l G (by decide) e16) ((E_9 kx_1 G) _ _) (kU_in kx_1 (by decide)) rfl wc_X9_isNamed wm_X9_65 ws_X9_isNamed wl_X9_isNamed wi_X9 hy_X9_isNamed ⟨Nat.le_of_ble_eq_true rfl, Nat.le_of_ble_eq_true rfl⟩ rfl rfl (Nat.le_of_ble_eq_true rfl) d_X9_readKind_80 ?_
            refine z_if_eq C d_X9_readKind_83 (fun q18 => ?_) (fun q18 => ?_)
            · have h := o_t q18 h
              refine z_aload_n 0 C d_X9_readKind_94 rfl rfl ?_
              refine z_iconst (v := (2 : Int32)) C d_X9_readKind_95 (by decide) ?_
              refine z_aload_n 0 C d_X9_readKind_96 rfl rfl ?_
              refine z_get (k := 6) (v := .int (p2.2.1 1 6)) C ((E_9 kx_1 G) _ _) (kU_in kx_1 (by decide)) rfl inX9 (by decide) wf_X9_127 rfl d_X9_readKind_97 ?_
              obtain ⟨p20, e19, h⟩ := o_bd h
              refine z_V (S := []) (As := [.int (2 : Int32), .int (p2.2.1 1 6)]) C (c_X9_refuse l G e19) ((E_9 kx_1 G) _ _) (kU_in kx_1 (by decide)) rfl wc_X9_refuse wm_X9_60 ws_X9_refuse wl_X9_refuse wi_X9 hy_X9_refuse ⟨Nat.le_of_ble_eq_true rfl, Nat.le_of_ble_eq_true rfl⟩ rfl rfl (Nat.le_of_ble_eq_true rfl) d_X9_readKind_100 ?_
              obtain ⟨q21, h⟩ := o_ck h
              obtain ⟨rfl, rfl⟩ := o_pair h
              exact z_zret C hlk hr (isB_nar q21) d_X9_readKind_103
            · have h := o_f q18 h
              refine z_aload_n 1 C d_X9_readKind_86 rfl rfl ?_
              refine z_iconst (v := (4 : Int32)) C d_X9_readKind_87 (by decide) ?_
              obtain ⟨M22, e23, h⟩ := o_wr h
              refine z_pI (k := 1) (ty := .int) C (fun r q => (E_6 ha1 G) r q) (fun _ _ => rfl) (kU_in ha1 (by decide)) rfl inX6 tyX6 tyX6_ok nmX6 (by decide) wf_X9_190 rfl (by decide +kernel) rfl rfl (Nat.le_of_ble_eq_true rfl) d_X9_readKind_88 ?_
              refine z_nM e23 ?_
              refine z_goto C d_X9_readKind_91 ?_
              exact z_sub [] rfl (k_X9_readKind_104 C hlk hr h)
          · have h := o_f q15 h
            refine z_aload_n 1 C d_X9_readKind_69 rfl rfl ?_
            refine z_iconst (v := (3 : Int32)) C d_X9_readKind_70 (by decide) ?_
            obtain ⟨M24, e25, h⟩ := o_wr h
            refine z_pI (k := 1) (ty := .int) C (fun r q => (E_6 ha1 G) r q) (fun _ _ => rfl) (kU_in ha1 (by decide)) rfl inX6 tyX6 tyX6_ok nmX6 (by decide) wf_X9_190 rfl (by decide +kernel) rfl rfl (Nat.le_of_ble_eq_true rfl) d_X9_readKind_71 ?_
            refine z_nM e25 ?_
            refine z_goto C d_X9_readKind_74 ?_
            exact z_sub [] rfl (k_X9_readKind_104 C hlk hr h)
        · have h := o_f q12 h
          refine z_aload_n 1 C d_X9_readKind_52 rfl rfl ?_
          refine z_iconst (v := (2 : Int32)) C d_X9_readKind_53 (by decide) ?_
          obtain ⟨M26, e27, h⟩ := o_wr h
          refine z_pI (k := 1) (ty := .int) C (fun r q => (E_6 ha1 G) r q) (fun _ _ => rfl) (kU_in ha1 (by decide)) rfl inX6 tyX6 tyX6_ok nmX6 (by decide) wf_X9_190 rfl (by decide +kernel) rfl rfl (Nat.le_of_ble_eq_true rfl) d_X9_readKind_54 ?_
          refine z_nM e27 ?_
          refine z_goto C d_X9_readKind_57 ?_
          exact z_sub [] rfl (k_X9_readKind_104 C hlk hr h)
      · have h := o_f q9 h
        refine z_aload_n 1 C d_X9_readKind_35 rfl rfl ?_
        refine z_iconst (v := (1 : Int32)) C d_X9_readKind_36 (by decide) ?_
        obtain ⟨M28, e29, h⟩ := o_wr h
        refine z_pI (k := 1) (ty := .int) C (fun r q => (E_6 ha1 G) r q) (fun _ _ => rfl) (kU_in ha1 (by decide)) rfl inX6 tyX6 tyX6_ok nmX6 (by decide) wf_X9_190 rfl (by decide +kernel) rfl rfl (Nat.le_of_ble_eq_true rfl) d_X9_readKind_37 ?_
        refine z_nM e29 ?_
        refine z_goto C d_X9_readKind_40 ?_
        exact z_sub [] rfl (k_X9_readKind_104 C hlk hr h)
    · have h := o_f q6 h
      refine z_aload_n 1 C d_X9_readKind_18 rfl rfl ?_
      refine z_iconst (v := (0 : Int32)) C d_X9_readKind_19 (by decide) ?_
      obtain ⟨M30, e31, h⟩ := o_wr h
      refine z_pI (k := 1) (ty := .int) C (fun r q => (E_6 ha1 G) r q) (fun _ _ => rfl) (kU_in ha1 (by decide)) rfl inX6 tyX6 tyX6_ok nmX6 (by decide) wf_X9_190 rfl (by decide +kernel) rfl rfl (Nat.le_of_ble_eq_true rfl) d_X9_readKind_20 ?_
      refine z_nM e31 ?_
      refine z_goto C d_X9_readKind_23 ?_
      exact z_sub [] rfl (k_X9_readKind_104 C hlk hr h)
  · have h := o_t q3 h
    refine z_iconst (v := (0 : Int32)) C d_X9_readKind_7 (by decide) ?_
    obtain ⟨rfl, rfl⟩ := o_pair h
    exact z_zret C hlk hr (by decide) d_X9_readKind_8
theorem c_X9_readKind (l : Launch) (G : GG) {M : Mm} {a1 : Nat} {r : Int32} {M2 : Mm} (ha1 : kU 0 a1 = 6) (h : f_X9_readKind M a1 = some (r, M2)) : CT l 0 G y_X9_readKind prog_11_method_12_code 2 (some .boolean) 6 163 [.ref (gB G + 1), .ref (gB G + a1)] M (some (.int r)) M2 :=
  CT.of (by decide +kernel) (Nat.le_of_ble_eq_true rfl) rfl (fun p e s m args below meth c C hlk hr => k_X9_readKind_0 C hlk hr ha1 h)
-- SnowSentries$Text.readParts(LSnowSentries$Man;)Z
set_option maxRecDepth 4000 in
theorem k_X9_readParts_0 {p : Program} {l : Launch} {e : Env} {s : State} {m : MethodId} {args : Array Value} {below : List Frame} {meth : Method} {c : Code} {G : GG} {M : Mm} {a1 : Nat} {r : Int32} {M2 : Mm} (C : CX p s m args c prog_11_method_13_code 2 "SnowSentries$Text" 0 G) (hlk : meth.locks = false) (hr : meth.sig.returnType = (some .boolean)) (ha1 : kU 0 a1 = 6) : f_X9_readParts M a1 = some (r, M2) → Z p l e { frames := 3, cells := 0, slots := 0, locals := 68 } s m args below meth c 0 G 2 (MQ below (QC 0 G (some (.int r)) M2) args s 0 0 (AU 0 G)) 0 [(0, .ref (gB G + 1)), (1, .ref (gB G + a1))] [] M := by
  intro h
  unfold f_X9_readParts at h
  refine z_aload_n 0 C d_X9_readParts_0 rfl rfl ?_
  refine z_iconst (v := (0 : Int32)) C d_X9_readParts_1 (by decide) ?_
  refine z_bipush (v := (99 : Int32)) C d_X9_readParts_2 (by decide) ?_
  obtain ⟨p2, e1, h⟩ := o_bd h
  refine z_V (S := []) (As := [.int (0 : Int32), .int (99 : Int32)]) C (c_X9_readNumber l G e1) ((E_9 kx_1 G) _ _) (kU_in kx_1 (by decide)) rfl wc_X9_readNumber wm_X9_134 ws_X9_readNumber wl_X9_readNumber wi_X9 hy_X9_readNumber ⟨Nat.le_of_ble_eq_true rfl, Nat.le_of_ble_eq_true rfl⟩ rfl rfl (Nat.le_of_ble_eq_true rfl) d_X9_readParts_4 ?_
  refine z_if_ne C d_X9_readParts_7 (fun q3 => ?_) (fun q3 => ?_)
  · have h := o_f q3 h
    refine z_aload_n 1 C d_X9_readParts_12 rfl rfl ?_
    refine z_aload_n 0 C d_X9_readParts_13 rfl rfl ?_
    refine z_get (k := 8) (v := .int (p2.2.1 1 8)) C ((E_9 kx_1 G) _ _) (kU_in kx_1 (by decide)) rfl inX9 (by decide) wf_X9_137 rfl d_X9_readParts_14 ?_
    obtain ⟨M4, e5, h⟩ := o_wr h
    refine z_pI (k := 2) (ty := .int) C (fun r q => (E_6 ha1 G) r q) (fun _ _ => rfl) (kU_in ha1 (by decide)) rfl inX6 tyX6 tyX6_ok nmX6 (by decide) wf_X9_199 rfl (by decide +kernel) rfl rfl (Nat.le_of_ble_eq_true rfl) d_X9_readParts_17 ?_
    refine z_nM e5 ?_
    refine z_aload_n 0 C d_X9_readParts_20 rfl rfl ?_
    refine z_iconst (v := (0 : Int32)) C d_X9_readParts_21 (by decide) ?_
    refine z_bipush (v := (99 : Int32)) C d_X9_readParts_22 (by decide) ?_
    obtain ⟨p7, e6, h⟩ := o_bd h
    refine z_V (S := []) (As := [.int (0 : Int32), .int (99 : Int32)]) C (c_X9_readNumber l G e6) ((E_9 kx_1 G) _ _) (kU_in kx_1 (by decide)) rfl wc_X9_readNumber wm_X9_134 ws_X9_readNumber wl_X9_readNumber wi_X9 hy_X9_readNumber ⟨Nat.le_of_ble_eq_true rfl, Nat.le_of_ble_eq_true rfl⟩ rfl rfl (Nat.le_of_ble_eq_true rfl) d_X9_readParts_24 ?_
    refine z_if_ne C d_X9_readParts_27 (fun q8 => ?_) (fun q8 => ?_)
    · have h := o_f q8 h
      refine z_aload_n 1 C d_X9_readParts_32 rfl rfl ?_
      refine z_aload_n 0 C d_X9_readParts_33 rfl rfl ?_
      refine z_get (k := 8) (v := .int (p7.2.1 1 8)) C ((E_9 kx_1 G) _ _) (kU_in kx_1 (by decide)) rfl inX9 (by decide) wf_X9_137 rfl d_X9_readParts_34 ?_
      obtain ⟨M9, e10, h⟩ := o_wr h
      refine z_pI (k := 3) (ty := .int) C (fun r q => (E_6 ha1 G) r q) (fun _ _ => rfl) (kU_in ha1 (by decide)) rfl inX6 tyX6 tyX6_ok nmX6 (by decide) wf_X9_202 rfl (by decide +kernel) rfl rfl (Nat.le_of_ble_eq_true rfl) d_X9_readParts_37 ?_
      refine z_nM e10 ?_
      refine z_aload_n 0 C d_X9_readParts_40 rfl rfl ?_
      refine z_iconst (v := (0 : Int32)) C d_X9_readParts_41 (by decide) ?_
      refine z_bipush (v := (99 : Int32)) C d_X9_readParts_42 (by decide) ?_
      obtain ⟨p12, e11, h⟩ := o_bd h
      refine z_V (S := []) (As := [.int (0 : Int32), .int (99 : Int32)]) C (c_X9_readNumber l G e11) ((E_9 kx_1 G) _ _) (kU_in kx_1 (by decide)) rfl wc_X9_readNumber wm_X9_134 ws_X9_readNumber wl_X9_readNumber wi_X9 hy_X9_readNumber ⟨Nat.le_of_ble_eq_true rfl, Nat.le_of_ble_eq_true rfl⟩ rfl rfl (Nat.le_of_ble_eq_true rfl) d_X9_readParts_44 ?_
      refine z_if_ne C d_X9_readParts_47 (fun q13 => ?_) (fun q13 => ?_)
      · have h := o_f q13 h
        refine z_aload_n 1 C d_X9_readParts_52 rfl rfl ?_
        refine z_aload_n 0 C d_X9_readParts_53 rfl rfl ?_
        refine z_get (k := 8) (v := .int (p12.2.1 1 8)) C ((E_9 kx_1 G) _ _) (kU_in kx_1 (by decide)) rfl inX9 (by decide) wf_X9_137 rfl d_X9_readParts_54 ?_
        obtain ⟨M14, e15, h⟩ := o_wr h
        refine z_pI (k := 4) (ty := .int) C (fun r q => (E_6 ha1 G) r q) (fun _ _ => rfl) (kU_in ha1 (by decide)) rfl inX6 tyX6 tyX6_ok nmX6 (by decide) wf_X9_205 rfl (by decide +kernel) rfl rfl (Nat.le_of_ble_eq_true rfl) d_X9_readParts_57 ?_
        refine z_nM e15 ?_
        refine z_aload_n 0 C d_X9_readParts_60 rfl rfl ?_
        refine z_iconst (v := (0 : Int32)) C d_X9_readParts_61 (by decide) ?_
        refine z_iconst (v := (3 : Int32)) C d_X9_readParts_62 (by decide) ?_
        obtain ⟨p17, e16, h⟩ := o_bd h
        refine z_V (S := []) (As := [.int (0 : Int32), .int (3 : Int32)]) C (c_X9_readNumber l G e16) ((E_9 kx_1 G) _ _) (kU_in kx_1 (by decide)) rfl wc_X9_readNumber wm_X9_134 ws_X9_readNumber wl_X9_readNumber wi_X9 hy_X9_readNumber ⟨Nat.le_of_ble_eq_true rfl, Nat.le_of_ble_eq_true rfl⟩ rfl rfl (Nat.le_of_ble_eq_true rfl) d_X9_readParts_63 ?_
        refine z_if_ne C d_X9_readParts_66 (fun q18 => ?_) (fun q18 => ?_)
        · have h := o_f q18 h
          refine z_aload_n 1 C d_X9_readParts_71 rfl rfl ?_
          refine z_aload_n 0 C d_X9_readParts_72 rfl rfl ?_
          refine z_get (k := 8) (v := .int (p17.2.1 1 8)) C ((E_9 kx_1 G) _ _) (kU_in kx_1 (by decide)) rfl inX9 (by decide) wf_X9_137 rfl d_X9_readParts_73 ?_
          obtain ⟨M19, e20, h⟩ := o_wr h
          refine z_pI (k := 5) (ty := .int) C (fun r q => (E_6 ha1 G) r q) (fun _ _ => rfl) (kU_in ha1 (by decide)) rfl inX6 tyX6 tyX6_ok nmX6 (by decide) wf_X9_206 rfl (by decide +kernel) rfl rfl (Nat.le_of_ble_eq_true rfl) d_X9_readParts_76 ?_
          refine z_nM e20 ?_
          refine z_iconst (v := (1 : Int32)) C d_X9_readParts_79 (by decide) ?_
          obtain ⟨rfl, rfl⟩ := o_pair h
          exact z_zret C hlk hr (by decide) d_X9_readParts_80
        · have h := o_t q18 h
          refine z_iconst (v := (0 : Int32)) C d_X9_readParts_69 (by decide) ?_
          obtain ⟨rfl, rfl⟩ := o_pair h
          exact z_zret C hlk hr (by decide) d_X9_readParts_70
      · have h := o_t q13 h
        refine z_iconst (v := (0 : Int32)) C d_X9_readParts_50 (by decide) ?_
        obtain ⟨rfl, rfl⟩ := o_pair h
        exact z_zret C hlk hr (by decide) d_X9_readParts_51
    · have h := o_t q8 h
      refine z_iconst (v := (0 : Int32)) C d_X9_readParts_30 (by decide) ?_
      obtain ⟨rfl, rfl⟩ := o_pair h
      exact z_zret C hlk hr (by decide) d_X9_readParts_31
  · have h := o_t q3 h
    refine z_iconst (v := (0 : Int32)) C d_X9_readParts_10 (by decide) ?_
    obtain ⟨rfl, rfl⟩ := o_pair h
    exact z_zret C hlk hr (by decide) d_X9_readParts_11
theorem c_X9_readParts (l : Launch) (G : GG) {M : Mm} {a1 : Nat} {r : Int32} {M2 : Mm} (ha1 : kU 0 a1 = 6) (h : f_X9_readParts M a1 = some (r, M2)) : CT l 0 G y_X9_readParts prog_11_method_13_code 2 (some .boolean) 3 68 [.ref (gB G + 1), .ref (gB G + a1)] M (some (.int r)) M2 :=
  CT.of (by decide +kernel) (Nat.le_of_ble_eq_true rfl) rfl (fun p e s m args below meth c C hlk hr => k_X9_readParts_0 C hlk hr ha1 h)
-- SnowSentries$Text.readDress(LSnowSentries$Man;)Z
set_option maxRecDepth 4000 in
theorem k_X9_readDress_45 {p : Program} {l : Launch} {e : Env} {s : State} {m : MethodId} {args : Array Value} {below : List Frame} {meth : Method} {c : Code} {G : GG} {M : Mm} {s_0 : Int32} {r : Int32} {M2 : Mm} (C : CX p s m args c prog_11_method_14_code 2 "SnowSentries$Text" 0 G) (hlk : meth.locks = false) (hr : meth.sig.returnType = (some .boolean)) : f_X9_readDress_45 M s_0 = some (r, M2) → Z p l e { frames := 6, cells := 0, slots := 0, locals := 163 } s m args below meth c 0 G 2 (MQ below (QC 0 G (some (.int r)) M2) args s 0 0 (AU 0 G)) 45 [] [.int s_0] M := by
  intro h
  unfold f_X9_readDress_45 at h
  obtain ⟨q1, h⟩ := o_ck h
  obtain ⟨rfl, rfl⟩ := o_pair h
  exact z_zret C hlk hr (isB_nar q1) d_X9_readDress_45
set_option maxRecDepth 4000 in
theorem k_X9_readDress_24 {p : Program} {l : Launch} {e : Env} {s : State} {m : MethodId} {args : Array Value} {below : List Frame} {meth : Method} {c : Code} {G : GG} {M : Mm} {a1 : Nat} {b_0 : Nat} {s_1 : Int32} {r : Int32} {M2 : Mm} (C : CX p s m args c prog_11_method_14_code 2 "SnowSentries$Text" 0 G) (hlk : meth.locks = false) (hr : meth.sig.returnType = (some .boolean)) (ha1 : kU 0 a1 = 6) (hb_0 : kU 0 b_0 = 6) : f_X9_readDress_24 M a1 b_0 s_1 = some (r, M2) → Z p l e { frames := 6, cells := 0, slots := 0, locals := 163 } s m args below meth c 0 G 2 (MQ below (QC 0 G (some (.int r)) M2) args s 0 0 (AU 0 G)) 24 [(0, .ref (gB G + 1)), (1, .ref (gB G + a1))] [.int s_1, .ref (gB G + b_0)] M := by
  intro h
  unfold f_X9_readDress_24 at h
  obtain ⟨q3, h⟩ := o_ck h
  obtain ⟨M1, e2, h⟩ := o_wr h
  refine z_pI (k := 6) (ty := .boolean) C (fun r q => (E_6 hb_0 G) r q) (fun _ _ => rfl) (kU_in hb_0 (by decide)) rfl inX6 tyX6 tyX6_ok nmX6 (by decide) wf_X9_209 rfl (by decide +kernel) (isB_nar q3) (isB_fit q3) (Nat.le_of_ble_eq_true rfl) d_X9_readDress_24 ?_
  refine z_nM e2 ?_
  refine z_aload_n 1 C d_X9_readDress_27 rfl rfl ?_
  refine z_get (k := 6) (v := .int (M1.1 a1 6)) C ((E_6 ha1 G) _ _) (kU_in ha1 (by decide)) rfl inX6 (by decide) wf_X9_209 rfl d_X9_readDress_28 ?_
  refine z_if_eq C d_X9_readDress_31 (fun q4 => ?_) (fun q4 => ?_)
  · have h := o_t q4 h
    refine z_aload_n 0 C d_X9_readDress_41 rfl rfl ?_
    obtain ⟨p6, e5, h⟩ := o_bd h
    refine z_V (S := []) (As := []) C (c_X9_readSemicolon l G e5) ((E_9 kx_1 G) _ _) (kU_in kx_1 (by decide)) rfl wc_X9_readSemicolon wm_X9_140 ws_X9_readSemicolon wl_X9_readSemicolon wi_X9 hy_X9_readSemicolon ⟨Nat.le_of_ble_eq_true rfl, Nat.le_of_ble_eq_true rfl⟩ rfl rfl (Nat.le_of_ble_eq_true rfl) d_X9_readDress_42 ?_
    exact z_sub [] rfl (k_X9_readDress_45 C hlk hr h)
  · have h := o_f q4 h
    refine z_aload_n 0 C d_X9_readDress_34 rfl rfl ?_
    obtain ⟨p8, e7, h⟩ := o_bd h
    refine z_V (S := []) (As := []) C (c_X9_isSemicolon l G e7) ((E_9 kx_1 G) _ _) (kU_in kx_1 (by decide)) rfl wc_X9_isSemicolon wm_X9_146 ws_X9_isSemicolon wl_X9_isSemicolon wi_X9 hy_X9_isSemicolon ⟨Nat.le_of_ble_eq_true rfl, Nat.le_of_ble_eq_true rfl⟩ rfl rfl (Nat.le_of_ble_eq_true rfl) d_X9_readDress_35 ?_
    refine z_goto C d_X9_readDress_38 ?_
    exact z_sub [] rfl (k_X9_readDress_45 C hlk hr h)
set_option maxRecDepth 4000 in
theorem k_X9_readDress_0 {p : Program} {l : Launch} {e : Env} {s : State} {m : MethodId} {args : Array Value} {below : List Frame} {meth : Method} {c : Code} {G : GG} {M : Mm} {a1 : Nat} {r : Int32} {M2 : Mm} (C : CX p s m args c prog_11_method_14_code 2 "SnowSentries$Text" 0 G) (hlk : meth.locks = false) (hr : meth.sig.returnType = (some .boolean)) (ha1 : kU 0 a1 = 6) : f_X9_readDress M a1 = some (r, M2) → Z p l e { frames := 6, cells := 0, slots := 0, locals := 163 } s m args below meth c 0 G 2 (MQ below (QC 0 G (some (.int r)) M2) args s 0 0 (AU 0 G)) 0 [(0, .ref (gB G + 1)), (1, .ref (gB G + a1))] [] M := by
  intro h
  unfold f_X9_readDress at h
  refine z_aload_n 0 C d_X9_readDress_0 rfl rfl ?_
  obtain ⟨p2, e1, h⟩ := o_bd h
  refine z_V (S := []) (As := []) C (c_X9_readToken l G e1) ((E_9 kx_1 G) _ _) (kU_in kx_1 (by decide)) rfl wc_X9_readToken wm_X9_44 ws_X9_readToken wl_X9_readToken wi_X9 hy_X9_readToken ⟨Nat.le_of_ble_eq_true rfl, Nat.le_of_ble_eq_true rfl⟩ rfl rfl (Nat.le_of_ble_eq_true rfl) d_X9_readDress_1 ?_
  refine z_if_ne C d_X9_readDress_4 (fun q3 => ?_) (fun q3 => ?_)
  · have h := o_f q3 h
    refine z_aload_n 1 C d_X9_readDress_9 rfl rfl ?_
    refine z_aload_n 0 C d_X9_readDress_10 rfl rfl ?_
    refine z_ldcS (i := 15) C (by decide) rfl d_X9_readDress_11 ?_
    obtain ⟨p5, e4, h⟩ := o_bd h
    refine z_V (S := [.ref (gB G + a1)]) (As := [.ref (gK G 15)]) C (c_X9_isNamed l G (by decide) e4) ((E_9 kx_1 G) _ _) (kU_in kx_1 (by decide)) rfl wc_X9_isNamed wm_X9_65 ws_X9_isNamed wl_X9_isNamed wi_X9 hy_X9_isNamed ⟨Nat.le_of_ble_eq_true rfl, Nat.le_of_ble_eq_true rfl⟩ rfl rfl (Nat.le_of_ble_eq_true rfl) d_X9_readDress_13 ?_
    refine z_if_ne C d_X9_readDress_16 (fun q6 => ?_) (fun q6 => ?_)
    · have h := o_f q6 h
      refine z_iconst (v := (0 : Int32)) C d_X9_readDress_23 (by decide) ?_
      exact z_sub [0, 1] rfl (k_X9_readDress_24 C hlk hr ha1 ha1 h)
    · have h := o_t q6 h
      refine z_iconst (v := (1 : Int32)) C d_X9_readDress_19 (by decide) ?_
      refine z_goto C d_X9_readDress_20 ?_
      exact z_sub [0, 1] rfl (k_X9_readDress_24 C hlk hr ha1 ha1 h)
  · have h := o_t q3 h
    refine z_iconst (v := (0 : Int32)) C d_X9_readDress_7 (by decide) ?_
    obtain ⟨rfl, rfl⟩ := o_pair h
    exact z_zret C hlk hr (by decide) d_X9_readDress_8
theorem c_X9_readDress (l : Launch) (G : GG) {M : Mm} {a1 : Nat} {r : Int32} {M2 : Mm} (ha1 : kU 0 a1 = 6) (h : f_X9_readDress M a1 = some (r, M2)) : CT l 0 G y_X9_readDress prog_11_method_14_code 2 (some .boolean) 6 163 [.ref (gB G + 1), .ref (gB G + a1)] M (some (.int r)) M2 :=
  CT.of (by decide +kernel) (Nat.le_of_ble_eq_true rfl) rfl (fun p e s m args below meth c C hlk hr => k_X9_readDress_0 C hlk hr ha1 h)
-- SnowSentries$Text.readMan(LSnowSentries$Scene;)Z
set_option maxRecDepth 4000 in
theorem k_X9_readMan_84 {p : Program} {l : Launch} {e : Env} {s : State} {m : MethodId} {args : Array Value} {below : List Frame} {meth : Method} {c : Code} {G : GG} {M : Mm} {s_0 : Int32} {r : Int32} {M2 : Mm} (C : CX p s m args c prog_11_method_11_code 4 "SnowSentries$Text" 0 G) (hlk : meth.locks = false) (hr : meth.sig.returnType = (some .boolean)) : f_X9_readMan_84 M s_0 = some (r, M2) → Z p l e { frames := 7, cells := 0, slots := 0, locals := 184 } s m args below meth c 0 G 4 (MQ below (QC 0 G (some (.int r)) M2) args s 0 0 (AU 0 G)) 84 [] [.int s_0] M := by
  intro h
  unfold f_X9_readMan_84 at h
  obtain ⟨q1, h⟩ := o_ck h
  obtain ⟨rfl, rfl⟩ := o_pair h
  exact z_zret C hlk hr (isB_nar q1) d_X9_readMan_84
set_option maxRecDepth 4000 in
theorem k_X9_readMan_83 {p : Program} {l : Launch} {e : Env} {s : State} {m : MethodId} {args : Array Value} {below : List Frame} {meth : Method} {c : Code} {G : GG} {M : Mm} {r : Int32} {M2 : Mm} (C : CX p s m args c prog_11_method_11_code 4 "SnowSentries$Text" 0 G) (hlk : meth.locks = false) (hr : meth.sig.returnType = (some .boolean)) : f_X9_readMan_83 M = some (r, M2) → Z p l e { frames := 7, cells := 0, slots := 0, locals := 184 } s m args below meth c 0 G 4 (MQ below (QC 0 G (some (.int r)) M2) args s 0 0 (AU 0 G)) 83 [] [] M := by
  intro h
  unfold f_X9_readMan_83 at h
  refine z_iconst (v := (0 : Int32)) C d_X9_readMan_83 (by decide) ?_
  exact z_sub [] rfl (k_X9_readMan_84 C hlk hr h)
set_option maxRecDepth 4000 in
theorem k_X9_readMan_0 {p : Program} {l : Launch} {e : Env} {s : State} {m : MethodId} {args : Array Value} {below : List Frame} {meth : Method} {c : Code} {G : GG} {M : Mm} {a1 : Nat} {r : Int32} {M2 : Mm} (C : CX p s m args c prog_11_method_11_code 4 "SnowSentries$Text" 0 G) (hlk : meth.locks = false) (hr : meth.sig.returnType = (some .boolean)) (ha1 : kU 0 a1 = 7) : f_X9_readMan M a1 = some (r, M2) → Z p l e { frames := 7, cells := 0, slots := 0, locals := 184 } s m args below meth c 0 G 4 (MQ below (QC 0 G (some (.int r)) M2) args s 0 0 (AU 0 G)) 0 [(0, .ref (gB G + 1)), (1, .ref (gB G + a1))] [] M := by
  intro h
  unfold f_X9_readMan at h
  refine z_aload_n 0 C d_X9_readMan_0 rfl rfl ?_
  obtain ⟨p2, e1, h⟩ := o_bd h
  refine z_V (S := []) (As := []) C (c_X9_readSide l G e1) ((E_9 kx_1 G) _ _) (kU_in kx_1 (by decide)) rfl wc_X9_readSide wm_X9_165 ws_X9_readSide wl_X9_readSide wi_X9 hy_X9_readSide ⟨Nat.le_of_ble_eq_true rfl, Nat.le_of_ble_eq_true rfl⟩ rfl rfl (Nat.le_of_ble_eq_true rfl) d_X9_readMan_1 ?_
  refine z_if_ne C d_X9_readMan_4 (fun q3 => ?_) (fun q3 => ?_)
  · have h := o_f q3 h
    refine z_aload_n 0 C d_X9_readMan_9 rfl rfl ?_
    refine z_get (k := 8) (v := .int (p2.2.1 1 8)) C ((E_9 kx_1 G) _ _) (kU_in kx_1 (by decide)) rfl inX9 (by decide) wf_X9_137 rfl d_X9_readMan_10 ?_
    obtain ⟨v4, e5, h⟩ := o_nm h
    refine z_nI e5 ?_
    refine z_istore_n (L' := [(2, .int v4), (0, .ref (gB G + 1)), (1, .ref (gB G + a1))]) C d_X9_readMan_13 rfl (by decide) rfl ?_
    refine z_aload_n 1 C d_X9_readMan_14 rfl rfl ?_
    obtain ⟨p7, e6, h⟩ := o_bd h
    refine z_V (S := []) (As := []) C (c_X9_readFurlong l G e6) ((E_9 kx_1 G) _ _) (kU_in kx_1 (by decide)) rfl wc_X9_readFurlong wm_X9_160 ws_X9_readFurlong wl_X9_readFurlong wi_X9 hy_X9_readFurlong ⟨Nat.le_of_ble_eq_true rfl, Nat.le_of_ble_eq_true rfl⟩ rfl rfl (Nat.le_of_ble_eq_true rfl) d_X9_readMan_15 ?_
    refine z_if_ne C d_X9_readMan_18 (fun q8 => ?_) (fun q8 => ?_)
    · have h := o_f q8 h
      refine z_aload_n 2 C d_X9_readMan_23 rfl rfl ?_
      refine z_iload_n 0 C d_X9_readMan_24 rfl rfl ?_
      refine z_aload_n 1 C d_X9_readMan_25 rfl rfl ?_
      refine z_get (k := 8) (v := .int (p7.2.1 1 8)) C ((E_9 kx_1 G) _ _) (kU_in kx_1 (by decide)) rfl inX9 (by decide) wf_X9_137 rfl d_X9_readMan_26 ?_
      obtain ⟨p10, e9, h⟩ := o_bd h
      refine z_V (S := []) (As := [.int v4, .int (p7.2.1 1 8)]) C (c_X7_manOf l G ha1 e9) ((E_7 ha1 G) _ _) (kU_in ha1 (by decide)) rfl wc_X7_manOf wm_X9_168 ws_X7_manOf wl_X7_manOf wi_X7 hy_X7_manOf ⟨Nat.le_of_ble_eq_true rfl, Nat.le_of_ble_eq_true rfl⟩ rfl rfl (Nat.le_of_ble_eq_true rfl) d_X9_readMan_29 ?_
      refine z_astore_n (L' := [(3, .ref (gB G + p10)), (2, .int v4), (0, .ref (gB G + 1)), (1, .ref (gB G + a1))]) C d_X9_readMan_32 rfl (by decide) rfl ?_
      refine z_aload_n 0 C d_X9_readMan_33 rfl rfl ?_
      refine z_get (k := 0) (v := .int (p7.2.1 p10 0)) C ((E_6 (kr_X7_manOf ha1 e9) G) _ _) (kU_in (kr_X7_manOf ha1 e9) (by decide)) rfl inX6 (by decide) wf_X9_172 rfl d_X9_readMan_34 ?_
      refine z_if_eq C d_X9_readMan_37 (fun q11 => ?_) (fun q11 => ?_)
      · have h := o_t q11 h
        refine z_aload_n 0 C d_X9_readMan_50 rfl rfl ?_
        refine z_iconst (v := (1 : Int32)) C d_X9_readMan_51 (by decide) ?_
        obtain ⟨M12, e13, h⟩ := o_wr h
        refine z_pI (k := 0) (ty := .boolean) C (fun r q => (E_6 (kr_X7_manOf ha1 e9) G) r q) (fun _ _ => rfl) (kU_in (kr_X7_manOf ha1 e9) (by decide)) rfl inX6 tyX6 tyX6_ok nmX6 (by decide) wf_X9_172 rfl (by decide +kernel) (by decide) (by decide) (Nat.le_of_ble_eq_true rfl) d_X9_readMan_52 ?_
        refine z_nM e13 ?_
        refine z_aload_n 2 C d_X9_readMan_55 rfl rfl ?_
        refine z_aload_n 0 C d_X9_readMan_56 rfl rfl ?_
        obtain ⟨p16, e15, h⟩ := o_bd h
        refine z_V (S := []) (As := [.ref (gB G + p10)]) C (c_X9_readKind l G (kr_X7_manOf ha1 e9) e15) ((E_9 kx_1 G) _ _) (kU_in kx_1 (by decide)) rfl wc_X9_readKind wm_X9_178 ws_X9_readKind wl_X9_readKind wi_X9 hy_X9_readKind ⟨Nat.le_of_ble_eq_true rfl, Nat.le_of_ble_eq_true rfl⟩ rfl rfl (Nat.le_of_ble_eq_true rfl) d_X9_readMan_57 ?_
        refine z_if_eq C d_X9_readMan_60 (fun q17 => ?_) (fun q17 => ?_)
        · have h := o_t q17 h
          exact z_sub [] rfl (k_X9_readMan_83 C hlk hr h)
        · have h := o_f q17 h
          refine z_aload_n 2 C d_X9_readMan_63 rfl rfl ?_
          refine z_aload_n 0 C d_X9_readMan_64 rfl rfl ?_
          obtain ⟨p19, e18, h⟩ := o_bd h
          refine z_V (S := []) (As := [.ref (gB G + p10)]) C (c_X9_readParts l G (kr_X7_manOf ha1 e9) e18) ((E_9 kx_1 G) _ _) (kU_in kx_1 (by decide)) rfl wc_X9_readParts wm_X9_182 ws_X9_readParts wl_X9_readParts wi_X9 hy_X9_readParts ⟨Nat.le_of_ble_eq_true rfl, Nat.le_of_ble_eq_true rfl⟩ rfl rfl (Nat.le_of_ble_eq_true rfl) d_X9_readMan_65 ?_
          refine z_if_eq C d_X9_readMan_68 (fun q20 => ?_) (fun q20 => ?_)
          · have h := o_t q20 h
            exact z_sub [] rfl (k_X9_readMan_83 C hlk hr h)
          · have h := o_f q20 h
            refine z_aload_n 2 C d_X9_readMan_71 rfl rfl ?_
            refine z_aload_n 0 C d_X9_readMan_72 rfl rfl ?_
            obtain ⟨p22, e21, h⟩ := o_bd h
            refine z_V (S := []) (As := [.ref (gB G + p10)]) C (c_X9_readDress l G (kr_X7_manOf ha1 e9) e21) ((E_9 kx_1 G) _ _) (kU_in kx_1 (by decide)) rfl wc_X9_readDress wm_X9_185 ws_X9_readDress wl_X9_readDress wi_X9 hy_X9_readDress ⟨Nat.le_of_ble_eq_true rfl, Nat.le_of_ble_eq_true rfl⟩ rfl rfl (Nat.le_of_ble_eq_true rfl) d_X9_readMan_73 ?_
            refine z_if_eq C d_X9_readMan_76 (fun q23 => ?_) (fun q23 => ?_)
            · have h := o_t q23 h
              exact z_sub [] rfl (k_X9_readMan_83 C hlk hr h)
            · have h := o_f q23 h
              refine z_iconst (v := (1 : Int32)) C d_X9_readMan_79 (by decide) ?_
              refine z_goto C d_X9_readMan_80 ?_
              exact z_sub [] rfl (k_X9_readMan_84 C hlk hr h)
      · have h := o_f q11 h
        refine z_aload_n 2 C d_X9_readMan_40 rfl rfl ?_
        refine z_iconst (v := (4 : Int32)) C d_X9_readMan_41 (by decide) ?_
        refine z_aload_n 2 C d_X9_readMan_42 rfl rfl ?_
        refine z_get (k := 6) (v := .int (p7.2.1 1 6)) C ((E_9 kx_1 G) _ _) (kU_in kx_1 (by decide)) rfl inX9 (by decide) wf_X9_127 rfl d_X9_readMan_43 ?_
        obtain ⟨p25, e24, h⟩ := o_bd h
        refine z_V (S := []) (As := [.int (4 : Int32), .int (p7.2.1 1 6)]) C (c_X9_refuse l G e24) ((E_9 kx_1 G) _ _) (kU_in kx_1 (by decide)) rfl wc_X9_refuse wm_X9_60 ws_X9_refuse wl_X9_refuse wi_X9 hy_X9_refuse ⟨Nat.le_of_ble_eq_true rfl, Nat.le_of_ble_eq_true rfl⟩ rfl rfl (Nat.le_of_ble_eq_true rfl) d_X9_readMan_46 ?_
        obtain ⟨q26, h⟩ := o_ck h
        obtain ⟨rfl, rfl⟩ := o_pair h
        exact z_zret C hlk hr (isB_nar q26) d_X9_readMan_49
    · have h := o_t q8 h
      refine z_iconst (v := (0 : Int32)) C d_X9_readMan_21 (by decide) ?_
      obtain ⟨rfl, rfl⟩ := o_pair h
      exact z_zret C hlk hr (by decide) d_X9_readMan_22
  · have h := o_t q3 h
    refine z_iconst (v := (0 : Int32)) C d_X9_readMan_7 (by decide) ?_
    obtain ⟨rfl, rfl⟩ := o_pair h
    exact z_zret C hlk hr (by decide) d_X9_readMan_8
theorem c_X9_readMan (l : Launch) (G : GG) {M : Mm} {a1 : Nat} {r : Int32} {M2 : Mm} (ha1 : kU 0 a1 = 7) (h : f_X9_readMan M a1 = some (r, M2)) : CT l 0 G y_X9_readMan prog_11_method_11_code 4 (some .boolean) 7 184 [.ref (gB G + 1), .ref (gB G + a1)] M (some (.int r)) M2 :=
  CT.of (by decide +kernel) (Nat.le_of_ble_eq_true rfl) rfl (fun p e s m args below meth c C hlk hr => k_X9_readMan_0 C hlk hr ha1 h)
-- SnowSentries$Text.readBrazier(LSnowSentries$Braziers;)Z
set_option maxRecDepth 4000 in
theorem k_X9_readBrazier_0 {p : Program} {l : Launch} {e : Env} {s : State} {m : MethodId} {args : Array Value} {below : List Frame} {meth : Method} {c : Code} {G : GG} {M : Mm} {a1 : Nat} {r : Int32} {M2 : Mm} (C : CX p s m args c prog_11_method_15_code 5 "SnowSentries$Text" 0 G) (hlk : meth.locks = false) (hr : meth.sig.returnType = (some .boolean)) (ha1 : kU 0 a1 = 0) : f_X9_readBrazier M a1 = some (r, M2) → Z p l e { frames := 4, cells := 0, slots := 0, locals := 88 } s m args below meth c 0 G 5 (MQ below (QC 0 G (some (.int r)) M2) args s 0 0 (AU 0 G)) 0 [(0, .ref (gB G + 1)), (1, .ref (gB G + a1))] [] M := by
  intro h
  unfold f_X9_readBrazier at h
  refine z_aload_n 1 C d_X9_readBrazier_0 rfl rfl ?_
  obtain ⟨p2, e1, h⟩ := o_bd h
  refine z_V (S := []) (As := []) C (c_X0_isFull l G ha1 e1) ((E_0 ha1 G) _ _) (kU_in ha1 (by decide)) rfl wc_X0_isFull wm_X9_211 ws_X0_isFull wl_X0_isFull wi_X0 hy_X0_isFull ⟨Nat.le_of_ble_eq_true rfl, Nat.le_of_ble_eq_true rfl⟩ rfl rfl (Nat.le_of_ble_eq_true rfl) d_X9_readBrazier_1 ?_
  refine z_if_eq C d_X9_readBrazier_4 (fun q3 => ?_) (fun q3 => ?_)
  · have h := o_t q3 h
    refine z_aload_n 0 C d_X9_readBrazier_17 rfl rfl ?_
    obtain ⟨p5, e4, h⟩ := o_bd h
    refine z_V (S := []) (As := []) C (c_X9_readFurlong l G e4) ((E_9 kx_1 G) _ _) (kU_in kx_1 (by decide)) rfl wc_X9_readFurlong wm_X9_160 ws_X9_readFurlong wl_X9_readFurlong wi_X9 hy_X9_readFurlong ⟨Nat.le_of_ble_eq_true rfl, Nat.le_of_ble_eq_true rfl⟩ rfl rfl (Nat.le_of_ble_eq_true rfl) d_X9_readBrazier_18 ?_
    refine z_if_ne C d_X9_readBrazier_21 (fun q6 => ?_) (fun q6 => ?_)
    · have h := o_f q6 h
      refine z_aload_n 0 C d_X9_readBrazier_26 rfl rfl ?_
      refine z_get (k := 8) (v := .int (p5.2.1 1 8)) C ((E_9 kx_1 G) _ _) (kU_in kx_1 (by decide)) rfl inX9 (by decide) wf_X9_137 rfl d_X9_readBrazier_27 ?_
      obtain ⟨v7, e8, h⟩ := o_nm h
      refine z_nI e8 ?_
      refine z_istore_n (L' := [(2, .int v7), (0, .ref (gB G + 1)), (1, .ref (gB G + a1))]) C d_X9_readBrazier_30 rfl (by decide) rfl ?_
      refine z_aload_n 1 C d_X9_readBrazier_31 rfl rfl ?_
      refine z_iconst (v := (1 : Int32)) C d_X9_readBrazier_32 (by decide) ?_
      refine z_bipush (v := (20 : Int32)) C d_X9_readBrazier_33 (by decide) ?_
      obtain ⟨p10, e9, h⟩ := o_bd h
      refine z_V (S := []) (As := [.int (1 : Int32), .int (20 : Int32)]) C (c_X9_readNumber l G e9) ((E_9 kx_1 G) _ _) (kU_in kx_1 (by decide)) rfl wc_X9_readNumber wm_X9_134 ws_X9_readNumber wl_X9_readNumber wi_X9 hy_X9_readNumber ⟨Nat.le_of_ble_eq_true rfl, Nat.le_of_ble_eq_true rfl⟩ rfl rfl (Nat.le_of_ble_eq_true rfl) d_X9_readBrazier_35 ?_
      refine z_if_ne C d_X9_readBrazier_38 (fun q11 => ?_) (fun q11 => ?_)
      · have h := o_f q11 h
        refine z_aload_n 1 C d_X9_readBrazier_43 rfl rfl ?_
        refine z_get (k := 8) (v := .int (p10.2.1 1 8)) C ((E_9 kx_1 G) _ _) (kU_in kx_1 (by decide)) rfl inX9 (by decide) wf_X9_137 rfl d_X9_readBrazier_44 ?_
        obtain ⟨v12, e13, h⟩ := o_nm h
        refine z_nI e13 ?_
        refine z_istore_n (L' := [(3, .int v12), (2, .int v7), (0, .ref (gB G + 1)), (1, .ref (gB G + a1))]) C d_X9_readBrazier_47 rfl (by decide) rfl ?_
        refine z_aload_n 2 C d_X9_readBrazier_48 rfl rfl ?_
        refine z_iconst (v := (0 : Int32)) C d_X9_readBrazier_49 (by decide) ?_
        refine z_bipush (v := (11 : Int32)) C d_X9_readBrazier_50 (by decide) ?_
        obtain ⟨p15, e14, h⟩ := o_bd h
        refine z_V (S := []) (As := [.int (0 : Int32), .int (11 : Int32)]) C (c_X9_readNumber l G e14) ((E_9 kx_1 G) _ _) (kU_in kx_1 (by decide)) rfl wc_X9_readNumber wm_X9_134 ws_X9_readNumber wl_X9_readNumber wi_X9 hy_X9_readNumber ⟨Nat.le_of_ble_eq_true rfl, Nat.le_of_ble_eq_true rfl⟩ rfl rfl (Nat.le_of_ble_eq_true rfl) d_X9_readBrazier_52 ?_
        refine z_if_ne C d_X9_readBrazier_55 (fun q16 => ?_) (fun q16 => ?_)
        · have h := o_f q16 h
          refine z_aload_n 2 C d_X9_readBrazier_60 rfl rfl ?_
          refine z_get (k := 8) (v := .int (p15.2.1 1 8)) C ((E_9 kx_1 G) _ _) (kU_in kx_1 (by decide)) rfl inX9 (by decide) wf_X9_137 rfl d_X9_readBrazier_61 ?_
          obtain ⟨v17, e18, h⟩ := o_nm h
          refine z_nI e18 ?_
          refine z_istore (L' := [(4, .int v17), (3, .int v12), (2, .int v7), (0, .ref (gB G + 1)), (1, .ref (gB G + a1))]) C d_X9_readBrazier_64 (by decide) rfl ?_
          refine z_aload_n 3 C d_X9_readBrazier_66 rfl rfl ?_
          refine z_iload 0 C d_X9_readBrazier_67 rfl ?_
          refine z_bipush (v := (11 : Int32)) C d_X9_readBrazier_69 (by decide) ?_
          obtain ⟨p20, e19, h⟩ := o_bd h
          refine z_V (S := []) (As := [.int v17, .int (11 : Int32)]) C (c_X9_readNumber l G e19) ((E_9 kx_1 G) _ _) (kU_in kx_1 (by decide)) rfl wc_X9_readNumber wm_X9_134 ws_X9_readNumber wl_X9_readNumber wi_X9 hy_X9_readNumber ⟨Nat.le_of_ble_eq_true rfl, Nat.le_of_ble_eq_true rfl⟩ rfl rfl (Nat.le_of_ble_eq_true rfl) d_X9_readBrazier_71 ?_
          refine z_if_ne C d_X9_readBrazier_74 (fun q21 => ?_) (fun q21 => ?_)
          · have h := o_f q21 h
            refine z_aload_n 4 C d_X9_readBrazier_79 rfl rfl ?_
            refine z_iload_n 2 C d_X9_readBrazier_80 rfl rfl ?_
            refine z_iload_n 1 C d_X9_readBrazier_81 rfl rfl ?_
            refine z_iload 0 C d_X9_readBrazier_82 rfl ?_
            refine z_aload_n 3 C d_X9_readBrazier_84 rfl rfl ?_
            refine z_get (k := 8) (v := .int (p20.2.1 1 8)) C ((E_9 kx_1 G) _ _) (kU_in kx_1 (by decide)) rfl inX9 (by decide) wf_X9_137 rfl d_X9_readBrazier_85 ?_
            obtain ⟨p23, e22, h⟩ := o_bd h
            refine z_V (S := []) (As := [.int v7, .int v12, .int v17, .int (p20.2.1 1 8)]) C (c_X0_put l G ha1 e22) ((E_0 ha1 G) _ _) (kU_in ha1 (by decide)) rfl wc_X0_put wm_X9_216 ws_X0_put wl_X0_put wi_X0 hy_X0_put ⟨Nat.le_of_ble_eq_true rfl, Nat.le_of_ble_eq_true rfl⟩ rfl rfl (Nat.le_of_ble_eq_true rfl) d_X9_readBrazier_88 ?_
            refine z_aload_n 3 C d_X9_readBrazier_91 rfl rfl ?_
            obtain ⟨p25, e24, h⟩ := o_bd h
            refine z_V (S := []) (As := []) C (c_X9_readSemicolon l G e24) ((E_9 kx_1 G) _ _) (kU_in kx_1 (by decide)) rfl wc_X9_readSemicolon wm_X9_140 ws_X9_readSemicolon wl_X9_readSemicolon wi_X9 hy_X9_readSemicolon ⟨Nat.le_of_ble_eq_true rfl, Nat.le_of_ble_eq_true rfl⟩ rfl rfl (Nat.le_of_ble_eq_true rfl) d_X9_readBrazier_92 ?_
            obtain ⟨q26, h⟩ := o_ck h
            obtain ⟨rfl, rfl⟩ := o_pair h
            exact z_zret C hlk hr (isB_nar q26) d_X9_readBrazier_95
          · have h := o_t q21 h
            refine z_iconst (v := (0 : Int32)) C d_X9_readBrazier_77 (by decide) ?_
            obtain ⟨rfl, rfl⟩ := o_pair h
            exact z_zret C hlk hr (by decide) d_X9_readBrazier_78
        · have h := o_t q16 h
          refine z_iconst (v := (0 : Int32)) C d_X9_readBrazier_58 (by decide) ?_
          obtain ⟨rfl, rfl⟩ := o_pair h
          exact z_zret C hlk hr (by decide) d_X9_readBrazier_59
      · have h := o_t q11 h
        refine z_iconst (v := (0 : Int32)) C d_X9_readBrazier_41 (by decide) ?_
        obtain ⟨rfl, rfl⟩ := o_pair h
        exact z_zret C hlk hr (by decide) d_X9_readBrazier_42
    · have h := o_t q6 h
      refine z_iconst (v := (0 : Int32)) C d_X9_readBrazier_24 (by decide) ?_
      obtain ⟨rfl, rfl⟩ := o_pair h
      exact z_zret C hlk hr (by decide) d_X9_readBrazier_25
  · have h := o_f q3 h
    refine z_aload_n 0 C d_X9_readBrazier_7 rfl rfl ?_
    refine z_iconst (v := (5 : Int32)) C d_X9_readBrazier_8 (by decide) ?_
    refine z_aload_n 0 C d_X9_readBrazier_9 rfl rfl ?_
    refine z_get (k := 6) (v := .int (M.1 1 6)) C ((E_9 kx_1 G) _ _) (kU_in kx_1 (by decide)) rfl inX9 (by decide) wf_X9_127 rfl d_X9_readBrazier_10 ?_
    obtain ⟨p28, e27, h⟩ := o_bd h
    refine z_V (S := []) (As := [.int (5 : Int32), .int (M.1 1 6)]) C (c_X9_refuse l G e27) ((E_9 kx_1 G) _ _) (kU_in kx_1 (by decide)) rfl wc_X9_refuse wm_X9_60 ws_X9_refuse wl_X9_refuse wi_X9 hy_X9_refuse ⟨Nat.le_of_ble_eq_true rfl, Nat.le_of_ble_eq_true rfl⟩ rfl rfl (Nat.le_of_ble_eq_true rfl) d_X9_readBrazier_13 ?_
    obtain ⟨q29, h⟩ := o_ck h
    obtain ⟨rfl, rfl⟩ := o_pair h
    exact z_zret C hlk hr (isB_nar q29) d_X9_readBrazier_16
theorem c_X9_readBrazier (l : Launch) (G : GG) {M : Mm} {a1 : Nat} {r : Int32} {M2 : Mm} (ha1 : kU 0 a1 = 0) (h : f_X9_readBrazier M a1 = some (r, M2)) : CT l 0 G y_X9_readBrazier prog_11_method_15_code 5 (some .boolean) 4 88 [.ref (gB G + 1), .ref (gB G + a1)] M (some (.int r)) M2 :=
  CT.of (by decide +kernel) (Nat.le_of_ble_eq_true rfl) rfl (fun p e s m args below meth c C hlk hr => k_X9_readBrazier_0 C hlk hr ha1 h)
-- SnowSentries$Text.readHouse(LSnowSentries$Land;)Z
set_option maxRecDepth 4000 in
theorem k_X9_readHouse_74 {p : Program} {l : Launch} {e : Env} {s : State} {m : MethodId} {args : Array Value} {below : List Frame} {meth : Method} {c : Code} {G : GG} {M : Mm} {b_0 : Nat} {s_1 : Int32} {s_2 : Int32} {r : Int32} {M2 : Mm} (C : CX p s m args c prog_11_method_16_code 4 "SnowSentries$Text" 0 G) (hlk : meth.locks = false) (hr : meth.sig.returnType = (some .boolean)) (hb_0 : kU 0 b_0 = 4) : f_X9_readHouse_74 M b_0 s_1 s_2 = some (r, M2) → Z p l e { frames := 7, cells := 0, slots := 0, locals := 183 } s m args below meth c 0 G 4 (MQ below (QC 0 G (some (.int r)) M2) args s 0 0 (AU 0 G)) 74 [(0, .ref (gB G + 1))] [.int s_2, .int s_1, .ref (gB G + b_0)] M := by
  intro h
  unfold f_X9_readHouse_74 at h
  obtain ⟨p2, e1, h⟩ := o_bd h
  refine z_V (S := []) (As := [.int s_1, .int s_2]) C (c_X4_putHouse l G hb_0 e1) ((E_4 hb_0 G) _ _) (kU_in hb_0 (by decide)) rfl wc_X4_putHouse wm_X9_223 ws_X4_putHouse wl_X4_putHouse wi_X4 hy_X4_putHouse ⟨Nat.le_of_ble_eq_true rfl, Nat.le_of_ble_eq_true rfl⟩ rfl rfl (Nat.le_of_ble_eq_true rfl) d_X9_readHouse_74 ?_
  refine z_aload_n 0 C d_X9_readHouse_77 rfl rfl ?_
  obtain ⟨p4, e3, h⟩ := o_bd h
  refine z_V (S := []) (As := []) C (c_X9_readSemicolon l G e3) ((E_9 kx_1 G) _ _) (kU_in kx_1 (by decide)) rfl wc_X9_readSemicolon wm_X9_140 ws_X9_readSemicolon wl_X9_readSemicolon wi_X9 hy_X9_readSemicolon ⟨Nat.le_of_ble_eq_true rfl, Nat.le_of_ble_eq_true rfl⟩ rfl rfl (Nat.le_of_ble_eq_true rfl) d_X9_readHouse_78 ?_
  obtain ⟨q5, h⟩ := o_ck h
  obtain ⟨rfl, rfl⟩ := o_pair h
  exact z_zret C hlk hr (isB_nar q5) d_X9_readHouse_81
set_option maxRecDepth 4000 in
theorem k_X9_readHouse_0 {p : Program} {l : Launch} {e : Env} {s : State} {m : MethodId} {args : Array Value} {below : List Frame} {meth : Method} {c : Code} {G : GG} {M : Mm} {a1 : Nat} {r : Int32} {M2 : Mm} (C : CX p s m args c prog_11_method_16_code 4 "SnowSentries$Text" 0 G) (hlk : meth.locks = false) (hr : meth.sig.returnType = (some .boolean)) (ha1 : kU 0 a1 = 4) : f_X9_readHouse M a1 = some (r, M2) → Z p l e { frames := 7, cells := 0, slots := 0, locals := 183 } s m args below meth c 0 G 4 (MQ below (QC 0 G (some (.int r)) M2) args s 0 0 (AU 0 G)) 0 [(0, .ref (gB G + 1)), (1, .ref (gB G + a1))] [] M := by
  intro h
  unfold f_X9_readHouse at h
  refine z_aload_n 1 C d_X9_readHouse_0 rfl rfl ?_
  refine z_get (k := 4) (v := .int (M.1 a1 4)) C ((E_4 ha1 G) _ _) (kU_in ha1 (by decide)) rfl inX4 (by decide) wf_X9_220 rfl d_X9_readHouse_1 ?_
  refine z_bipush (v := (8 : Int32)) C d_X9_readHouse_4 (by decide) ?_
  refine z_icmp_lt C d_X9_readHouse_6 (fun q1 => ?_) (fun q1 => ?_)
  · have h := o_t q1 h
    refine z_aload_n 0 C d_X9_readHouse_19 rfl rfl ?_
    obtain ⟨p3, e2, h⟩ := o_bd h
    refine z_V (S := []) (As := []) C (c_X9_readFurlong l G e2) ((E_9 kx_1 G) _ _) (kU_in kx_1 (by decide)) rfl wc_X9_readFurlong wm_X9_160 ws_X9_readFurlong wl_X9_readFurlong wi_X9 hy_X9_readFurlong ⟨Nat.le_of_ble_eq_true rfl, Nat.le_of_ble_eq_true rfl⟩ rfl rfl (Nat.le_of_ble_eq_true rfl) d_X9_readHouse_20 ?_
    refine z_if_ne C d_X9_readHouse_23 (fun q4 => ?_) (fun q4 => ?_)
    · have h := o_f q4 h
      refine z_aload_n 0 C d_X9_readHouse_28 rfl rfl ?_
      refine z_get (k := 8) (v := .int (p3.2.1 1 8)) C ((E_9 kx_1 G) _ _) (kU_in kx_1 (by decide)) rfl inX9 (by decide) wf_X9_137 rfl d_X9_readHouse_29 ?_
      obtain ⟨v5, e6, h⟩ := o_nm h
      refine z_nI e6 ?_
      refine z_istore_n (L' := [(2, .int v5), (0, .ref (gB G + 1)), (1, .ref (gB G + a1))]) C d_X9_readHouse_32 rfl (by decide) rfl ?_
      refine z_aload_n 1 C d_X9_readHouse_33 rfl rfl ?_
      refine z_iconst (v := (0 : Int32)) C d_X9_readHouse_34 (by decide) ?_
      refine z_bipush (v := (9 : Int32)) C d_X9_readHouse_35 (by decide) ?_
      obtain ⟨p8, e7, h⟩ := o_bd h
      refine z_V (S := []) (As := [.int (0 : Int32), .int (9 : Int32)]) C (c_X9_readNumber l G e7) ((E_9 kx_1 G) _ _) (kU_in kx_1 (by decide)) rfl wc_X9_readNumber wm_X9_134 ws_X9_readNumber wl_X9_readNumber wi_X9 hy_X9_readNumber ⟨Nat.le_of_ble_eq_true rfl, Nat.le_of_ble_eq_true rfl⟩ rfl rfl (Nat.le_of_ble_eq_true rfl) d_X9_readHouse_37 ?_
      refine z_if_ne C d_X9_readHouse_40 (fun q9 => ?_) (fun q9 => ?_)
      · have h := o_f q9 h
        refine z_aload_n 1 C d_X9_readHouse_45 rfl rfl ?_
        refine z_get (k := 8) (v := .int (p8.2.1 1 8)) C ((E_9 kx_1 G) _ _) (kU_in kx_1 (by decide)) rfl inX9 (by decide) wf_X9_137 rfl d_X9_readHouse_46 ?_
        obtain ⟨v10, e11, h⟩ := o_nm h
        refine z_nI e11 ?_
        refine z_istore_n (L' := [(3, .int v10), (2, .int v5), (0, .ref (gB G + 1)), (1, .ref (gB G + a1))]) C d_X9_readHouse_49 rfl (by decide) rfl ?_
        refine z_aload_n 2 C d_X9_readHouse_50 rfl rfl ?_
        obtain ⟨p13, e12, h⟩ := o_bd h
        refine z_V (S := []) (As := []) C (c_X9_readSide l G e12) ((E_9 kx_1 G) _ _) (kU_in kx_1 (by decide)) rfl wc_X9_readSide wm_X9_165 ws_X9_readSide wl_X9_readSide wi_X9 hy_X9_readSide ⟨Nat.le_of_ble_eq_true rfl, Nat.le_of_ble_eq_true rfl⟩ rfl rfl (Nat.le_of_ble_eq_true rfl) d_X9_readHouse_51 ?_
        refine z_if_ne C d_X9_readHouse_54 (fun q14 => ?_) (fun q14 => ?_)
        · have h := o_f q14 h
          refine z_aload_n 3 C d_X9_readHouse_59 rfl rfl ?_
          refine z_iload_n 1 C d_X9_readHouse_60 rfl rfl ?_
          refine z_aload_n 2 C d_X9_readHouse_61 rfl rfl ?_
          refine z_get (k := 8) (v := .int (p13.2.1 1 8)) C ((E_9 kx_1 G) _ _) (kU_in kx_1 (by decide)) rfl inX9 (by decide) wf_X9_137 rfl d_X9_readHouse_62 ?_
          refine z_if_ne C d_X9_readHouse_65 (fun q15 => ?_) (fun q15 => ?_)
          · have h := o_f q15 h
            refine z_iload_n 0 C d_X9_readHouse_73 rfl rfl ?_
            exact z_sub [2] rfl (k_X9_readHouse_74 C hlk hr ha1 h)
          · have h := o_t q15 h
            refine z_iload_n 0 C d_X9_readHouse_68 rfl rfl ?_
            refine z_ineg C d_X9_readHouse_69 ?_
            refine z_goto C d_X9_readHouse_70 ?_
            exact z_sub [2] rfl (k_X9_readHouse_74 C hlk hr ha1 h)
        · have h := o_t q14 h
          refine z_iconst (v := (0 : Int32)) C d_X9_readHouse_57 (by decide) ?_
          obtain ⟨rfl, rfl⟩ := o_pair h
          exact z_zret C hlk hr (by decide) d_X9_readHouse_58
      · have h := o_t q9 h
        refine z_iconst (v := (0 : Int32)) C d_X9_readHouse_43 (by decide) ?_
        obtain ⟨rfl, rfl⟩ := o_pair h
        exact z_zret C hlk hr (by decide) d_X9_readHouse_44
    · have h := o_t q4 h
      refine z_iconst (v := (0 : Int32)) C d_X9_readHouse_26 (by decide) ?_
      obtain ⟨rfl, rfl⟩ := o_pair h
      exact z_zret C hlk hr (by decide) d_X9_readHouse_27
  · have h := o_f q1 h
    refine z_aload_n 0 C d_X9_readHouse_9 rfl rfl ?_
    refine z_iconst (v := (5 : Int32)) C d_X9_readHouse_10 (by decide) ?_
    refine z_aload_n 0 C d_X9_readHouse_11 rfl rfl ?_
    refine z_get (k := 6) (v := .int (M.1 1 6)) C ((E_9 kx_1 G) _ _) (kU_in kx_1 (by decide)) rfl inX9 (by decide) wf_X9_127 rfl d_X9_readHouse_12 ?_
    obtain ⟨p17, e16, h⟩ := o_bd h
    refine z_V (S := []) (As := [.int (5 : Int32), .int (M.1 1 6)]) C (c_X9_refuse l G e16) ((E_9 kx_1 G) _ _) (kU_in kx_1 (by decide)) rfl wc_X9_refuse wm_X9_60 ws_X9_refuse wl_X9_refuse wi_X9 hy_X9_refuse ⟨Nat.le_of_ble_eq_true rfl, Nat.le_of_ble_eq_true rfl⟩ rfl rfl (Nat.le_of_ble_eq_true rfl) d_X9_readHouse_15 ?_
    obtain ⟨q18, h⟩ := o_ck h
    obtain ⟨rfl, rfl⟩ := o_pair h
    exact z_zret C hlk hr (isB_nar q18) d_X9_readHouse_18
theorem c_X9_readHouse (l : Launch) (G : GG) {M : Mm} {a1 : Nat} {r : Int32} {M2 : Mm} (ha1 : kU 0 a1 = 4) (h : f_X9_readHouse M a1 = some (r, M2)) : CT l 0 G y_X9_readHouse prog_11_method_16_code 4 (some .boolean) 7 183 [.ref (gB G + 1), .ref (gB G + a1)] M (some (.int r)) M2 :=
  CT.of (by decide +kernel) (Nat.le_of_ble_eq_true rfl) rfl (fun p e s m args below meth c C hlk hr => k_X9_readHouse_0 C hlk hr ha1 h)
-- SnowSentries$Text.readLine(LSnowSentries$Land;)Z
set_option maxRecDepth 4000 in
theorem k_X9_readLine_0 {p : Program} {l : Launch} {e : Env} {s : State} {m : MethodId} {args : Array Value} {below : List Frame} {meth : Method} {c : Code} {G : GG} {M : Mm} {a1 : Nat} {r : Int32} {M2 : Mm} (C : CX p s m args c prog_11_method_6_code 2 "SnowSentries$Text" 0 G) (hlk : meth.locks = false) (hr : meth.sig.returnType = (some .boolean)) (ha1 : kU 0 a1 = 4) : f_X9_readLine M a1 = some (r, M2) → Z p l e { frames := 8, cells := 0, slots := 0, locals := 207 } s m args below meth c 0 G 2 (MQ below (QC 0 G (some (.int r)) M2) args s 0 0 (AU 0 G)) 0 [(0, .ref (gB G + 1)), (1, .ref (gB G + a1))] [] M := by
  intro h
  unfold f_X9_readLine at h
  refine z_aload_n 0 C d_X9_readLine_0 rfl rfl ?_
  refine z_ldcS (i := 0) C (by decide) rfl d_X9_readLine_1 ?_
  obtain ⟨p2, e1, h⟩ := o_bd h
  refine z_V (S := []) (As := [.ref (gK G 0)]) C (c_X9_isNamed l G (by decide) e1) ((E_9 kx_1 G) _ _) (kU_in kx_1 (by decide)) rfl wc_X9_isNamed wm_X9_65 ws_X9_isNamed wl_X9_isNamed wi_X9 hy_X9_isNamed ⟨Nat.le_of_ble_eq_true rfl, Nat.le_of_ble_eq_true rfl⟩ rfl rfl (Nat.le_of_ble_eq_true rfl) d_X9_readLine_3 ?_
  refine z_if_eq C d_X9_readLine_6 (fun q3 => ?_) (fun q3 => ?_)
  · have h := o_t q3 h
    refine z_aload_n 0 C d_X9_readLine_15 rfl rfl ?_
    refine z_ldcS (i := 1) C (by decide) rfl d_X9_readLine_16 ?_
    obtain ⟨p5, e4, h⟩ := o_bd h
    refine z_V (S := []) (As := [.ref (gK G 1)]) C (c_X9_isNamed l G (by decide) e4) ((E_9 kx_1 G) _ _) (kU_in kx_1 (by decide)) rfl wc_X9_isNamed wm_X9_65 ws_X9_isNamed wl_X9_isNamed wi_X9 hy_X9_isNamed ⟨Nat.le_of_ble_eq_true rfl, Nat.le_of_ble_eq_true rfl⟩ rfl rfl (Nat.le_of_ble_eq_true rfl) d_X9_readLine_18 ?_
    refine z_if_eq C d_X9_readLine_21 (fun q6 => ?_) (fun q6 => ?_)
    · have h := o_t q6 h
      refine z_aload_n 0 C d_X9_readLine_39 rfl rfl ?_
      refine z_ldcS (i := 2) C (by decide) rfl d_X9_readLine_40 ?_
      obtain ⟨p8, e7, h⟩ := o_bd h
      refine z_V (S := []) (As := [.ref (gK G 2)]) C (c_X9_isNamed l G (by decide) e7) ((E_9 kx_1 G) _ _) (kU_in kx_1 (by decide)) rfl wc_X9_isNamed wm_X9_65 ws_X9_isNamed wl_X9_isNamed wi_X9 hy_X9_isNamed ⟨Nat.le_of_ble_eq_true rfl, Nat.le_of_ble_eq_true rfl⟩ rfl rfl (Nat.le_of_ble_eq_true rfl) d_X9_readLine_42 ?_
      refine z_if_eq C d_X9_readLine_45 (fun q9 => ?_) (fun q9 => ?_)
      · have h := o_t q9 h
        refine z_aload_n 0 C d_X9_readLine_60 rfl rfl ?_
        refine z_ldcS (i := 3) C (by decide) rfl d_X9_readLine_61 ?_
        obtain ⟨p11, e10, h⟩ := o_bd h
        refine z_V (S := []) (As := [.ref (gK G 3)]) C (c_X9_isNamed l G (by decide) e10) ((E_9 kx_1 G) _ _) (kU_in kx_1 (by decide)) rfl wc_X9_isNamed wm_X9_65 ws_X9_isNamed wl_X9_isNamed wi_X9 hy_X9_isNamed ⟨Nat.le_of_ble_eq_true rfl, Nat.le_of_ble_eq_true rfl⟩ rfl rfl (Nat.le_of_ble_eq_true rfl) d_X9_readLine_63 ?_
        refine z_if_eq C d_X9_readLine_66 (fun q12 => ?_) (fun q12 => ?_)
        · have h := o_t q12 h
          refine z_aload_n 0 C d_X9_readLine_78 rfl rfl ?_
          refine z_ldcS (i := 4) C (by decide) rfl d_X9_readLine_79 ?_
          obtain ⟨p14, e13, h⟩ := o_bd h
          refine z_V (S := []) (As := [.ref (gK G 4)]) C (c_X9_isNamed l G (by decide) e13) ((E_9 kx_1 G) _ _) (kU_in kx_1 (by decide)) rfl wc_X9_isNamed wm_X9_65 ws_X9_isNamed wl_X9_isNamed wi_X9 hy_X9_isNamed ⟨Nat.le_of_ble_eq_true rfl, Nat.le_of_ble_eq_true rfl⟩ rfl rfl (Nat.le_of_ble_eq_true rfl) d_X9_readLine_81 ?_
          refine z_if_eq C d_X9_readLine_84 (fun q15 => ?_) (fun q15 => ?_)
          · have h := o_t q15 h
            refine z_aload_n 0 C d_X9_readLine_96 rfl rfl ?_
            refine z_ldcS (i := 5) C (by decide) rfl d_X9_readLine_97 ?_
            obtain ⟨p17, e16, h⟩ := o_bd h
            refine z_V (S := []) (As := [.ref (gK G 5)]) C (c_X9_isNamed l G (by decide) e16) ((E_9 kx_1 G) _ _) (kU_in kx_1 (by decide)) rfl wc_X9_isNamed wm_X9_65 ws_X9_isNamed wl_X9_isNamed wi_X9 hy_X9_isNamed ⟨Nat.le_of_ble_eq_true rfl, Nat.le_of_ble_eq_true rfl⟩ rfl rfl (Nat.le_of_ble_eq_true rfl) d_X9_readLine_99 ?_
            refine z_if_eq C d_X9_readLine_102 (fun q18 => ?_) (fun q18 => ?_)
            · have h := o_t q18 h
              refine z_aload_n 0 C d_X9_readLine_114 rfl rfl ?_
              refine z_ldcS (i := 6) C (by decide) rfl d_X9_readLine_115 ?_
              obtain ⟨p20, e19, h⟩ := o_bd h
              refine z_V (S := []) (As := [.ref (gK G 6)]) C (c_X9_isNamed l G (by decide) e19) ((E_9 kx_1 G) _ _) (kU_in kx_1 (by decide)) rfl wc_X9_isNamed wm_X9_65 ws_X9_isNamed wl_X9_isNamed wi_X9 hy_X9_isNamed ⟨Nat.le_of_ble_eq_true rfl, Nat.le_of_ble_eq_true rfl⟩ rfl rfl (Nat.le_of_ble_eq_true rfl) d_X9_readLine_117 ?_
              refine z_if_eq C d_X9_readLine_120 (fun q21 => ?_) (fun q21 => ?_)
              · have h := o_t q21 h
                refine z_aload_n 0 C d_X9_readLine_135 rfl rfl ?_
                refine z_ldcS (i := 7) C (by decide) rfl d_X9_readLine_136 ?_
                obtain ⟨p23, e22, h⟩ := o_bd h
                refine z_V (S := []) (As := [.ref (gK G 7)]) C (c_X9_isNamed l G (by decide) e22) ((E_9 kx_1 G) _ _) (kU_in kx_1 (by decide)) rfl wc_X9_isNamed wm_X9_65 ws_X9_isNamed wl_X9_isNamed wi_X9 hy_X9_isNamed ⟨Nat.le_of_ble_eq_true rfl, Nat.le_of_ble_eq_true rfl⟩ rfl rfl (Nat.le_of_ble_eq_true rfl) d_X9_readLine_138 ?_
                refine z_if_eq C d_X9_readLine_141 (fun q24 => ?_) (fun q24 => ?_)
                · have h := o_t q24 h
                  refine z_aload_n 0 C d_X9_readLine_150 rfl rfl ?_
                  refine z_iconst (v := (2 : Int32)) C d_X9_readLine_151 (by decide) ?_
                  refine z_aload_n 0 C d_X9_readLine_152 rfl rfl ?_
                  refine z_get (k := 6) (v := .int (M.1 1 6)) C ((E_9 kx_1 G) _ _) (kU_in kx_1 (by decide)) rfl inX9 (by decide) wf_X9_127 rfl d_X9_readLine_153 ?_
                  obtain ⟨p26, e25, h⟩ := o_bd h
                  refine z_V (S := []) (As := [.int (2 : Int32), .int (M.1 1 6)]) C (c_X9_refuse l G e25) ((E_9 kx_1 G) _ _) (kU_in kx_1 (by decide)) rfl wc_X9_refuse wm_X9_60 ws_X9_refuse wl_X9_refuse wi_X9 hy_X9_refuse ⟨Nat.le_of_ble_eq_true rfl, Nat.le_of_ble_eq_true rfl⟩ rfl rfl (Nat.le_of_ble_eq_true rfl) d_X9_readLine_156 ?_
                  obtain ⟨q27, h⟩ := o_ck h
                  obtain ⟨rfl, rfl⟩ := o_pair h
                  exact z_zret C hlk hr (isB_nar q27) d_X9_readLine_159
                · have h := o_f q24 h
                  refine z_aload_n 0 C d_X9_readLine_144 rfl rfl ?_
                  refine z_aload_n 1 C d_X9_readLine_145 rfl rfl ?_
                  obtain ⟨p29, e28, h⟩ := o_bd h
                  refine z_V (S := []) (As := [.ref (gB G + a1)]) C (c_X9_readHouse l G ha1 e28) ((E_9 kx_1 G) _ _) (kU_in kx_1 (by decide)) rfl wc_X9_readHouse wm_X9_124 ws_X9_readHouse wl_X9_readHouse wi_X9 hy_X9_readHouse ⟨Nat.le_of_ble_eq_true rfl, Nat.le_of_ble_eq_true rfl⟩ rfl rfl (Nat.le_of_ble_eq_true rfl) d_X9_readLine_146 ?_
                  obtain ⟨q30, h⟩ := o_ck h
                  obtain ⟨rfl, rfl⟩ := o_pair h
                  exact z_zret C hlk hr (isB_nar q30) d_X9_readLine_149
              · have h := o_f q21 h
                refine z_aload_n 0 C d_X9_readLine_123 rfl rfl ?_
                refine z_aload_n 1 C d_X9_readLine_124 rfl rfl ?_
                refine z_get (k := 7) (v := .ref (gB G + (a1 + 5))) C ((E_4 ha1 G) _ _) (kU_in ha1 (by decide)) rfl inX4 (by decide) wf_X9_74 rfl d_X9_readLine_125 ?_
                refine z_get (k := 6) (v := .ref (gB G + ((a1 + 5) + 6))) C ((E_7 (k_4_7 ha1) G) _ _) (kU_in (k_4_7 ha1) (by decide)) rfl inX7 (by decide) wf_X9_114 rfl d_X9_readLine_128 ?_
                obtain ⟨p32, e31, h⟩ := o_bd h
                refine z_V (S := []) (As := [.ref (gB G + ((a1 + 5) + 6))]) C (c_X9_readBrazier l G (k_7_6 (k_4_7 ha1)) e31) ((E_9 kx_1 G) _ _) (kU_in kx_1 (by decide)) rfl wc_X9_readBrazier wm_X9_118 ws_X9_readBrazier wl_X9_readBrazier wi_X9 hy_X9_readBrazier ⟨Nat.le_of_ble_eq_true rfl, Nat.le_of_ble_eq_true rfl⟩ rfl rfl (Nat.le_of_ble_eq_true rfl) d_X9_readLine_131 ?_
                obtain ⟨q33, h⟩ := o_ck h
                obtain ⟨rfl, rfl⟩ := o_pair h
                exact z_zret C hlk hr (isB_nar q33) d_X9_readLine_134
            · have h := o_f q18 h
              refine z_aload_n 0 C d_X9_readLine_105 rfl rfl ?_
              refine z_aload_n 1 C d_X9_readLine_106 rfl rfl ?_
              refine z_get (k := 7) (v := .ref (gB G + (a1 + 5))) C ((E_4 ha1 G) _ _) (kU_in ha1 (by decide)) rfl inX4 (by decide) wf_X9_74 rfl d_X9_readLine_107 ?_
              obtain ⟨p35, e34, h⟩ := o_bd h
              refine z_V (S := []) (As := [.ref (gB G + (a1 + 5))]) C (c_X9_readMan l G (k_4_7 ha1) e34) ((E_9 kx_1 G) _ _) (kU_in kx_1 (by decide)) rfl wc_X9_readMan wm_X9_109 ws_X9_readMan wl_X9_readMan wi_X9 hy_X9_readMan ⟨Nat.le_of_ble_eq_true rfl, Nat.le_of_ble_eq_true rfl⟩ rfl rfl (Nat.le_of_ble_eq_true rfl) d_X9_readLine_110 ?_
              obtain ⟨q36, h⟩ := o_ck h
              obtain ⟨rfl, rfl⟩ := o_pair h
              exact z_zret C hlk hr (isB_nar q36) d_X9_readLine_113
          · have h := o_f q15 h
            refine z_aload_n 0 C d_X9_readLine_87 rfl rfl ?_
            refine z_aload_n 1 C d_X9_readLine_88 rfl rfl ?_
            refine z_get (k := 7) (v := .ref (gB G + (a1 + 5))) C ((E_4 ha1 G) _ _) (kU_in ha1 (by decide)) rfl inX4 (by decide) wf_X9_74 rfl d_X9_readLine_89 ?_
            obtain ⟨p38, e37, h⟩ := o_bd h
            refine z_V (S := []) (As := [.ref (gB G + (a1 + 5))]) C (c_X9_readSnow l G (k_4_7 ha1) e37) ((E_9 kx_1 G) _ _) (kU_in kx_1 (by decide)) rfl wc_X9_readSnow wm_X9_103 ws_X9_readSnow wl_X9_readSnow wi_X9 hy_X9_readSnow ⟨Nat.le_of_ble_eq_true rfl, Nat.le_of_ble_eq_true rfl⟩ rfl rfl (Nat.le_of_ble_eq_true rfl) d_X9_readLine_92 ?_
            obtain ⟨q39, h⟩ := o_ck h
            obtain ⟨rfl, rfl⟩ := o_pair h
            exact z_zret C hlk hr (isB_nar q39) d_X9_readLine_95
        · have h := o_f q12 h
          refine z_aload_n 0 C d_X9_readLine_69 rfl rfl ?_
          refine z_aload_n 1 C d_X9_readLine_70 rfl rfl ?_
          refine z_get (k := 3) (v := .ref (gB G + (a1 + 2))) C ((E_4 ha1 G) _ _) (kU_in ha1 (by decide)) rfl inX4 (by decide) wf_X9_93 rfl d_X9_readLine_71 ?_
          obtain ⟨p41, e40, h⟩ := o_bd h
          refine z_V (S := []) (As := [.ref (gB G + (a1 + 2))]) C (c_X9_readTreaty l G (k_4_3 ha1) e40) ((E_9 kx_1 G) _ _) (kU_in kx_1 (by decide)) rfl wc_X9_readTreaty wm_X9_97 ws_X9_readTreaty wl_X9_readTreaty wi_X9 hy_X9_readTreaty ⟨Nat.le_of_ble_eq_true rfl, Nat.le_of_ble_eq_true rfl⟩ rfl rfl (Nat.le_of_ble_eq_true rfl) d_X9_readLine_74 ?_
          obtain ⟨q42, h⟩ := o_ck h
          obtain ⟨rfl, rfl⟩ := o_pair h
          exact z_zret C hlk hr (isB_nar q42) d_X9_readLine_77
      · have h := o_f q9 h
        refine z_aload_n 0 C d_X9_readLine_48 rfl rfl ?_
        refine z_iconst (v := (4 : Int32)) C d_X9_readLine_49 (by decide) ?_
        refine z_aload_n 1 C d_X9_readLine_50 rfl rfl ?_
        refine z_get (k := 2) (v := .ref (gB G + (a1 + 1))) C ((E_4 ha1 G) _ _) (kU_in ha1 (by decide)) rfl inX4 (by decide) wf_X9_89 rfl d_X9_readLine_51 ?_
        refine z_bipush (v := (9 : Int32)) C d_X9_readLine_54 (by decide) ?_
        obtain ⟨p44, e43, h⟩ := o_bd h
        refine z_V (S := []) (As := [.int (4 : Int32), .ref (gB G + (a1 + 1)), .int (9 : Int32)]) C (c_X9_readHours l G (k_4_2 ha1) e43) ((E_9 kx_1 G) _ _) (kU_in kx_1 (by decide)) rfl wc_X9_readHours wm_X9_83 ws_X9_readHours wl_X9_readHours wi_X9 hy_X9_readHours ⟨Nat.le_of_ble_eq_true rfl, Nat.le_of_ble_eq_true rfl⟩ rfl rfl (Nat.le_of_ble_eq_true rfl) d_X9_readLine_56 ?_
        obtain ⟨q45, h⟩ := o_ck h
        obtain ⟨rfl, rfl⟩ := o_pair h
        exact z_zret C hlk hr (isB_nar q45) d_X9_readLine_59
    · have h := o_f q6 h
      refine z_aload_n 0 C d_X9_readLine_24 rfl rfl ?_
      refine z_iconst (v := (2 : Int32)) C d_X9_readLine_25 (by decide) ?_
      refine z_aload_n 1 C d_X9_readLine_26 rfl rfl ?_
      refine z_get (k := 7) (v := .ref (gB G + (a1 + 5))) C ((E_4 ha1 G) _ _) (kU_in ha1 (by decide)) rfl inX4 (by decide) wf_X9_74 rfl d_X9_readLine_27 ?_
      refine z_get (k := 5) (v := .ref (gB G + ((a1 + 5) + 5))) C ((E_7 (k_4_7 ha1) G) _ _) (kU_in (k_4_7 ha1) (by decide)) rfl inX7 (by decide) wf_X9_78 rfl d_X9_readLine_30 ?_
      refine z_bipush (v := (9 : Int32)) C d_X9_readLine_33 (by decide) ?_
      obtain ⟨p47, e46, h⟩ := o_bd h
      refine z_V (S := []) (As := [.int (2 : Int32), .ref (gB G + ((a1 + 5) + 5)), .int (9 : Int32)]) C (c_X9_readHours l G (k_7_5 (k_4_7 ha1)) e46) ((E_9 kx_1 G) _ _) (kU_in kx_1 (by decide)) rfl wc_X9_readHours wm_X9_83 ws_X9_readHours wl_X9_readHours wi_X9 hy_X9_readHours ⟨Nat.le_of_ble_eq_true rfl, Nat.le_of_ble_eq_true rfl⟩ rfl rfl (Nat.le_of_ble_eq_true rfl) d_X9_readLine_35 ?_
      obtain ⟨q48, h⟩ := o_ck h
      obtain ⟨rfl, rfl⟩ := o_pair h
      exact z_zret C hlk hr (isB_nar q48) d_X9_readLine_38
  · have h := o_f q3 h
    refine z_aload_n 0 C d_X9_readLine_9 rfl rfl ?_
    refine z_aload_n 1 C d_X9_readLine_10 rfl rfl ?_
    obtain ⟨p50, e49, h⟩ := o_bd h
    refine z_V (S := []) (As := [.ref (gB G + a1)]) C (c_X9_readFurlongs l G ha1 e49) ((E_9 kx_1 G) _ _) (kU_in kx_1 (by decide)) rfl wc_X9_readFurlongs wm_X9_69 ws_X9_readFurlongs wl_X9_readFurlongs wi_X9 hy_X9_readFurlongs ⟨Nat.le_of_ble_eq_true rfl, Nat.le_of_ble_eq_true rfl⟩ rfl rfl (Nat.le_of_ble_eq_true rfl) d_X9_readLine_11 ?_
    obtain ⟨q51, h⟩ := o_ck h
    obtain ⟨rfl, rfl⟩ := o_pair h
    exact z_zret C hlk hr (isB_nar q51) d_X9_readLine_14
theorem c_X9_readLine (l : Launch) (G : GG) {M : Mm} {a1 : Nat} {r : Int32} {M2 : Mm} (ha1 : kU 0 a1 = 4) (h : f_X9_readLine M a1 = some (r, M2)) : CT l 0 G y_X9_readLine prog_11_method_6_code 2 (some .boolean) 8 207 [.ref (gB G + 1), .ref (gB G + a1)] M (some (.int r)) M2 :=
  CT.of (by decide +kernel) (Nat.le_of_ble_eq_true rfl) rfl (fun p e s m args below meth c C hlk hr => k_X9_readLine_0 C hlk hr ha1 h)
-- SnowSentries$Text.tell(LSnowSentries$Land;)V
set_option maxRecDepth 4000 in
theorem k_X9_tell_81 {p : Program} {l : Launch} {e : Env} {s : State} {m : MethodId} {args : Array Value} {below : List Frame} {meth : Method} {c : Code} {G : GG} {k40 : Mm → Int32 → Option Mm} {M : Mm} {a1 : Nat} {s_0 : Int32} {M2 : Mm} (C : CX p s m args c prog_11_method_4_code 3 "SnowSentries$Text" 0 G) (hlk : meth.locks = false) (hr : meth.sig.returnType = none) (ha1 : kU 0 a1 = 4) (hk40 : ∀ (M : Mm) (x2 : Int32), k40 M x2 = some M2 → Z p l e { frames := 9, cells := 0, slots := 0, locals := 228 } s m args below meth c 0 G 3 (MQ below (QC 0 G none M2) args s 0 0 (AU 0 G)) 40 [(0, .ref (gB G + 1)), (1, .ref (gB G + a1)), (2, .int x2)] [] M) : f_X9_tell_81 k40 M a1 s_0 = some M2 → Z p l e { frames := 9, cells := 0, slots := 0, locals := 228 } s m args below meth c 0 G 3 (MQ below (QC 0 G none M2) args s 0 0 (AU 0 G)) 81 [(0, .ref (gB G + 1)), (1, .ref (gB G + a1))] [.int s_0] M := by
  intro h
  unfold f_X9_tell_81 at h
  refine z_istore_n (L' := [(2, .int s_0), (0, .ref (gB G + 1)), (1, .ref (gB G + a1))]) C d_X9_tell_81 rfl (by decide) rfl ?_
  refine z_aload_n 1 C d_X9_tell_82 rfl rfl ?_
  refine z_dup C d_X9_tell_83 rfl ?_
  refine z_get (k := 2) (v := .int (M.1 1 2)) C ((E_9 kx_1 G) _ _) (kU_in kx_1 (by decide)) rfl inX9 (by decide) wf_X9_23 rfl d_X9_tell_84 ?_
  refine z_iconst (v := (1 : Int32)) C d_X9_tell_87 (by decide) ?_
  refine z_iadd C d_X9_tell_88 ?_
  obtain ⟨M1, e2, h⟩ := o_wr h
  refine z_pI (k := 2) (ty := .int) C (fun r q => (E_9 kx_1 G) r q) (fun _ _ => rfl) (kU_in kx_1 (by decide)) rfl inX9 tyX9 tyX9_ok nmX9 (by decide) wf_X9_23 rfl (by decide +kernel) rfl rfl (Nat.le_of_ble_eq_true rfl) d_X9_tell_89 ?_
  refine z_nM e2 ?_
  refine z_goto C d_X9_tell_92 ?_
  exact z_sub [1, 2, 0] rfl (hk40 _ _  h)
set_option maxRecDepth 4000 in
theorem k_X9_tell_80 {p : Program} {l : Launch} {e : Env} {s : State} {m : MethodId} {args : Array Value} {below : List Frame} {meth : Method} {c : Code} {G : GG} {k40 : Mm → Int32 → Option Mm} {M : Mm} {a1 : Nat} {M2 : Mm} (C : CX p s m args c prog_11_method_4_code 3 "SnowSentries$Text" 0 G) (hlk : meth.locks = false) (hr : meth.sig.returnType = none) (ha1 : kU 0 a1 = 4) (hk40 : ∀ (M : Mm) (x2 : Int32), k40 M x2 = some M2 → Z p l e { frames := 9, cells := 0, slots := 0, locals := 228 } s m args below meth c 0 G 3 (MQ below (QC 0 G none M2) args s 0 0 (AU 0 G)) 40 [(0, .ref (gB G + 1)), (1, .ref (gB G + a1)), (2, .int x2)] [] M) : f_X9_tell_80 k40 M a1 = some M2 → Z p l e { frames := 9, cells := 0, slots := 0, locals := 228 } s m args below meth c 0 G 3 (MQ below (QC 0 G none M2) args s 0 0 (AU 0 G)) 80 [(0, .ref (gB G + 1)), (1, .ref (gB G + a1))] [] M := by
  intro h
  unfold f_X9_tell_80 at h
  refine z_iconst (v := (0 : Int32)) C d_X9_tell_80 (by decide) ?_
  exact z_sub [0, 1] rfl (k_X9_tell_81 C hlk hr ha1 hk40 h)
set_option maxRecDepth 4000 in
theorem k_X9_tell_121 {p : Program} {l : Launch} {e : Env} {s : State} {m : MethodId} {args : Array Value} {below : List Frame} {meth : Method} {c : Code} {G : GG} {M : Mm} {M2 : Mm} (C : CX p s m args c prog_11_method_4_code 3 "SnowSentries$Text" 0 G) (hlk : meth.locks = false) (hr : meth.sig.returnType = none) : f_X9_tell_121 M = some M2 → Z p l e { frames := 9, cells := 0, slots := 0, locals := 228 } s m args below meth c 0 G 3 (MQ below (QC 0 G none M2) args s 0 0 (AU 0 G)) 121 [] [] M := by
  intro h
  unfold f_X9_tell_121 at h
  obtain rfl := o_some h
  exact z_vret C hlk hr d_X9_tell_121
set_option maxRecDepth 4000 in
theorem k_X9_tell_95 {p : Program} {l : Launch} {e : Env} {s : State} {m : MethodId} {args : Array Value} {below : List Frame} {meth : Method} {c : Code} {G : GG} {M : Mm} {a1 : Nat} {x2 : Int32} {M2 : Mm} (C : CX p s m args c prog_11_method_4_code 3 "SnowSentries$Text" 0 G) (hlk : meth.locks = false) (hr : meth.sig.returnType = none) (ha1 : kU 0 a1 = 4) : f_X9_tell_95 M a1 x2 = some M2 → Z p l e { frames := 9, cells := 0, slots := 0, locals := 228 } s m args below meth c 0 G 3 (MQ below (QC 0 G none M2) args s 0 0 (AU 0 G)) 95 [(0, .ref (gB G + 1)), (1, .ref (gB G + a1)), (2, .int x2)] [] M := by
  intro h
  unfold f_X9_tell_95 at h
  refine z_iload_n 2 C d_X9_tell_95 rfl rfl ?_
  refine z_if_eq C d_X9_tell_96 (fun q1 => ?_) (fun q1 => ?_)
  · have h := o_t q1 h
    exact z_sub [] rfl (k_X9_tell_121 C hlk hr h)
  · have h := o_f q1 h
    refine z_aload_n 0 C d_X9_tell_99 rfl rfl ?_
    refine z_get (k := 11) (v := .int (M.1 1 11)) C ((E_9 kx_1 G) _ _) (kU_in kx_1 (by decide)) rfl inX9 (by decide) wf_X9_41 rfl d_X9_tell_100 ?_
    refine z_aload_n 1 C d_X9_tell_103 rfl rfl ?_
    refine z_get (k := 0) (v := .int (M.1 a1 0)) C ((E_4 ha1 G) _ _) (kU_in ha1 (by decide)) rfl inX4 (by decide) wf_X9_55 rfl d_X9_tell_104 ?_
    refine z_icmp_lt C d_X9_tell_107 (fun q2 => ?_) (fun q2 => ?_)
    · have h := o_t q2 h
      exact z_sub [] rfl (k_X9_tell_121 C hlk hr h)
    · have h := o_f q2 h
      refine z_aload_n 0 C d_X9_tell_110 rfl rfl ?_
      refine z_bipush (v := (6 : Int32)) C d_X9_tell_111 (by decide) ?_
      refine z_aload_n 0 C d_X9_tell_113 rfl rfl ?_
      refine z_get (k := 1) (v := .int (M.1 1 1)) C ((E_9 kx_1 G) _ _) (kU_in kx_1 (by decide)) rfl inX9 (by decide) wf_X9_15 rfl d_X9_tell_114 ?_
      obtain ⟨p4, e3, h⟩ := o_bd h
      refine z_V (S := []) (As := [.int (6 : Int32), .int (M.1 1 1)]) C (c_X9_refuse l G e3) ((E_9 kx_1 G) _ _) (kU_in kx_1 (by decide)) rfl wc_X9_refuse wm_X9_60 ws_X9_refuse wl_X9_refuse wi_X9 hy_X9_refuse ⟨Nat.le_of_ble_eq_true rfl, Nat.le_of_ble_eq_true rfl⟩ rfl rfl (Nat.le_of_ble_eq_true rfl) d_X9_tell_117 ?_
      refine z_pop C d_X9_tell_120 rfl ?_
      exact z_sub [] rfl (k_X9_tell_121 C hlk hr h)
set_option maxRecDepth 4000 in
theorem kb_X9_tell_40 {p : Program} {l : Launch} {e : Env} {s : State} {m : MethodId} {args : Array Value} {below : List Frame} {meth : Method} {c : Code} {G : GG} {k40 : Mm → Int32 → Option Mm} {a1 : Nat} {M : Mm} {x2 : Int32} {M2 : Mm} (C : CX p s m args c prog_11_method_4_code 3 "SnowSentries$Text" 0 G) (hlk : meth.locks = false) (hr : meth.sig.returnType = none) (ha1 : kU 0 a1 = 4) (hk40 : ∀ (M : Mm) (x2 : Int32), k40 M x2 = some M2 → Z p l e { frames := 9, cells := 0, slots := 0, locals := 228 } s m args below meth c 0 G 3 (MQ below (QC 0 G none M2) args s 0 0 (AU 0 G)) 40 [(0, .ref (gB G + 1)), (1, .ref (gB G + a1)), (2, .int x2)] [] M) : b_X9_tell_40 k40 a1 M x2 = some M2 → Z p l e { frames := 9, cells := 0, slots := 0, locals := 228 } s m args below meth c 0 G 3 (MQ below (QC 0 G none M2) args s 0 0 (AU 0 G)) 40 [(0, .ref (gB G + 1)), (1, .ref (gB G + a1)), (2, .int x2)] [] M := by
  intro h
  unfold b_X9_tell_40 at h
  refine z_aload_n 0 C d_X9_tell_40 rfl rfl ?_
  refine z_get (k := 2) (v := .int (M.1 1 2)) C ((E_9 kx_1 G) _ _) (kU_in kx_1 (by decide)) rfl inX9 (by decide) wf_X9_23 rfl d_X9_tell_41 ?_
  refine z_sipush (v := (400 : Int32)) C d_X9_tell_44 (by decide) ?_
  refine z_icmp_ge C d_X9_tell_47 (fun q1 => ?_) (fun q1 => ?_)
  · have h := o_t q1 h
    exact z_sub [0, 1, 2] rfl (k_X9_tell_95 C hlk hr ha1 h)
  · have h := o_f q1 h
    refine z_iload_n 2 C d_X9_tell_50 rfl rfl ?_
    refine z_if_eq C d_X9_tell_51 (fun q2 => ?_) (fun q2 => ?_)
    · have h := o_t q2 h
      exact z_sub [0, 1, 2] rfl (k_X9_tell_95 C hlk hr ha1 h)
    · have h := o_f q2 h
      refine z_aload_n 0 C d_X9_tell_54 rfl rfl ?_
      refine z_get (k := 5) (v := .int (M.1 1 5)) C ((E_9 kx_1 G) _ _) (kU_in kx_1 (by decide)) rfl inX9 (by decide) wf_X9_48 rfl d_X9_tell_55 ?_
      refine z_if_eq C d_X9_tell_58 (fun q3 => ?_) (fun q3 => ?_)
      · have h := o_t q3 h
        exact z_sub [0, 1, 2] rfl (k_X9_tell_95 C hlk hr ha1 h)
      · have h := o_f q3 h
        refine z_aload_n 0 C d_X9_tell_61 rfl rfl ?_
        refine z_aload_n 1 C d_X9_tell_62 rfl rfl ?_
        obtain ⟨p5, e4, h⟩ := o_bd h
        refine z_V (S := []) (As := [.ref (gB G + a1)]) C (c_X9_readLine l G ha1 e4) ((E_9 kx_1 G) _ _) (kU_in kx_1 (by decide)) rfl wc_X9_readLine wm_X9_51 ws_X9_readLine wl_X9_readLine wi_X9 hy_X9_readLine ⟨Nat.le_of_ble_eq_true rfl, Nat.le_of_ble_eq_true rfl⟩ rfl rfl (Nat.le_of_ble_eq_true rfl) d_X9_tell_63 ?_
        refine z_if_eq C d_X9_tell_66 (fun q6 => ?_) (fun q6 => ?_)
        · have h := o_t q6 h
          exact z_sub [0, 1] rfl (k_X9_tell_80 C hlk hr ha1 hk40 h)
        · have h := o_f q6 h
          refine z_aload_n 0 C d_X9_tell_69 rfl rfl ?_
          obtain ⟨p8, e7, h⟩ := o_bd h
          refine z_V (S := []) (As := []) C (c_X9_readToken l G e7) ((E_9 kx_1 G) _ _) (kU_in kx_1 (by decide)) rfl wc_X9_readToken wm_X9_44 ws_X9_readToken wl_X9_readToken wi_X9 hy_X9_readToken ⟨Nat.le_of_ble_eq_true rfl, Nat.le_of_ble_eq_true rfl⟩ rfl rfl (Nat.le_of_ble_eq_true rfl) d_X9_tell_70 ?_
          refine z_if_eq C d_X9_tell_73 (fun q9 => ?_) (fun q9 => ?_)
          · have h := o_t q9 h
            exact z_sub [0, 1] rfl (k_X9_tell_80 C hlk hr ha1 hk40 h)
          · have h := o_f q9 h
            refine z_iconst (v := (1 : Int32)) C d_X9_tell_76 (by decide) ?_
            refine z_goto C d_X9_tell_77 ?_
            exact z_sub [0, 1] rfl (k_X9_tell_81 C hlk hr ha1 hk40 h)
theorem k_X9_tell_40 {p : Program} {l : Launch} {e : Env} {s : State} {m : MethodId} {args : Array Value} {below : List Frame} {meth : Method} {c : Code} {G : GG} {a1 : Nat} {M2 : Mm} (C : CX p s m args c prog_11_method_4_code 3 "SnowSentries$Text" 0 G) (hlk : meth.locks = false) (hr : meth.sig.returnType = none) (ha1 : kU 0 a1 = 4) : ∀ (n : Nat) (M : Mm) (x2 : Int32), f_X9_tell_40 a1 n M x2 = some M2 → Z p l e { frames := 9, cells := 0, slots := 0, locals := 228 } s m args below meth c 0 G 3 (MQ below (QC 0 G none M2) args s 0 0 (AU 0 G)) 40 [(0, .ref (gB G + 1)), (1, .ref (gB G + a1)), (2, .int x2)] [] M := by
  intro n
  induction n with
  | zero =>
    intro M x2  h
    exact absurd h (fun z => by cases z)
  | succ n ih =>
    intro M x2  h
    exact kb_X9_tell_40 C hlk hr ha1 (fun M x2 h => ih M x2 h) h
set_option maxRecDepth 4000 in
theorem k_X9_tell_0 {p : Program} {l : Launch} {e : Env} {s : State} {m : MethodId} {args : Array Value} {below : List Frame} {meth : Method} {c : Code} {G : GG} {M : Mm} {a1 : Nat} {M2 : Mm} (C : CX p s m args c prog_11_method_4_code 3 "SnowSentries$Text" 0 G) (hlk : meth.locks = false) (hr : meth.sig.returnType = none) (ha1 : kU 0 a1 = 4) : f_X9_tell M a1 = some M2 → Z p l e { frames := 9, cells := 0, slots := 0, locals := 228 } s m args below meth c 0 G 3 (MQ below (QC 0 G none M2) args s 0 0 (AU 0 G)) 0 [(0, .ref (gB G + 1)), (1, .ref (gB G + a1))] [] M := by
  intro h
  unfold f_X9_tell at h
  refine z_aload_n 0 C d_X9_tell_0 rfl rfl ?_
  refine z_iconst (v := (0 : Int32)) C d_X9_tell_1 (by decide) ?_
  obtain ⟨M1, e2, h⟩ := o_wr h
  refine z_pI (k := 2) (ty := .int) C (fun r q => (E_9 kx_1 G) r q) (fun _ _ => rfl) (kU_in kx_1 (by decide)) rfl inX9 tyX9 tyX9_ok nmX9 (by decide) wf_X9_23 rfl (by decide +kernel) rfl rfl (Nat.le_of_ble_eq_true rfl) d_X9_tell_2 ?_
  refine z_nM e2 ?_
  refine z_aload_n 0 C d_X9_tell_5 rfl rfl ?_
  refine z_iconst (v := (0 : Int32)) C d_X9_tell_6 (by decide) ?_
  obtain ⟨M3, e4, h⟩ := o_wr h
  refine z_pI (k := 3) (ty := .int) C (fun r q => (E_9 kx_1 G) r q) (fun _ _ => rfl) (kU_in kx_1 (by decide)) rfl inX9 tyX9 tyX9_ok nmX9 (by decide) wf_X9_26 rfl (by decide +kernel) rfl rfl (Nat.le_of_ble_eq_true rfl) d_X9_tell_7 ?_
  refine z_nM e4 ?_
  refine z_aload_n 0 C d_X9_tell_10 rfl rfl ?_
  refine z_iconst (v := (0 : Int32)) C d_X9_tell_11 (by decide) ?_
  obtain ⟨M5, e6, h⟩ := o_wr h
  refine z_pI (k := 4) (ty := .int) C (fun r q => (E_9 kx_1 G) r q) (fun _ _ => rfl) (kU_in kx_1 (by decide)) rfl inX9 tyX9 tyX9_ok nmX9 (by decide) wf_X9_29 rfl (by decide +kernel) rfl rfl (Nat.le_of_ble_eq_true rfl) d_X9_tell_12 ?_
  refine z_nM e6 ?_
  refine z_aload_n 0 C d_X9_tell_15 rfl rfl ?_
  refine z_iconst (v := (0 : Int32)) C d_X9_tell_16 (by decide) ?_
  obtain ⟨M7, e8, h⟩ := o_wr h
  refine z_pI (k := 7) (ty := .int) C (fun r q => (E_9 kx_1 G) r q) (fun _ _ => rfl) (kU_in kx_1 (by decide)) rfl inX9 tyX9 tyX9_ok nmX9 (by decide) wf_X9_32 rfl (by decide +kernel) rfl rfl (Nat.le_of_ble_eq_true rfl) d_X9_tell_17 ?_
  refine z_nM e8 ?_
  refine z_aload_n 0 C d_X9_tell_20 rfl rfl ?_
  refine z_iconst (v := (0 : Int32)) C d_X9_tell_21 (by decide) ?_
  obtain ⟨M9, e10, h⟩ := o_wr h
  refine z_pI (k := 9) (ty := .int) C (fun r q => (E_9 kx_1 G) r q) (fun _ _ => rfl) (kU_in kx_1 (by decide)) rfl inX9 tyX9 tyX9_ok nmX9 (by decide) wf_X9_35 rfl (by decide +kernel) rfl rfl (Nat.le_of_ble_eq_true rfl) d_X9_tell_22 ?_
  refine z_nM e10 ?_
  refine z_aload_n 0 C d_X9_tell_25 rfl rfl ?_
  refine z_iconst (v := (0 : Int32)) C d_X9_tell_26 (by decide) ?_
  obtain ⟨M11, e12, h⟩ := o_wr h
  refine z_pI (k := 10) (ty := .int) C (fun r q => (E_9 kx_1 G) r q) (fun _ _ => rfl) (kU_in kx_1 (by decide)) rfl inX9 tyX9 tyX9_ok nmX9 (by decide) wf_X9_38 rfl (by decide +kernel) rfl rfl (Nat.le_of_ble_eq_true rfl) d_X9_tell_27 ?_
  refine z_nM e12 ?_
  refine z_aload_n 0 C d_X9_tell_30 rfl rfl ?_
  refine z_iconst (v := (0 : Int32)) C d_X9_tell_31 (by decide) ?_
  obtain ⟨M13, e14, h⟩ := o_wr h
  refine z_pI (k := 11) (ty := .int) C (fun r q => (E_9 kx_1 G) r q) (fun _ _ => rfl) (kU_in kx_1 (by decide)) rfl inX9 tyX9 tyX9_ok nmX9 (by decide) wf_X9_41 rfl (by decide +kernel) rfl rfl (Nat.le_of_ble_eq_true rfl) d_X9_tell_32 ?_
  refine z_nM e14 ?_
  refine z_aload_n 0 C d_X9_tell_35 rfl rfl ?_
  obtain ⟨p16, e15, h⟩ := o_bd h
  refine z_V (S := []) (As := []) C (c_X9_readToken l G e15) ((E_9 kx_1 G) _ _) (kU_in kx_1 (by decide)) rfl wc_X9_readToken wm_X9_44 ws_X9_readToken wl_X9_readToken wi_X9 hy_X9_readToken ⟨Nat.le_of_ble_eq_true rfl, Nat.le_of_ble_eq_true rfl⟩ rfl rfl (Nat.le_of_ble_eq_true rfl) d_X9_tell_36 ?_
  obtain ⟨v17, e18, h⟩ := o_nm h
  refine z_nI e18 ?_
  refine z_istore_n (L' := [(2, .int v17), (0, .ref (gB G + 1)), (1, .ref (gB G + a1))]) C d_X9_tell_39 rfl (by decide) rfl ?_
  exact z_sub [1, 2, 0] rfl (k_X9_tell_40 C hlk hr ha1 _ _ _ h)
theorem c_X9_tell (l : Launch) (G : GG) {M : Mm} {a1 : Nat} {M2 : Mm} (ha1 : kU 0 a1 = 4) (h : f_X9_tell M a1 = some M2) : CT l 0 G y_X9_tell prog_11_method_4_code 3 none 9 228 [.ref (gB G + 1), .ref (gB G + a1)] M none M2 :=
  CT.of (by decide +kernel) (Nat.le_of_ble_eq_true rfl) rfl (fun p e s m args below meth c C hlk hr => k_X9_tell_0 C hlk hr ha1 h)
